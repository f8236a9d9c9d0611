/-! names that are bound -/
abbrev mayB (tk : TK) (a : Nat) : Prop := ¬ f_Tk_identifier tk (nI a) 1 = 0 ∧ f_Tk_evalOrArguments (f_Tk_name tk (nI a)) = 0
abbrev geL (ge : gE) (x : Int32) : gE := (ge.1, ge.2.1, x, ge.2.2.2)
section PUB
variable {tk : TK} {lb : LB} {co : CO} {L : List Nd} {st : ST} {gt : gT} {ge : gE} {gp : gP} {gq : gQ} {a : Nat} {li : Int32} {g : gN} {mo : MO} {Q : Int32 → ST → Int32 → MO → Prop} {k : Int32 → ST → Rz} {k' : Int32 → MO → Rm}
theorem id_kind (hR : TkR tk gt) (ha : a ≤ tkn tk) {s : Int32} (hi : ¬ f_Tk_identifier tk (nI a) s = 0) : a < tkn tk ∧ f_Tk_kind tk (nI a) = 1 := by
  have hT := hR.1
  have hl : a < tkn tk := by
    by_cases e : a < tkn tk
    · exact e
    · exact absurd ((tk_out hT (by omega) (by omega)).2.2.2.2.2 s) hi
  refine ⟨hl, ?_⟩
  rw [(tk_in hT hl).1]
  refine Classical.byContradiction (fun e => hi ?_)
  unfold f_Tk_identifier
  rw [if_neg (nI_pos (by omega)), if_neg (nI_ge hl (by omega)), nI_clamp (by omega), if_neg e]
theorem nm_pos (hR : TkR tk gt) (ha : a < tkn tk) (hk : f_Tk_kind tk (nI a) = 1) : ¬ f_Tk_name tk (nI a) < 0 := by
  rw [(tk_in hR.1 ha).2.1]
  rw [(tk_in hR.1 ha).1] at hk
  exact name_pos (known1 (hR.2.2 a ha).2.2.2.2.2 hk).2
theorem rs_decl (hR : TkR tk gt) (ha : a ≤ tkn tk) (hm : gM gt ge gp gq a li g mo) (hs : ge.1 = 0 ∨ ge.1 = 1) (hlo : ge.2.2.1 = 0 ∨ ge.2.2.1 = 1) (hi : ¬ f_Tk_identifier tk (nI a) ge.1 = 0) (hn : ge.1 = 0 ∨ f_Tk_evalOrArguments (f_Tk_name tk (nI a)) = 0) :
    f_Mo_declared mo = some (.inr (f_Tk_name tk (nI a), s_loose (s_at mo (q_at mo + 1)) (if ge.2.2.1 = 0 ∧ mayB tk a then 0 else 1))) := by
  have hT := hR.1
  obtain ⟨hl, hk⟩ := id_kind hR ha hi
  have hid := rs_ident hR ha hm hs hi
  have q1 : q_strict (s_at mo (q_at mo + 1)) = ge.1 := by show mo.2.2.2.1.1 = _; rw [gM_ge hm]
  have q2 : q_loose (s_at mo (q_at mo + 1)) = ge.2.2.1 := by show mo.2.2.2.1.2.2.1 = _; rw [gM_ge hm]
  have hev := eva (nm_pos hR hl hk)
  have hw : q_names mo (q_at mo).toNatClampNeg = f_Tk_name tk (nI a) := by rw [(gM_word hR hm hl).2.1, (tk_in hT hl).2.1]
  have tail : ∀ later : Int32, (if q_strict (s_at mo (q_at mo + 1)) = 0 then (if q_loose (s_at mo (q_at mo + 1)) = 0 then (some (.inr (f_Tk_name tk (nI a), (s_loose (s_at mo (q_at mo + 1)) later))) : Rm) else (some (.inr (f_Tk_name tk (nI a), (s_loose (s_at mo (q_at mo + 1)) 1))))) else (if 2 ≤ f_Tk_name tk (nI a) then (if (q_loose (s_at mo (q_at mo + 1))) = 0 then (some (.inr (f_Tk_name tk (nI a), (s_loose (s_at mo (q_at mo + 1)) later)))) else (some (.inr (f_Tk_name tk (nI a), (s_loose (s_at mo (q_at mo + 1)) 1))))) else (bndM (f_Mo_refuse (s_at mo (q_at mo + 1)) ((q_at (s_at mo (q_at mo + 1))) - 1)) (fun _ mo_8 => (if (q_loose mo_8) = 0 then (some (.inr (f_Tk_name tk (nI a), (s_loose mo_8 later)))) else (some (.inr (f_Tk_name tk (nI a), (s_loose mo_8 1)))))))))
      = some (.inr (f_Tk_name tk (nI a), s_loose (s_at mo (q_at mo + 1)) (if ge.2.2.1 = 0 then later else 1))) := by
    intro later
    rw [q1, q2]
    by_cases c : ge.1 = 0
    · rw [if_pos c]
      by_cases c2 : ge.2.2.1 = 0
      · rw [if_pos c2, if_pos c2]
      · rw [if_neg c2, if_neg c2]
    · rw [if_neg c, if_pos (hev.mp (hn.resolve_left c))]
      by_cases c2 : ge.2.2.1 = 0
      · rw [if_pos c2, if_pos c2]
      · rw [if_neg c2, if_neg c2]
  have ite11 : (if ge.2.2.1 = 0 then (1 : Int32) else 1) = 1 := by split <;> rfl
  unfold f_Mo_declared
  rw [rs_kind hR hm ha (k := 1) (by decide), if_pos hk]
  rw [bndM_some]
  rw [if_neg (by decide), rs_res hR hm hk ha (Or.inr rfl)]
  by_cases c1 : f_Tk_identifier tk (nI a) 1 = 0
  · rw [if_pos c1]
    rw [bndM_some]
    rw [if_neg (by decide), hid]
    refine (tail 1).trans ?_
    rw [ite11, if_neg (show ¬ (ge.2.2.1 = 0 ∧ mayB tk a) from fun h => h.2.1 c1)]
  · rw [if_neg c1]
    rw [bndM_some]
    rw [if_pos rfl, if_pos (gM_inb hm (by omega)), hw]
    by_cases c3 : 2 ≤ f_Tk_name tk (nI a)
    · rw [if_pos c3, hid]
      refine (tail 0).trans ?_
      by_cases c2 : ge.2.2.1 = 0
      · rw [if_pos c2, if_pos (show ge.2.2.1 = 0 ∧ mayB tk a from ⟨c2, c1, hev.mpr c3⟩)]
      · rw [if_neg c2, if_neg (show ¬ (ge.2.2.1 = 0 ∧ mayB tk a) from fun h => c2 h.1)]
    · rw [if_neg c3, hid]
      refine (tail 1).trans ?_
      rw [ite11, if_neg (show ¬ (ge.2.2.1 = 0 ∧ mayB tk a) from fun h => c3 (hev.mp h.2.2))]
theorem RefM_decl (hR : TkR tk gt) (ha : a ≤ tkn tk) (hm : gM gt ge gp gq a li g mo) (hs : ge.1 = 0 ∨ ge.1 = 1) (h : f_Tk_identifier tk (nI a) ge.1 = 0 ∨ ¬ ge.1 = 0 ∧ ¬ f_Tk_evalOrArguments (f_Tk_name tk (nI a)) = 0) : RefM (f_Mo_declared mo) (nI a) := by
  have hT := hR.1
  by_cases hi : f_Tk_identifier tk (nI a) ge.1 = 0
  · have h1 := RefM_ident hR ha hm hs hi
    unfold f_Mo_declared
    rw [rs_kind hR hm ha (k := 1) (by decide)]
    by_cases hk : f_Tk_kind tk (nI a) = 1
    · rw [if_pos hk]
      rw [bndM_some]
      rw [if_neg (by decide), rs_res hR hm hk ha (Or.inr rfl)]
      by_cases c1 : f_Tk_identifier tk (nI a) 1 = 0
      · rw [if_pos c1]
        rw [bndM_some]
        rw [if_neg (by decide)]
        exact RefM_bnd h1
      · rw [if_neg c1]
        rw [bndM_some]
        have hl := lt_of_kind hT (by omega) hk (by decide)
        rw [if_pos rfl, if_pos (gM_inb hm (by omega))]
        split
        · exact RefM_bnd h1
        · exact RefM_bnd h1
    · rw [if_neg hk]
      rw [bndM_some]
      rw [if_pos rfl]
      exact RefM_bnd h1
  · obtain ⟨h2, h3⟩ := h.resolve_left hi
    obtain ⟨hl, hk⟩ := id_kind hR ha hi
    have hid := rs_ident hR ha hm hs hi
    have hev := eva (nm_pos hR hl hk)
    have q1 : q_strict (s_at mo (q_at mo + 1)) = ge.1 := by show mo.2.2.2.1.1 = _; rw [gM_ge hm]
    have hw : q_names mo (q_at mo).toNatClampNeg = f_Tk_name tk (nI a) := by rw [(gM_word hR hm hl).2.1, (tk_in hT hl).2.1]
    have c3 : ¬ 2 ≤ f_Tk_name tk (nI a) := fun h => h3 (hev.mpr h)
    have q3 : q_at (s_at mo (q_at mo + 1)) - 1 = nI a := by show q_at mo + 1 - 1 = _; rw [gM_at hm, nI_1, nI_pred]
    unfold f_Mo_declared
    rw [rs_kind hR hm ha (k := 1) (by decide), if_pos hk]
    rw [bndM_some]
    rw [if_neg (by decide), rs_res hR hm hk ha (Or.inr rfl)]
    by_cases c1 : f_Tk_identifier tk (nI a) 1 = 0
    · rw [if_pos c1]
      rw [bndM_some]
      rw [if_neg (by decide), hid]
      show RefM (if q_strict (s_at mo (q_at mo + 1)) = 0 then _ else _) _
      rw [q1, if_neg h2, if_neg c3, q3]
      exact RefM_bnd (RefM_refuse _ _)
    · rw [if_neg c1]
      rw [bndM_some]
      rw [if_pos rfl, if_pos (gM_inb hm (by omega)), hw, if_neg c3, hid]
      show RefM (if q_strict (s_at mo (q_at mo + 1)) = 0 then _ else _) _
      rw [q1, if_neg h2, if_neg c3, q3]
      exact RefM_bnd (RefM_refuse _ _)
theorem gC_cs (h : gC tk lb co a li L st) : coS st = co.2.2.1 := congrArg (fun q : CO => q.2.2.1) (gC_co h)
theorem gM_loose (h : gM gt ge gp gq a li g mo) (x : Int32) : gM gt (geL ge x) gp gq a li g (s_loose mo x) := by obtain ⟨th, rfl⟩ := h; exact ⟨th, rfl⟩
theorem sm_bound (hR : TkR tk gt) (ha : a ≤ tkn tk) (hc : gC tk lb co a li L st) (hm : gM gt ge gp gq a li g mo) (hs : ge.1 = co.2.2.1) (hs2 : co.2.2.1 = 0 ∨ co.2.2.1 = 1) (hlo : ge.2.2.1 = 0 ∨ ge.2.2.1 = 1)
    (hk : a < tkn tk → f_Tk_kind tk (nI a) = 1 → ∀ st' mo', gC tk lb co (a + 1) li L st' → gM gt (geL ge (if ge.2.2.1 = 0 ∧ mayB tk a then 0 else 1)) gp gq (a + 1) li g mo' → (¬ f_Tk_identifier tk (nI a) co.2.2.1 = 0 ∧ (co.2.2.1 = 0 ∨ f_Tk_evalOrArguments (f_Tk_name tk (nI a)) = 0)) → Sim (k (f_Tk_name tk (nI a)) st') (k' (f_Tk_name tk (nI a)) mo') Q) : Sim (bnd (f_Cu_boundName st) k) (bndM (f_Mo_declared mo) k') Q := by
  have hs3 : ge.1 = 0 ∨ ge.1 = 1 := by rw [hs]; exact hs2
  have ecs := gC_cs hc
  have ea := gC_at hc
  have etk := gC_tk hc
  by_cases hi : f_Tk_identifier tk (nI a) co.2.2.1 = 0
  · refine Sim_rr (p := nI a) (Ref_bnd ?_) (RefM_bnd (RefM_decl hR ha hm hs3 (Or.inl (by rw [hs]; exact hi)))) (at_ne hR ha)
    unfold f_Cu_boundName
    rw [ecs, etk, ea]
    split
    · exact Ref_bnd (Ref_refuse hc _)
    · split
      · exact Ref_bnd (Ref_refuse hc _)
      · exact Ref_bnd (Ref_refuse hc _)
  · by_cases hn : co.2.2.1 = 0 ∨ f_Tk_evalOrArguments (f_Tk_name tk (nI a)) = 0
    · obtain ⟨hl, hkd⟩ := id_kind hR ha hi
      rw [rs_decl hR ha hm hs3 hlo (by rw [hs]; exact hi) (by rw [hs]; exact hn)]
      have e1 : f_Cu_boundName st = some (.inr (f_Tk_name tk (nI a), setAt st (sAt st + 1))) := by
        unfold f_Cu_boundName
        rw [ecs, etk, ea]
        by_cases c : co.2.2.1 = 0
        · rw [if_pos c, if_neg hi]
        · rw [if_neg c, if_pos (hn.resolve_left c), if_neg hi]
      rw [e1]
      exact hk hl hkd _ _ (gC_inc hc) (gM_loose (gM_inc hm) _) ⟨hi, hn⟩
    · have h2 : ¬ co.2.2.1 = 0 := fun e => hn (Or.inl e)
      have h3 : ¬ f_Tk_evalOrArguments (f_Tk_name tk (nI a)) = 0 := fun e => hn (Or.inr e)
      refine Sim_rr (p := nI a) (Ref_bnd ?_) (RefM_bnd (RefM_decl hR ha hm hs3 (Or.inr (by rw [hs]; exact ⟨h2, h3⟩)))) (at_ne hR ha)
      unfold f_Cu_boundName
      rw [ecs, etk, ea, if_neg h2, if_neg h3]
      exact Ref_bnd (Ref_refuse hc _)
end PUB
/-! the relation that the two parsers keep -/
def Wf (tk : TK) (gt : gT) (co : CO) (lb : LB) (ge : gE) (gp : gP) (a : Nat) : Prop :=
  TkR tk gt ∧ a ≤ tkn tk ∧ (ge.1 = co.2.2.1 ∧ (co.2.2.1 = 0 ∨ co.2.2.1 = 1)) ∧ (ge.2.1 = co.1 ∧ (co.1 = 0 ∨ co.1 = 1)) ∧ (ge.2.2.1 = 0 ∨ ge.2.2.1 = 1) ∧ (ge.2.2.2.1 = nI (lbn lb) ∧ lbn lb ≤ 100) ∧ (ge.2.2.2.2.1 = co.2.1 ∧ ∃ f, co.2.1 = nI f ∧ f ≤ lbn lb) ∧
    (∃ p w, co.2.2.2.1 = nI p ∧ co.2.2.2.2 = nI w ∧ ge.2.2.2.2.2.1 = nI p ∧ ge.2.2.2.2.2.2.1 = nI (p + w) ∧ p + w ≤ a) ∧ ∃ pr, gp.1 = nI pr ∧ pr ≤ a
/-- what a call leaves of labels and properties as it was -/
def Fr (nf : Nat) (lb lb' : LB) (ge ge' : gE) (gp gp' : gP) : Prop :=
  lbn lb' = lbn lb ∧ (∀ i, i < lbn lb → lbN lb' i = lbN lb i ∧ ge'.2.2.2.2.2.2.2.1 i = ge.2.2.2.2.2.2.2.1 i) ∧ (∀ i, i < nf → lbL lb' i = lbL lb i ∧ ge'.2.2.2.2.2.2.2.2 i = ge.2.2.2.2.2.2.2.2 i) ∧
    (ge'.1 = ge.1 ∧ ge'.2.1 = ge.2.1 ∧ ge'.2.2.1 = ge.2.2.1 ∧ ge'.2.2.2.1 = ge.2.2.2.1 ∧ ge'.2.2.2.2.1 = ge.2.2.2.2.1 ∧ ge'.2.2.2.2.2.1 = ge.2.2.2.2.2.1 ∧ ge'.2.2.2.2.2.2.1 = ge.2.2.2.2.2.2.1) ∧
    gp'.1 = gp.1 ∧ ∀ i, nI i < gp.1 → i < 2 ^ 31 → gp'.2.1 i = gp.2.1 i ∧ gp'.2.2 i = gp.2.2 i
theorem Fr_refl (nf : Nat) (lb : LB) (ge : gE) (gp : gP) : Fr nf lb lb ge ge gp gp := ⟨rfl, fun _ _ => ⟨rfl, rfl⟩, fun _ _ => ⟨rfl, rfl⟩, ⟨rfl, rfl, rfl, rfl, rfl, rfl, rfl⟩, rfl, fun _ _ _ => ⟨rfl, rfl⟩⟩
theorem Fr_trans {nf nf' : Nat} {lb lb1 lb2 : LB} {ge ge1 ge2 : gE} {gp gp1 gp2 : gP} (h1 : Fr nf lb lb1 ge ge1 gp gp1) (h2 : Fr nf' lb1 lb2 ge1 ge2 gp1 gp2) (hn : nf ≤ nf') : Fr nf lb lb2 ge ge2 gp gp2 := by
  obtain ⟨a1, a2, a3, ⟨b1, b2, b3, b4, b5, b6, b7⟩, a5, a6⟩ := h1
  obtain ⟨c1, c2, c3, ⟨d1, d2, d3, d4, d5, d6, d7⟩, c5, c6⟩ := h2
  refine ⟨c1.trans a1, fun i hi => ?_, fun i hi => ?_, ⟨d1.trans b1, d2.trans b2, d3.trans b3, d4.trans b4, d5.trans b5, d6.trans b6, d7.trans b7⟩, c5.trans a5, fun i hi hb => ?_⟩
  · have e1 := c2 i (by rw [a1]; exact hi)
    have e2 := a2 i hi
    exact ⟨e1.1.trans e2.1, e1.2.trans e2.2⟩
  · have e1 := c3 i (by omega)
    have e2 := a3 i hi
    exact ⟨e1.1.trans e2.1, e1.2.trans e2.2⟩
  · have e1 := c6 i (by rw [a5]; exact hi) hb
    have e2 := a6 i hi hb
    exact ⟨e1.1.trans e2.1, e1.2.trans e2.2⟩
theorem Fr_less {nf nf' : Nat} {lb lb1 : LB} {ge ge1 : gE} {gp gp1 : gP} (h1 : Fr nf lb lb1 ge ge1 gp gp1) (hn : nf' ≤ nf) : Fr nf' lb lb1 ge ge1 gp gp1 := by
  obtain ⟨a1, a2, a3, a4, a5, a6⟩ := h1
  exact ⟨a1, a2, fun i hi => a3 i (by omega), a4, a5, a6⟩
theorem Wf_fr {tk : TK} {gt : gT} {co : CO} {lb lb' : LB} {ge ge' : gE} {gp gp' : gP} {a a' nf : Nat} (h : Wf tk gt co lb ge gp a) (hf : Fr nf lb lb' ge ge' gp gp') (h1 : a ≤ a') (h2 : a' ≤ tkn tk) : Wf tk gt co lb' ge' gp' a' := by
  obtain ⟨a1, a2, ⟨a3, a4⟩, ⟨a5, a6⟩, a7, ⟨a8, a9⟩, ⟨a10, f, a11, a12⟩, ⟨p, w, a13, a14, a15, a16, a17⟩, pr, a18, a19⟩ := h
  obtain ⟨c1, c2, c3, ⟨d1, d2, d3, d4, d5, d6, d7⟩, c5, c6⟩ := hf
  refine ⟨a1, h2, ⟨d1.trans a3, a4⟩, ⟨d2.trans a5, a6⟩, by rw [d3]; exact a7, ⟨by rw [d4, c1]; exact a8, by rw [c1]; exact a9⟩, ⟨d5.trans a10, f, a11, by rw [c1]; exact a12⟩, ⟨p, w, a13, a14, d6.trans a15, d7.trans a16, by omega⟩, pr, c5.trans a18, by omega⟩
theorem Wf_up {tk : TK} {gt : gT} {co : CO} {lb : LB} {ge : gE} {gp : gP} {a a' : Nat} (h : Wf tk gt co lb ge gp a) (h1 : a ≤ a') (h2 : a' ≤ tkn tk) : Wf tk gt co lb ge gp a' := Wf_fr h (Fr_refl 0 lb ge gp) h1 h2
def RR (tk : TK) (gt : gT) (co : CO) (lb : LB) (ge : gE) (gp : gP) (gq : gQ) (a : Nat) (li : Int32) (g : gN) (m : Nat) (L : List Nd) (st : ST) (mo : MO) : Prop := Wf tk gt co lb ge gp a ∧ gC tk lb co a li L st ∧ gM gt ge gp gq a li g mo ∧ nM g = nI m
/-- what a call that makes one tree leaves -/
def PX (sl nf : Nat) (X : Nat → List Nd → Prop) (tk : TK) (gt : gT) (co : CO) (lb : LB) (ge : gE) (gp : gP) (gq : gQ) (a : Nat) (g : gN) (m : Nat) (L : List Nd) : Int32 → ST → Int32 → MO → Prop := fun _ st n mo =>
  ∃ lb' ge' gp' a' li' g' m' sg n', n = nI n' ∧ RR tk gt co lb' ge' gp' gq a' li' g' m' (L ++ sg) st mo ∧ Fr nf lb lb' ge ge' gp gp' ∧ FrN g g' m ∧ One g' n' sg m m' ∧ a < a' ∧ sg.length + sl ≤ 2 * (a' - a) ∧ m' + sl ≤ m + 2 * (a' - a) ∧ X a' sg
/-- two calls that go together -/
def HC (sl dl : Nat) (X : TK × CO → Nat → Nat → List Nd → Prop) (A : ST → Rz) (B : MO → Rm) (e : Nat) : Prop := ∀ tk gt co lb ge gp gq a li g m L st mo, RR tk gt co lb ge gp gq a li g m L st mo → lbn lb < e → L.length ≤ 2 * a + dl → m ≤ 2 * a + dl → Sim (A st) (B mo) (PX sl (lbn lb) (X (tk, co) a) tk gt co lb ge gp gq a g m L)
abbrev XT : TK × CO → Nat → Nat → List Nd → Prop := fun _ _ _ _ => True
/-- behind an expression of the level of assignments stands no sign of assignment -/
abbrev XA : TK × CO → Nat → Nat → List Nd → Prop := fun tc _ a' _ => f_Tk_sign tc.1 (nI a') < 30 ∨ 53 < f_Tk_sign tc.1 (nI a')
/-- a name's value is no negative number -/
abbrev XN : TK × CO → Nat → Nat → List Nd → Prop := fun _ _ _ sg => ∀ v w z t, sg = (28, v, w, z) :: t → ¬ v < 0
/-- a tree that began with a text is a text if it is that token alone; one that is a name and began with a word began with a name -/
abbrev XL : TK × CO → Nat → Nat → List Nd → Prop := fun tc a a' sg => (f_Tk_kind tc.1 (nI a) = 3 → ∀ k v w z t, sg = (k, v, w, z) :: t → (k = 30 ↔ a' = a + 1)) ∧ (∀ v w z t, sg = (28, v, w, z) :: t → (¬ v < 0 ∧ (f_Tk_kind tc.1 (nI a) = 1 → ¬ f_Tk_identifier tc.1 (nI a) tc.2.2.2.1 = 0))) ∧ ∀ v w z t, ¬ sg = (2, v, w, z) :: t
theorem hd_k {k v w z : Int32} {t : List Nd} {k' v' w' z' : Int32} {t' : List Nd} (h : ((k, v, w, z) : Nd) :: t = (k', v', w', z') :: t') : k = k' ∧ v = v' := by
  have h1 := (List.cons.inj h).1
  exact ⟨congrArg (fun q : Nd => q.1) h1, congrArg (fun q : Nd => q.2.1) h1⟩
theorem XN_hd {tc : TK × CO} {a a' : Nat} {k v w z : Int32} {t : List Nd} (h2 : ¬ k = 28) : XN tc a a' ((k, v, w, z) :: t) := fun v' w' z' t' h => absurd (hd_k h).1 h2
theorem XL_hd {tc : TK × CO} {a a' : Nat} {k v w z : Int32} {t : List Nd} (h1 : ¬ k = 30) (h2 : ¬ k = 28) (h3 : ¬ a' = a + 1) (h4 : ¬ k = 2 := by decide) : XL tc a a' ((k, v, w, z) :: t) := ⟨fun _ k' v' w' z' t' h => by rw [← (hd_k h).1]; exact ⟨fun h => absurd h h1, fun h => absurd h h3⟩, fun v' w' z' t' h => absurd (hd_k h).1 h2, fun v' w' z' t' h => h4 (hd_k h).1⟩
theorem XL_hk {tc : TK × CO} {a a' : Nat} {k v w z : Int32} {t : List Nd} (h1 : ¬ f_Tk_kind tc.1 (nI a) = 3) (h2 : ¬ k = 28) (h4 : ¬ k = 2 := by decide) : XL tc a a' ((k, v, w, z) :: t) := ⟨fun h => absurd h h1, fun v' w' z' t' h => absurd (hd_k h).1 h2, fun v' w' z' t' h => h4 (hd_k h).1⟩
theorem XL_XN {tc : TK × CO} {a a' : Nat} {sg : List Nd} (h : XL tc a a' sg) : XN tc a a' sg := fun v w z t e => (h.2.1 v w z t e).1
theorem PX_mono {sl nf : Nat} {X X' : Nat → List Nd → Prop} {tk : TK} {gt : gT} {co : CO} {lb : LB} {ge : gE} {gp : gP} {gq : gQ} {a : Nat} {g : gN} {m : Nat} {L : List Nd} {r n : Int32} {st : ST} {mo : MO} (h : PX sl nf X tk gt co lb ge gp gq a g m L r st n mo) (hX : ∀ a' sg, X a' sg → X' a' sg) : PX sl nf X' tk gt co lb ge gp gq a g m L r st n mo := by
  obtain ⟨lb', ge', gp', a', li', g', m', sg, n', h1, h2, h3, h4, h5, h6, h7, h8, h9⟩ := h
  exact ⟨lb', ge', gp', a', li', g', m', sg, n', h1, h2, h3, h4, h5, h6, h7, h8, hX _ _ h9⟩
