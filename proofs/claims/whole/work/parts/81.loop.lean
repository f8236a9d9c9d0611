/-! bodies: statements one behind the other -/
def LabR (co : CO) (lb : LB) (ge : gE) : Prop := ∀ i, co.2.1.toNatClampNeg ≤ i → i < lbn lb → lbN lb i = ge.2.2.2.2.2.2.2.1 i ∧ lbL lb i = ge.2.2.2.2.2.2.2.2 i ∧ (lbL lb i = 0 ∨ lbL lb i = 1) ∧ ∀ j, co.2.1.toNatClampNeg ≤ j → j < lbn lb → lbN lb i = lbN lb j → i = j
/-- a statement that began with a text: whether it is the text alone -/
abbrev XS : TK → Nat → Nat → List Nd → Prop := fun tk a a' sg => f_Tk_kind tk (nI a) = 3 → ∃ (v w z : Int32) (k2 : Nd) (r : List Nd), sg = (5, v, w, z) :: k2 :: r ∧ (k2.1 = 30 ↔ (a' = a + 1 ∨ (a' = a + 2 ∧ f_Tk_sign tk (nI (a + 1)) = 67)))
def HSt (A : Int32 → ST → Rz) (B : Int32 → MO → Rm) (e : Nat) : Prop := ∀ tk gt co lb ge gp gq a li g m L st mo o, RR tk gt co lb ge gp gq a li g m L st mo → LabR co lb ge → o ≤ lbn lb → lbn lb < e → L.length ≤ 2 * a + 1 → m ≤ 2 * a + 1 → Sim (A (nI o) st) (B (nI o) mo) (PX 0 o (XS tk a) tk gt co lb ge gp gq a g m L)
/-- behind the last token a statement is refused there -/
def HEnd (A : ST → Rz) : Prop := ∀ tk lb co a li L st, gC tk lb co a li L st → a = tkn tk → tkn tk ≤ 1000 → L.length ≤ 2 * a + 2 → Ref (A st) (nI a)
def HD (sl dl : Nat) (P : TK → Nat → Prop) (X : TK × CO → Nat → Nat → List Nd → Prop) (A : ST → Rz) (B : MO → Rm) (e : Nat) : Prop := ∀ tk gt co lb ge gp gq a li g m L st mo, RR tk gt co lb ge gp gq a li g m L st mo → P tk a → lbn lb < e → L.length ≤ 2 * a + dl → m ≤ 2 * a + dl → Sim (A st) (B mo) (PX sl (lbn lb) (X (tk, co) a) tk gt co lb ge gp gq a g m L)
abbrev Pw (w : Int32) : TK → Nat → Prop := fun tk a => f_Tk_keyword tk (nI a) = w
abbrev txt (tk : TK) (a a' : Nat) : Prop := f_Tk_kind tk (nI a) = 3 ∧ (a' = a + 1 ∨ (a' = a + 2 ∧ f_Tk_sign tk (nI (a + 1)) = 67))
section PWA
variable {tk : TK} {lb : LB} {co : CO} {L : List Nd} {st : ST} {gt : gT} {ge : gE} {gp : gP} {gq : gQ} {a : Nat} {li : Int32} {g : gN} {mo : MO}
theorem cs_txt {a' : Nat} (hc : gC tk lb co a' li L st) (h1 : a < 2000) (h2 : a' < 2000) : (f_Cu_wasTextAlone st (nI a) = 0) ↔ ¬ txt tk a a' := by
  have e1 : nI a + 1 = nI (a + 1) := nI_1 a
  have e2 : nI a + 2 = nI (a + 2) := nI_add a 2
  have q1 : (nI a' = nI (a + 1)) = (a' = a + 1) := propext (nI_eq (by omega) (by omega))
  have q2 : (nI a' = nI (a + 2)) = (a' = a + 2) := propext (nI_eq (by omega) (by omega))
  unfold f_Cu_wasTextAlone
  rw [gC_tk hc, gC_at hc, e1, e2]
  simp only [q1, q2]
  by_cases k3 : f_Tk_kind tk (nI a) = 3
  · by_cases c1 : a' = a + 1
    · have c2 : ¬ a' = a + 2 := by omega
      simp [c1, k3]
    · by_cases c2 : a' = a + 2
      · by_cases c3 : f_Tk_sign tk (nI (a + 1)) = 67
        · simp [c2, c3, k3]
        · simp [c2, c3, k3]
      · simp [c1, c2, k3]
  · simp [k3]
theorem One_text {n lo hi : Nat} {sg : List Nd} {k v w z : Int32} {k2 : Nd} {r : List Nd} (h : One g n sg lo hi) (hs : sg = (k, v, w, z) :: k2 :: r) : nK g n = k ∧ ∃ j, nF g n = nI j ∧ j < 2600 ∧ nK g j = k2.1 := by
  obtain ⟨e1, e2, q, bd, ns, e3, e4, e5, e6⟩ := h
  rw [e6] at hs
  have h1 := (List.cons.inj hs).1
  have h2 := (List.cons.inj hs).2
  refine ⟨congrArg (fun x : Nd => x.1) h1, ?_⟩
  subst h2
  cases q with
  | zero => exact e3.elim
  | succ q =>
    rcases e3 with ⟨_, hb, _⟩ | ⟨i, bd2, rs, n1, n2, f1, f2, f3, _⟩
    · exact absurd hb (by simp)
    · refine ⟨i, f1, f2, ?_⟩
      have := (List.cons.inj f3).1
      rw [this]
theorem hgN_K (g : gN) (p : Nat) (c : Int32) : nK (hgN g p c) = nK g := by unfold hgN; split <;> rfl
theorem hgN_F (g : gN) {p i : Nat} (c : Int32) (h : ¬ i = p) : nF (hgN g p c) i = nF g i := by
  unfold hgN
  split
  · rfl
  · exact up_ne h
theorem Fr_gs {nf : Nat} {lb lb1 : LB} {ge ge1 : gE} {gp gp1 : gP} (s : Int32) (h : Fr nf lb lb1 ge ge1 gp gp1) : Fr nf lb lb1 (s, ge.2) (s, ge1.2) gp gp1 := by
  obtain ⟨a1, a2, a3, ⟨b1, b2, b3, b4, b5, b6, b7⟩, a5, a6⟩ := h
  exact ⟨a1, a2, a3, ⟨rfl, b2, b3, b4, b5, b6, b7⟩, a5, a6⟩
theorem LabR_fr {lb' : LB} {ge' : gE} {gp' : gP} (h : LabR co lb ge) (hf : Fr (lbn lb) lb lb' ge ge' gp gp') : LabR co lb' ge' := by
  obtain ⟨a1, a2, a3, _⟩ := hf
  intro i h1 h2
  rw [a1] at h2
  obtain ⟨e1, e2, e3, e4⟩ := h i h1 h2
  obtain ⟨b1, b2⟩ := a2 i h2
  obtain ⟨c1, c2⟩ := a3 i h2
  refine ⟨by rw [b1, b2]; exact e1, by rw [c1, c2]; exact e2, by rw [c1]; exact e3, ?_⟩
  intro j h3 h4 h5
  rw [a1] at h4
  rw [b1, (a2 j h4).1] at h5
  exact e4 j h3 h4 h5
theorem Wf_gs {s : Int32} (h : Wf tk gt co lb ge gp a) (hs : s = 0 ∨ s = 1) : Wf tk gt (co.1, co.2.1, s, co.2.2.2) lb (s, ge.2) gp a := by
  obtain ⟨a1, a2, ⟨a3, a4⟩, a5, a7, a8, a10, a13, a18⟩ := h
  exact ⟨a1, a2, ⟨rfl, hs⟩, a5, a7, a8, a10, a13, a18⟩
theorem gM_gs (h : gM gt ge gp gq a li g mo) (s : Int32) : gM gt (s, ge.2) gp gq a li g (s_strict mo s) := by obtain ⟨th, rfl⟩ := h; exact ⟨th, rfl⟩
end PWA
/-- what a body leaves -/
def PB (z : Nat) (pb : Nat) (br : Nat) (sg : List Nd) (PRE : List Nd) (tk : TK) (gt : gT) (co : CO) (lb : LB) (ge : gE) (gp : gP) (gq : gQ) (a : Nat) (g : gN) (m : Nat) : Int32 → ST → Int32 → MO → Prop := fun _ st _ mo =>
  ∃ lb' ge' gp' a' li' g' m' sg' s', gC tk lb' (co.1, co.2.1, s', co.2.2.2) a' li' (PRE ++ (sg ++ sg')) st ∧ gM gt ge' gp' gq a' li' g' mo ∧ nM g' = nI m' ∧ Wf tk gt (co.1, co.2.1, s', co.2.2.2) lb' ge' gp' a' ∧ Fr (lbn lb) lb lb' (s', ge.2) ge' gp gp' ∧ FrN g g' z ∧ Opn g' pb 26 0 (nI br) (sg ++ sg') (pb + 1) m' ∧ a < a' ∧ sg'.length ≤ 2 * (a' - a) ∧ m' ≤ m + 2 * (a' - a) ∧ m ≤ m'
theorem sm_bodyL {E : Int32 → Int32 → Int32 → ST → Rz} {S : Int32 → Int32 → ST → Rz} {F : Int32 → Int32 → ST → Rz} {K' : Nat → List Int32 → MO → Rm} {e : Nat} {form : Int32}
    (hS : HSt (fun o st => S (nI (e + 1)) o st) (fun o mo => f_Mo_statement K' mo (nI (e + 1)) o) (e + 1)) (hSe : ∀ o, HEnd (fun st => S (nI (e + 1)) o st)) (hD : HD 0 1 (Pw 11) XT (fun st => F 24 (nI (e + 1)) st) (fun mo => f_Mo_declaration K' mo (nI (e + 1))) (e + 1))
    (tk : TK) (gt : gT) (gq : gQ) (L0 : List Nd) (kd val : Int32) (aF br : Nat) (ps : List Pq) (ok0 : Prop) (h0 : ok0 ↔ (kd = 24 ∨ ¬ val = 0) → mayB tk (aF + 1)) (pb z : Nat) (hz : z ≤ pb) (hbr : br ≤ tkn tk) :
    ∀ (fu fm x : Nat) (t : Int32) (co : CO) (lb : LB) (ge : gE) (gp : gP) (a : Nat) (li : Int32) (g : gN) (m : Nat) (sg : List Nd) (st : ST) (mo : MO),
      (t = 0 ∨ t = 1) → RR tk gt co lb ge gp gq a li g m ((L0 ++ (kd, val, nI aF, 1) :: segQ ps ++ [(26, 0, nI br, 1)]) ++ sg) st mo → co.2.1 = nI (lbn lb) → (ge.2.2.1 = 0 ↔ ok0 ∧ okPs tk [] ps) → Opn g pb 26 0 (nI br) sg (pb + 1) m → pb < m → lbn lb < e + 1 →
      ((L0 ++ (kd, val, nI aF, 1) :: segQ ps ++ [(26, 0, nI br, 1)]) ++ sg).length ≤ 2 * a + 1 → m ≤ 2 * a + 1 → tkn tk - a < fu → tkn tk - a < fm → x ≤ a →
      Sim (f_Pa_function_L79 E S F form (nI e) (nI L0.length) (nI (L0.length + 1 + ps.length)) fu t (nI x) st) (bndM (f_Mo_statements_L3 K' (nI pb) (nI (e + 1)) (nI br) fm t mo) (fun _ se => f_Mo_expect se 65)) (PB z pb br sg (L0 ++ (kd, val, nI aF, 1) :: segQ ps ++ [(26, 0, nI br, 1)]) tk gt co lb ge gp gq a g m) := by
  intro fu
  induction fu with
  | zero => intro fm x t co lb ge gp a li g m sg st mo _ _ _ _ _ _ _ _ _ h; omega
  | succ fu ih =>
    intro fm x t co lb ge gp a li g m sg st mo ht hR hcl hlz hO hpm hlb hL hm hfu hfm hx
    have hR' := hR
    obtain ⟨hw, hc, hq, hd⟩ := hR
    have hT := hw.1.1
    have ha := hw.2.1
    obtain ⟨fm', rfl⟩ : ∃ q, fm = q + 1 := ⟨fm - 1, by omega⟩
    have hcnt : q_count mo = nI (tkn tk) := by have := gM_gt hq; show mo.1.2.2.2.2 = _; rw [this]; exact hw.1.2.1
    have hlab : LabR co lb ge := by
      intro i h1 h2
      have hl100 := hw.2.2.2.2.2.1.2
      rw [hcl, nI_clamp (by omega)] at h1
      omega
    have hqlab : q_labels mo = nI (lbn lb) := by show mo.2.2.2.1.2.2.2.1 = _; rw [gM_ge hq]; exact hw.2.2.2.2.2.1.1
    unfold f_Pa_function_L79 f_Mo_statements_L3
    rw [if_neg (x_le hx ha hT), hcnt, gM_at hq]
    by_cases hend : a = tkn tk
    · -- behind the last token
      have s65 : ¬ f_Tk_sign tk (nI a) = 65 := by rw [(tk_out hT (by omega) (by omega)).2.2.2.1]; decide
      have w11 : ¬ f_Tk_keyword tk (nI a) = 11 := by rw [(tk_out hT (by omega) (by omega)).2.2.2.2.1]; decide
      refine Sim_c (cs_nacc hc s65) ?_
      rw [if_pos rfl, cu_word hc, if_neg w11, if_pos rfl, nI_1, if_pos (nI_le (by omega) (by omega)), bndM_some]
      refine Sim_rr (p := nI a) (Ref_bnd (hSe _ tk lb co a li _ st hc hend hT (by omega))) ?_ (at_ne hw.1 ha)
      unfold f_Mo_expect
      rw [rs_sign hw.1 hq ha (s := 65) (by decide), bndM_some, if_neg s65, if_pos rfl, gM_at hq]
      exact RefM_bnd (RefM_refuse _ _)
    · rw [if_neg (nI_ge (show a < tkn tk by omega) (by omega)), rs_sign hw.1 hq ha (s := 65) (by decide), bndM_some]
      by_cases s65 : f_Tk_sign tk (nI a) = 65
      · obtain ⟨st1, e1, c1⟩ := cs_acc hc s65
        refine Sim_c e1 ?_
        rw [if_neg n10, if_pos s65, if_neg n10, bndM_some]
        have ex : f_Mo_expect mo 65 = some (.inr (0, s_at mo (q_at mo + 1))) := by
          unfold f_Mo_expect
          rw [rs_sign hw.1 hq ha (s := 65) (by decide), if_pos s65, bndM_some, if_neg n10]
        rw [ex]
        have eco : co = (co.1, co.2.1, co.2.2.1, co.2.2.2) := rfl
        have ege : ge = (co.2.2.1, ge.2) := by rw [← hw.2.2.1.1]
        refine Sim_ret ⟨lb, ge, gp, a + 1, li, g, m, [], co.2.2.1, by rw [List.append_nil]; exact c1, gM_inc hq, hd, Wf_up hw (by omega) (by omega), by rw [← ege]; exact Fr_refl _ _ _ _, FrN_refl _ _, by rw [List.append_nil]; exact hO, by omega, by simp, by omega, by omega⟩
      · refine Sim_c (cs_nacc hc s65) ?_
        rw [if_pos rfl, if_neg s65, if_pos rfl, rs_kind hw.1 hq ha (k := 3) (by decide), bndM_some, rs_word hw.1 hq ha (s := 11) (by decide) (by decide), bndM_some, cu_word hc, gC_at hc, nI_1 x, nI_1 e]
        simp only [t01, gM_at hq]
        -- what follows a statement that was read
        have nxt : ∀ (st1 : ST) (n1 : Int32) (mo1 : MO) (X1 : Prop), (f_Tk_kind tk (nI a) = 3 → X1) → (∃ lb1 ge1 gp1 a1 li1 g1 m1 sg1 n', n1 = nI n' ∧ RR tk gt co lb1 ge1 gp1 gq a1 li1 g1 m1 ((L0 ++ (kd, val, nI aF, 1) :: segQ ps ++ [(26, 0, nI br, 1)]) ++ sg ++ sg1) st1 mo1 ∧ Fr (lbn lb) lb lb1 ge ge1 gp gp1 ∧ FrN g g1 m ∧ One g1 n' sg1 m m1 ∧ a < a1 ∧ sg1.length ≤ 2 * (a1 - a) ∧ m1 ≤ m + 2 * (a1 - a) ∧ (X1 → XS tk a a1 sg1)) →
            Sim (if t = 0 then (f_Pa_function_L79 E S F form (nI e) (nI L0.length) (nI (L0.length + 1 + ps.length)) fu 0 (nI (x + 1)) st1) else (if (f_Cu_wasTextAlone st1 (nI a)) = 0 then (f_Pa_function_L79 E S F form (nI e) (nI L0.length) (nI (L0.length + 1 + ps.length)) fu 0 (nI (x + 1)) st1) else (if (f_Tk_asksForStrict (sTk st1) (nI a)) = 0 then (f_Pa_function_L79 E S F form (nI e) (nI L0.length) (nI (L0.length + 1 + ps.length)) fu 1 (nI (x + 1)) st1) else (bnd (f_Pa_makeStrict st1 (nI L0.length) (nI (L0.length + 1 + ps.length))) (fun _ st_30 => (f_Pa_function_L79 E S F form (nI e) (nI L0.length) (nI (L0.length + 1 + ps.length)) fu 1 (nI (x + 1)) st_30))))))
              (bndM (f_Mo_hang mo1 (nI pb) n1) (fun _ mo_9 => bndM (if t = 0 then (f_Mo_statements_L3 K' (nI pb) (nI (e + 1)) (nI br) fm' 0 mo_9) else (if ¬ f_Tk_kind tk (nI a) = 3 then (f_Mo_statements_L3 K' (nI pb) (nI (e + 1)) (nI br) fm' 0 mo_9) else (if inb n1 2600 then (if ((q_kind mo_9) (n1 : Int32).toNatClampNeg) = 5 then (if inb ((q_first mo_9) (n1 : Int32).toNatClampNeg) 2600 then (if ((q_kind mo_9) (((q_first mo_9) (n1 : Int32).toNatClampNeg) : Int32).toNatClampNeg) = 30 then (if inb (nI a) 1001 then (if ((q_words mo_9) ((nI a) : Int32).toNatClampNeg) = 1 then (if (q_strict mo_9) = 0 then (if (q_loose mo_9) = 0 then (f_Mo_statements_L3 K' (nI pb) (nI (e + 1)) (nI br) fm' 1 (s_strict mo_9 1)) else (bndM (f_Mo_refuse (s_strict mo_9 1) (nI br)) (fun _ mo_20 => (f_Mo_statements_L3 K' (nI pb) (nI (e + 1)) (nI br) fm' 1 mo_20)))) else (f_Mo_statements_L3 K' (nI pb) (nI (e + 1)) (nI br) fm' 1 mo_9)) else (f_Mo_statements_L3 K' (nI pb) (nI (e + 1)) (nI br) fm' 1 mo_9)) else none) else (f_Mo_statements_L3 K' (nI pb) (nI (e + 1)) (nI br) fm' 0 mo_9)) else none) else (f_Mo_statements_L3 K' (nI pb) (nI (e + 1)) (nI br) fm' 0 mo_9)) else none))) (fun _ se => f_Mo_expect se 65)))
              (PB z pb br sg (L0 ++ (kd, val, nI aF, 1) :: segQ ps ++ [(26, 0, nI br, 1)]) tk gt co lb ge gp gq a g m) := by
          intro st1 n1 mo1 X1 hX1 h1
          obtain ⟨lb1, ge1, gp1, a1, li1, g1, m1, sg1, n', rfl, ⟨w1, c1, q1, d1⟩, f1, fn1, o1, l1, l2, l3, xs⟩ := h1
          have ha1 := w1.2.1
          have hon := One_in o1
          have hlb1 : lbn lb1 = lbn lb := f1.1
          have hO1 := Opn_fr hO fn1 (Nat.le_refl _) hpm
          have hn' : n' < 2600 := o1.1
          obtain ⟨mo2, e2, q2⟩ := rs_hang (n := n') q1 hO1.2.2.2.2.2 hO1.1 (nI n')
          obtain ⟨hO2, fn2, d2⟩ := Opn_hang hO1 o1 (Nat.le_refl _) (by omega) (Or.inl hpm)
          refine Sim_m e2 ?_
          rw [d1] at d2
          have fz : FrN g (hgN g1 pb (nI n')) z := FrN_trans (FrN_less fn1 (by omega)) (fn2 z (by omega) hz) (Nat.le_refl _)
          have hlen1 : ((L0 ++ (kd, val, nI aF, 1) :: segQ ps ++ [(26, 0, nI br, 1)]) ++ sg ++ sg1).length = ((L0 ++ (kd, val, nI aF, 1) :: segQ ps ++ [(26, 0, nI br, 1)]) ++ sg).length + sg1.length := List.length_append
          have ecat : (L0 ++ (kd, val, nI aF, 1) :: segQ ps ++ [(26, 0, nI br, 1)]) ++ sg ++ sg1 = (L0 ++ (kd, val, nI aF, 1) :: segQ ps ++ [(26, 0, nI br, 1)]) ++ (sg ++ sg1) := List.append_assoc _ _ _
          -- going on
          have go : ∀ (t' s' : Int32) (st3 : ST) (mo3 : MO), (t' = 0 ∨ t' = 1) → (s' = 0 ∨ s' = 1) → gC tk lb1 (co.1, co.2.1, s', co.2.2.2) a1 li1 ((L0 ++ (kd, val, nI aF, 1) :: segQ ps ++ [(26, 0, nI br, 1)]) ++ (sg ++ sg1)) st3 → gM gt (s', ge1.2) gp1 gq a1 li1 (hgN g1 pb (nI n')) mo3 →
              Sim (f_Pa_function_L79 E S F form (nI e) (nI L0.length) (nI (L0.length + 1 + ps.length)) fu t' (nI (x + 1)) st3) (bndM (f_Mo_statements_L3 K' (nI pb) (nI (e + 1)) (nI br) fm' t' mo3) (fun _ se => f_Mo_expect se 65)) (PB z pb br sg (L0 ++ (kd, val, nI aF, 1) :: segQ ps ++ [(26, 0, nI br, 1)]) tk gt co lb ge gp gq a g m) := by
            intro t' s' st3 mo3 ht' hs' c3 q3
            have hl3 : (s', ge1.2).2.2.1 = ge.2.2.1 := f1.2.2.2.1.2.2.1
            have h9 := ih fm' (x + 1) t' (co.1, co.2.1, s', co.2.2.2) lb1 (s', ge1.2) gp1 a1 li1 (hgN g1 pb (nI n')) m1 (sg ++ sg1) st3 mo3 ht' ⟨Wf_gs w1 hs', c3, q3, d2⟩ (by rw [hlb1]; exact hcl) (by rw [hl3]; exact hlz) hO2 (by omega) (by rw [hlb1]; exact hlb) (by rw [← ecat, hlen1]; omega) (by omega) (by omega) (by omega) (by omega)
            refine Sim_mono h9 ?_
            intro r4 st4 n4 mo4 h4
            obtain ⟨lb', ge', gp', a', li', g', m', sg', s9, b1, b2, b3, b4, b5, b6, b7, b8, b9, b10, b11⟩ := h4
            refine ⟨lb', ge', gp', a', li', g', m', sg1 ++ sg', s9, by rw [← List.append_assoc sg]; exact b1, b2, b3, b4, ?_, FrN_trans fz b6 (Nat.le_refl _), by rw [← List.append_assoc sg]; exact b7, by omega, by rw [List.length_append]; omega, by omega, by omega⟩
            exact Fr_trans (Fr_gs s9 f1) b5 (by rw [hlb1]; exact Nat.le_refl _)
          have eco : co = (co.1, co.2.1, co.2.2.1, co.2.2.2) := rfl
          have ege1 : ge1 = (co.2.2.1, ge1.2) := by rw [← w1.2.2.1.1]
          have c1e : gC tk lb1 (co.1, co.2.1, co.2.2.1, co.2.2.2) a1 li1 ((L0 ++ (kd, val, nI aF, 1) :: segQ ps ++ [(26, 0, nI br, 1)]) ++ (sg ++ sg1)) st1 := by rw [← ecat]; exact c1
          have q2e : gM gt (co.2.2.1, ge1.2) gp1 gq a1 li1 (hgN g1 pb (nI n')) mo2 := by rw [← ege1]; exact q2
          have same : ∀ t' : Int32, (t' = 0 ∨ t' = 1) → Sim (f_Pa_function_L79 E S F form (nI e) (nI L0.length) (nI (L0.length + 1 + ps.length)) fu t' (nI (x + 1)) st1) (bndM (f_Mo_statements_L3 K' (nI pb) (nI (e + 1)) (nI br) fm' t' mo2) (fun _ se => f_Mo_expect se 65)) (PB z pb br sg (L0 ++ (kd, val, nI aF, 1) :: segQ ps ++ [(26, 0, nI br, 1)]) tk gt co lb ge gp gq a g m) := fun t' ht' => go t' co.2.2.1 st1 mo2 ht' hw.2.2.1.2 c1e q2e
          by_cases t0 : t = 0
          · rw [if_pos t0, if_pos t0]
            exact same 0 (Or.inl rfl)
          · have htx := cs_txt (a := a) c1 (by omega) (by omega)
            rw [if_neg t0, if_neg t0]
            by_cases k3 : f_Tk_kind tk (nI a) = 3
            · obtain ⟨v, w, zz, k2, r, hsg, hiff⟩ := xs (hX1 k3) k3
              obtain ⟨hk5, j, hj1, hj2, hj3⟩ := One_text o1 hsg
              have hnp : ¬ n' = pb := by omega
              have ek : q_kind mo2 (nI n').toNatClampNeg = 5 := by rw [clN hn']; show mo2.2.1.1 n' = _; rw [gM_g q2]; show nK (hgN g1 pb (nI n')) n' = _; rw [hgN_K]; exact hk5
              have ef : q_first mo2 (nI n').toNatClampNeg = nI j := by rw [clN hn']; show mo2.2.1.2.2.2.1 n' = _; rw [gM_g q2]; show nF (hgN g1 pb (nI n')) n' = _; rw [hgN_F g1 _ hnp]; exact hj1
              have ek2 : q_kind mo2 (nI j).toNatClampNeg = k2.1 := by rw [clN hj2]; show mo2.2.1.1 j = _; rw [gM_g q2]; show nK (hgN g1 pb (nI n')) j = _; rw [hgN_K]; exact hj3
              have ew : q_words mo2 (nI a).toNatClampNeg = tkW tk a := by
                rw [nI_clamp (by omega)]
                show mo2.1.2.1 a = _
                rw [gM_gt q2]
                exact (hw.1.2.2 a (by omega)).2.1
              rw [if_neg (show ¬ ¬ f_Tk_kind tk (nI a) = 3 from fun h => h k3), if_pos (inbN hn'), ek, if_pos rfl, ef, if_pos (inbN hj2), ek2]
              by_cases c30 : k2.1 = 30
              · have htt : txt tk a a1 := ⟨k3, hiff.mp c30⟩
                rw [if_neg (fun h => (htx.mp h) htt), if_pos c30, if_pos (nI_in (c := a) (N := 1001) (by omega) (by decide)), ew]
                have eas : f_Tk_asksForStrict (sTk st1) (nI a) = if tkW tk a = 1 then 1 else 0 := by
                  rw [gC_tk c1]
                  unfold f_Tk_asksForStrict
                  rw [if_neg (nI_pos (by omega)), if_neg (nI_ge (show a < tkn tk by omega) (by omega)), nI_clamp (by omega)]
                  have : tkK tk a = 3 := by rw [← (tk_in hT (by omega)).1]; exact k3
                  rw [if_pos this]
                rw [eas]
                by_cases w1' : tkW tk a = 1
                · rw [if_pos w1', if_neg n10, if_pos w1']
                  have est : q_strict mo2 = co.2.2.1 := by show mo2.2.2.2.1.1 = _; rw [gM_ge q2, ege1]
                  have elo : q_loose mo2 = ge.2.2.1 := by show mo2.2.2.2.1.2.2.1 = _; rw [gM_ge q2]; exact f1.2.2.2.1.2.2.1
                  rw [est, elo]
                  have c1m : gC tk lb1 co a1 li1 (L0 ++ (kd, val, nI aF, 1) :: segQ ps ++ (26, 0, nI br, 1) :: (sg ++ sg1)) st1 := by
                    have : L0 ++ (kd, val, nI aF, 1) :: segQ ps ++ (26, 0, nI br, 1) :: (sg ++ sg1) = (L0 ++ (kd, val, nI aF, 1) :: segQ ps ++ [(26, 0, nI br, 1)]) ++ (sg ++ sg1) := by simp
                    rw [this]; exact c1e
                  have hbl : (L0 ++ (kd, val, nI aF, 1) :: segQ ps ++ (26, 0, nI br, 1) :: (sg ++ sg1)).length < 3000 := by
                    have : L0 ++ (kd, val, nI aF, 1) :: segQ ps ++ (26, 0, nI br, 1) :: (sg ++ sg1) = (L0 ++ (kd, val, nI aF, 1) :: segQ ps ++ [(26, 0, nI br, 1)]) ++ sg ++ sg1 := by simp
                    rw [this, hlen1]; omega
                  obtain ⟨mk1, mk2⟩ := cs_mkS c1m hbl ok0 h0
                  by_cases cs : co.2.2.1 = 0
                  · rw [if_pos cs]
                    obtain ⟨mk3, mk4⟩ := mk2 cs
                    by_cases cok : ok0 ∧ okPs tk [] ps
                    · obtain ⟨st5, e5, c5⟩ := mk3 cok
                      refine Sim_c e5 ?_
                      rw [if_pos (hlz.mpr cok)]
                      have : L0 ++ (kd, val, nI aF, 1) :: segQ ps ++ (26, 0, nI br, 1) :: (sg ++ sg1) = (L0 ++ (kd, val, nI aF, 1) :: segQ ps ++ [(26, 0, nI br, 1)]) ++ (sg ++ sg1) := by simp
                      rw [this] at c5
                      exact go 1 1 st5 _ (Or.inr rfl) (Or.inr rfl) c5 (gM_gs q2 1)
                    · rw [if_neg (fun h => cok (hlz.mp h))]
                      exact Sim_rr (p := nI br) (Ref_bnd (mk4 cok)) (RefM_bnd (RefM_bnd (RefM_refuse _ _))) (m1_ne br (by omega))
                  · rw [if_neg cs]
                    refine Sim_c (mk1 cs) ?_
                    exact same 1 (Or.inr rfl)
                · rw [if_neg w1', if_pos rfl, if_neg w1']
                  exact same 1 (Or.inr rfl)
              · have htt : ¬ txt tk a a1 := fun h => c30 (hiff.mpr h.2)
                rw [if_pos (htx.mpr htt), if_neg c30]
                exact same 0 (Or.inl rfl)
            · have htt : ¬ txt tk a a1 := fun h => k3 h.1
              rw [if_pos (htx.mpr htt), if_pos k3]
              exact same 0 (Or.inl rfl)
        by_cases w11 : f_Tk_keyword tk (nI a) = 11
        · rw [if_neg (show ¬ ¬ f_Tk_keyword tk (nI a) = 11 from fun h => h w11), if_neg (show ¬ ¬ f_Tk_keyword tk (nI a) = 11 from fun h => h w11)]
          have k1 := word_kind hT (by omega) w11 (by decide)
          simp only [bndM_as]
          refine Sim_bind (hD tk gt co lb ge gp gq a li g m _ st mo hR' w11 hlb hL hm) ?_
          intro r1 st1 n1 mo1 h1
          obtain ⟨lb1, ge1, gp1, a1, li1, g1, m1, sg1, n', rfl, w1, c1, q1, d1, fr1, fn1, o1, l1, l2, l3, l4, l5, l6, l7, _⟩ := PX_le h1
          exact nxt st1 _ mo1 False (fun h => absurd h (by rw [k1]; decide)) ⟨lb1, ge1, gp1, a1, li1, g1, m1, sg1, n', rfl, ⟨w1, c1, q1, d1⟩, fr1, fn1, o1, l1, by omega, by omega, fun h => h.elim⟩
        · rw [if_pos w11, if_pos w11]
          simp only [bndM_as]
          have hla : f_La_count (sLb st) = nI (lbn lb) := by unfold f_La_count; rw [gC_lb hc]
          rw [hla, hqlab]
          refine Sim_bind (hS tk gt co lb ge gp gq a li g m _ st mo (lbn lb) hR' hlab (Nat.le_refl _) hlb hL hm) ?_
          intro r1 st1 n1 mo1 h1
          obtain ⟨lb1, ge1, gp1, a1, li1, g1, m1, sg1, n', rfl, w1, c1, q1, d1, fr1, fn1, o1, l1, l2, l3, l4, l5, l6, l7, xs⟩ := PX_le h1
          exact nxt st1 _ mo1 True (fun _ => trivial) ⟨lb1, ge1, gp1, a1, li1, g1, m1, sg1, n', rfl, ⟨w1, c1, q1, d1⟩, fr1, fn1, o1, l1, by omega, by omega, fun _ => xs⟩
