/-! small steps of both -/
def Ref (x : Rz) (p : Int32) : Prop := ∃ c s, x = some (.inl (p, c, s))
def RefM (y : Rm) (p : Int32) : Prop := ∃ mo, y = some (.inl mo) ∧ q_place mo = p
theorem Sim_rr {x : Rz} {y : Rm} {p : Int32} {Q : Int32 → ST → Int32 → MO → Prop} (h1 : Ref x p) (h2 : RefM y p) (hp : ¬ p = -1) : Sim x y Q := by
  obtain ⟨c, s, rfl⟩ := h1
  obtain ⟨mo, rfl, h3⟩ := h2
  exact Or.inl ⟨p, c, s, mo, rfl, rfl, h3, hp⟩
theorem Ref_bnd {x : Rz} {p : Int32} {k : Int32 → ST → Rz} (h : Ref x p) : Ref (bnd x k) p := by obtain ⟨c, s, rfl⟩ := h; exact ⟨c, s, rfl⟩
theorem RefM_bnd {y : Rm} {p : Int32} {k : Int32 → MO → Rm} (h : RefM y p) : RefM (bndM y k) p := by obtain ⟨mo, rfl, h2⟩ := h; exact ⟨mo, rfl, h2⟩
theorem RefM_refuse (mo : MO) (p : Int32) : RefM (f_Mo_refuse mo p) p := ⟨s_place mo p, rfl, rfl⟩
theorem kind_pos {k w n : Int32} (h : f_Tk_known k w n = 1) : ¬ k = 0 := by
  intro e
  subst e
  have h2 : f_Tk_known 0 w n = 0 := by
    unfold f_Tk_known
    rw [if_neg (by decide), if_neg (by decide), if_neg (by decide), if_neg (by decide), if_neg (by decide)]
  rw [h2] at h
  exact absurd h (by decide)
theorem name_pos {n : Int32} (h : ¬ f_Tk_knownName n = 0) : ¬ n < 0 := by
  intro c
  unfold f_Tk_knownName at h
  rw [if_pos c] at h
  exact h rfl
theorem eva {n : Int32} (h : ¬ n < 0) : (f_Tk_evalOrArguments n = 0) ↔ 2 ≤ n := by
  obtain ⟨j, hj, rfl⟩ := nI_of h
  unfold f_Tk_evalOrArguments
  have e0 : (0 : Int32) = nI 0 := rfl
  have e1 : (1 : Int32) = nI 1 := rfl
  have e2 : (2 : Int32) = nI 2 := rfl
  rw [show ((2 : Int32) ≤ nI j) = (nI 2 ≤ nI j) from rfl, nI_leI (by decide) hj]
  by_cases c : nI j = 0
  · rw [if_pos c]
    have : j = 0 := (nI_eq hj (by decide)).mp (c.trans e0)
    subst this
    decide
  · rw [if_neg c]
    by_cases c1 : nI j = 1
    · rw [if_pos c1]
      have : j = 1 := (nI_eq hj (by decide)).mp (c1.trans e1)
      subst this
      decide
    · rw [if_neg c1]
      have h0 : j ≠ 0 := fun e => c (by rw [e]; rfl)
      have h1 : j ≠ 1 := fun e => c1 (by rw [e]; rfl)
      constructor
      · intro _; omega
      · intro _; rfl
section PUS
variable {tk : TK} {lb : LB} {co : CO} {L : List Nd} {st : ST} {gt : gT} {ge : gE} {gp : gP} {gq : gQ} {a : Nat} {li : Int32} {g : gN} {mo : MO} {Q : Int32 → ST → Int32 → MO → Prop} {k : Int32 → ST → Rz} {k' : Int32 → MO → Rm}
theorem Ref_refuse (h : gC tk lb co a li L st) (p : Int32) : Ref (f_Cu_refuse st p) p := by
  have h1 := gC_bC h
  have h2 := gC_bS h
  exact ⟨_, _, if_neg (by omega)⟩
theorem at_ne (hR : TkR tk gt) (ha : a ≤ tkn tk) : ¬ nI a = -1 := m1_ne a (by have := hR.1; omega)
theorem cu_sign (h : gC tk lb co a li L st) (s : Int32) : f_Cu_atSign st s = if f_Tk_sign tk (nI a) = s then 1 else 0 := by unfold f_Cu_atSign; rw [gC_tk h, gC_at h]
theorem cu_word (h : gC tk lb co a li L st) (s : Int32) : f_Cu_atWord st s = if f_Tk_keyword tk (nI a) = s then 1 else 0 := by unfold f_Cu_atWord; rw [gC_tk h, gC_at h]
theorem cs_acc (h : gC tk lb co a li L st) {s : Int32} (hs : f_Tk_sign tk (nI a) = s) : ∃ st', f_Cu_accept st s = some (.inr (1, st')) ∧ gC tk lb co (a + 1) li L st' := by
  refine ⟨setAt st (sAt st + 1), ?_, gC_inc h⟩
  unfold f_Cu_accept
  rw [gC_tk h, gC_at h, if_pos hs]
theorem cs_nacc (h : gC tk lb co a li L st) {s : Int32} (hs : ¬ f_Tk_sign tk (nI a) = s) : f_Cu_accept st s = some (.inr (0, st)) := by
  unfold f_Cu_accept
  rw [gC_tk h, gC_at h, if_neg hs]
theorem sm_expect (hR : TkR tk gt) (ha : a ≤ tkn tk) (hc : gC tk lb co a li L st) (hm : gM gt ge gp gq a li g mo) {s : Int32} (hs : ¬ s = -1)
    (hk : a < tkn tk → f_Tk_sign tk (nI a) = s → ∀ st' mo', gC tk lb co (a + 1) li L st' → gM gt ge gp gq (a + 1) li g mo' → Sim (k 0 st') (k' 0 mo') Q) : Sim (bnd (f_Cu_expect st s) k) (bndM (f_Mo_expect mo s) k') Q := by
  have hT := hR.1
  by_cases c : f_Tk_sign tk (nI a) = s
  · have e1 : f_Cu_expect st s = some (.inr (0, setAt st (sAt st + 1))) := by
      unfold f_Cu_expect; rw [gC_tk hc, gC_at hc, if_pos c]
    have e2 : f_Mo_expect mo s = some (.inr (0, s_at mo (q_at mo + 1))) := by
      unfold f_Mo_expect
      rw [rs_sign hR hm ha hs, if_pos c]
      first | rw [bndM_some, if_neg (by decide)] | rw [bnd_some, if_neg (by decide)]
    rw [e1, e2]
    exact hk (lt_of_sign hT (by omega) c hs) c _ _ (gC_inc hc) (gM_inc hm)
  · refine Sim_rr (p := nI a) (Ref_bnd ?_) (RefM_bnd ?_) (at_ne hR ha)
    · unfold f_Cu_expect
      rw [gC_tk hc, gC_at hc, if_neg c]
      exact Ref_bnd (Ref_refuse hc _)
    · unfold f_Mo_expect
      rw [rs_sign hR hm ha hs, if_neg c]
      rw [bndM_some]
      rw [if_pos rfl, gM_at hm]
      exact RefM_bnd (RefM_refuse _ _)
theorem sm_semi (hR : TkR tk gt) (ha : a ≤ tkn tk) (hc : gC tk lb co a li L st) (hm : gM gt ge gp gq a li g mo)
    (hk : ∀ a' st' mo', (f_Tk_sign tk (nI a) = 67 ∧ a' = a + 1 ∨ ¬ f_Tk_sign tk (nI a) = 67 ∧ a' = a) → a ≤ a' → a' ≤ tkn tk → gC tk lb co a' li L st' → gM gt ge gp gq a' li g mo' → Sim (k 0 st') (k' 0 mo') Q) : Sim (bnd (f_Cu_semicolon st) k) (bndM (f_Mo_semicolon mo) k') Q := by
  have hT := hR.1
  have m67 := rs_sign hR hm ha (s := 67) (by decide)
  have m65 := rs_sign hR hm ha (s := 65) (by decide)
  by_cases c : f_Tk_sign tk (nI a) = 67
  · have hl := lt_of_sign hT (by omega) c (by decide)
    obtain ⟨st1, e0, hc1⟩ := cs_acc hc c
    have e1 : f_Cu_semicolon st = some (.inr (0, st1)) := by
      have e : ¬ f_Cu_statementEnds st = 0 := by
        unfold f_Cu_statementEnds
        rw [gC_tk hc, gC_at hc, if_pos c]
        split <;> (try decide)
      unfold f_Cu_semicolon
      rw [if_neg e, e0]; rfl
    have e2 : f_Mo_semicolon mo = some (.inr (0, s_at mo (q_at mo + 1))) := by
      unfold f_Mo_semicolon
      rw [m67, if_pos c]
      first | rw [bndM_some, if_neg (by decide)] | rw [bnd_some, if_neg (by decide)]
    rw [e1, e2]
    exact hk (a + 1) _ _ (Or.inl ⟨c, rfl⟩) (by omega) (by omega) hc1 (gM_inc hm)
  · have na := cs_nacc hc c
    rw [if_neg c] at m67
    by_cases hl : a < tkn tk
    · have hkp : ¬ f_Tk_kind tk (nI a) = 0 := by rw [(tk_in hT hl).1]; exact kind_pos (hR.2.2 a hl).2.2.2.2.2
      have hcnt : ¬ q_count mo ≤ q_at mo := by
        rw [gM_at hm]
        have : q_count mo = nI (tkn tk) := by have := gM_gt hm; show mo.1.2.2.2.2 = _; rw [this]; exact hR.2.1
        rw [this]; exact nI_ge hl (by omega)
      have hfin : (f_Tk_sign tk (nI a) = 65 ∨ ¬ f_Tk_line tk (nI a) = 0) → f_Cu_semicolon st = some (.inr (0, st)) ∧ f_Mo_semicolon mo = some (.inr (0, mo)) := by
        intro hor
        constructor
        · have e : ¬ f_Cu_statementEnds st = 0 := by
            unfold f_Cu_statementEnds
            rw [gC_tk hc, gC_at hc, if_neg hkp, if_neg c]
            by_cases c2 : f_Tk_sign tk (nI a) = 65
            · rw [if_pos c2]; decide
            · rw [if_neg c2, if_neg (hor.resolve_left c2)]; decide
          unfold f_Cu_semicolon
          rw [if_neg e, na]; rfl
        · unfold f_Mo_semicolon
          rw [m67]
          rw [bndM_some]
          rw [if_pos rfl, if_neg hcnt, m65]
          by_cases c2 : f_Tk_sign tk (nI a) = 65
          · rw [if_pos c2]
            first | rw [bndM_some, if_neg (by decide)] | rw [bnd_some, if_neg (by decide)]
          · rw [if_neg c2]
            rw [bndM_some]
            have hln : ¬ q_lines mo (q_at mo).toNatClampNeg = 0 := by
              rw [(gM_word hR hm hl).2.2]
              intro e
              apply hor.resolve_left c2
              rw [(tk_in hT hl).2.2.1, e]; decide
            rw [if_pos rfl, if_pos (gM_inb hm (by omega)), if_neg hln]
      by_cases hor : f_Tk_sign tk (nI a) = 65 ∨ ¬ f_Tk_line tk (nI a) = 0
      · obtain ⟨e1, e2⟩ := hfin hor
        rw [e1, e2]
        exact hk a _ _ (Or.inr ⟨c, rfl⟩) (by omega) (by omega) hc hm
      · have c2 : ¬ f_Tk_sign tk (nI a) = 65 := fun e => hor (Or.inl e)
        have c3 : f_Tk_line tk (nI a) = 0 := Classical.byContradiction (fun e => hor (Or.inr e))
        refine Sim_rr (p := nI a) (Ref_bnd ?_) (RefM_bnd ?_) (at_ne hR ha)
        · have e : f_Cu_statementEnds st = 0 := by
            unfold f_Cu_statementEnds
            rw [gC_tk hc, gC_at hc, if_neg hkp, if_neg c, if_neg c2, if_pos c3]
          unfold f_Cu_semicolon
          rw [if_pos e, gC_at hc]
          exact Ref_bnd (Ref_refuse hc _)
        · unfold f_Mo_semicolon
          rw [m67]
          rw [bndM_some]
          rw [if_pos rfl, if_neg hcnt, m65, if_neg c2]
          rw [bndM_some]
          have hln : q_lines mo (q_at mo).toNatClampNeg = 0 := by
            rw [(gM_word hR hm hl).2.2]
            rw [(tk_in hT hl).2.2.1] at c3
            rcases (hR.2.2 a hl).2.2.2.2.1 with e | e
            · exact e
            · rw [if_pos e] at c3; exact absurd c3 (by decide)
          rw [if_pos rfl, if_pos (gM_inb hm (by omega)), if_pos hln, gM_at hm]
          exact RefM_bnd (RefM_refuse _ _)
    · have hk0 := (tk_out hT (show tkn tk ≤ a by omega) (by omega)).1
      have hcnt : q_count mo ≤ q_at mo := by
        rw [gM_at hm]
        have : q_count mo = nI (tkn tk) := by have := gM_gt hm; show mo.1.2.2.2.2 = _; rw [this]; exact hR.2.1
        rw [this]; exact nI_le (by omega) (by omega)
      have e1 : f_Cu_semicolon st = some (.inr (0, st)) := by
        have e : ¬ f_Cu_statementEnds st = 0 := by
          unfold f_Cu_statementEnds
          rw [gC_tk hc, gC_at hc, if_pos hk0, if_neg c]
          split <;> decide
        unfold f_Cu_semicolon
        rw [if_neg e, na]; rfl
      have e2 : f_Mo_semicolon mo = some (.inr (0, mo)) := by
        unfold f_Mo_semicolon
        rw [m67]
        rw [bndM_some]
        rw [if_pos rfl, if_pos hcnt]
      rw [e1, e2]
      exact hk a _ _ (Or.inr ⟨c, rfl⟩) (by omega) (by omega) hc hm
theorem cs_guard (st : ST) {e : Nat} (he : e ≤ 100) : f_Cu_guard st (nI e) = some (.inr (0, st)) := if_pos (nI_le he (by decide))
theorem rs_deep (mo : MO) {e : Nat} (he : e ≤ 100) : f_Mo_deep mo (nI e) = some (.inr (0, mo)) := if_pos (nI_le he (by decide))
theorem Ref_guard (hc : gC tk lb co a li L st) {e : Nat} (he : ¬ e ≤ 100) (hb : e < 1000) : Ref (f_Cu_guard st (nI e)) (nI a) := by
  unfold f_Cu_guard
  rw [if_neg (show ¬ nI e ≤ (100 : Int32) from nI_ge (show 100 < e by omega) (by omega)), gC_at hc]
  exact Ref_bnd (Ref_refuse hc _)
theorem RefM_deep (hm : gM gt ge gp gq a li g mo) {e : Nat} (he : ¬ e ≤ 100) (hb : e < 1000) : RefM (f_Mo_deep mo (nI e)) (nI a) := by
  unfold f_Mo_deep
  rw [if_neg (show ¬ nI e ≤ (100 : Int32) from nI_ge (show 100 < e by omega) (by omega)), gM_at hm]
  exact RefM_bnd (RefM_refuse _ _)
/-! names that may stand where a name is wanted -/
theorem rs_ident (hR : TkR tk gt) (ha : a ≤ tkn tk) (hm : gM gt ge gp gq a li g mo) (hs : ge.1 = 0 ∨ ge.1 = 1) (hi : ¬ f_Tk_identifier tk (nI a) ge.1 = 0) : f_Mo_identifier mo = some (.inr (f_Tk_name tk (nI a), s_at mo (q_at mo + 1))) := by
  have hT := hR.1
  have hl : a < tkn tk := by
    by_cases e : a < tkn tk
    · exact e
    · exact absurd ((tk_out hT (by omega) (by omega)).2.2.2.2.2 ge.1) hi
  have hk : f_Tk_kind tk (nI a) = 1 := by
    rw [(tk_in hT hl).1]
    refine Classical.byContradiction (fun e => hi ?_)
    unfold f_Tk_identifier
    rw [if_neg (nI_pos (by omega)), if_neg (nI_ge hl (by omega)), nI_clamp (by omega), if_neg e]
  have e1 : q_strict mo = ge.1 := by show mo.2.2.2.1.1 = _; rw [gM_ge hm]
  have e2 : q_at mo + 1 - 1 = q_at mo := by rw [gM_at hm, nI_1, nI_pred]
  unfold f_Mo_identifier
  rw [rs_kind hR hm ha (k := 1) (by decide), if_pos hk]
  rw [bndM_some]
  rw [if_neg (by decide), e1, rs_res hR hm hk ha hs, if_neg hi]
  rw [bndM_some]
  rw [if_pos rfl, e2, if_pos (gM_inb hm (by omega)), (gM_word hR hm hl).2.1, (tk_in hT hl).2.1]
theorem RefM_ident (hR : TkR tk gt) (ha : a ≤ tkn tk) (hm : gM gt ge gp gq a li g mo) (hs : ge.1 = 0 ∨ ge.1 = 1) (hi : f_Tk_identifier tk (nI a) ge.1 = 0) : RefM (f_Mo_identifier mo) (nI a) := by
  have e1 : q_strict mo = ge.1 := by show mo.2.2.2.1.1 = _; rw [gM_ge hm]
  unfold f_Mo_identifier
  rw [rs_kind hR hm ha (k := 1) (by decide)]
  by_cases hk : f_Tk_kind tk (nI a) = 1
  · rw [if_pos hk]
    rw [bndM_some]
    rw [if_neg (by decide), e1, rs_res hR hm hk ha hs, if_pos hi]
    rw [bndM_some]
    rw [if_neg (by decide), gM_at hm]
    exact RefM_bnd (RefM_refuse _ _)
  · rw [if_neg hk]
    rw [bndM_some]
    rw [if_pos rfl, gM_at hm]
    exact RefM_bnd (RefM_refuse _ _)
end PUS
