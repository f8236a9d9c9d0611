/-! for -/
section PVC
variable {tk : TK} {lb lbM lb0 lb1 : LB} {co : CO} {L L0 : List Nd} {st : ST} {gt : gT} {ge ge0 ge1 : gE} {gp gp0 gp1 : gP} {gq : gQ} {a aS : Nat} {li : Int32} {g g0 : gN} {mo : MO} {m m0 e o : Nat} {k v : Int32} {bd : List Nd}
variable {E : Int32 → Int32 → Int32 → ST → Rz} {S : Int32 → Int32 → ST → Rz} {F : Int32 → Int32 → ST → Rz} {K : Nat → List Int32 → MO → Rm}
variable {Q : Int32 → ST → Int32 → MO → Prop}
theorem cs_childL {pre rs : List Nd} (kk : Int32) : ∀ (ds dn : List Pt) (fu : Nat), gC tk lb co a li (pre ++ flatP dn ++ flatP ds ++ rs) st → (pre ++ flatP dn ++ flatP ds ++ rs).length < 4000 → ds.length < fu → dn.length < pre.length + (flatP dn).length →
    f_Tr_children_L (sTr st) kk (nI (pre ++ flatP dn ++ flatP ds).length) fu (nI (pre ++ flatP dn).length) (nI dn.length) (nI dn.length) = some (nI (dn.length + ds.length)) := by
  intro ds
  induction ds with
  | nil =>
    intro dn fu hc hb hf hd
    obtain ⟨fu', rfl⟩ : ∃ q, fu = q + 1 := ⟨fu - 1, by simp at hf; omega⟩
    have hlen : (pre ++ flatP dn ++ flatP []).length = (pre ++ flatP dn).length := by simp [flatP]
    unfold f_Tr_children_L
    rw [hlen]
    split
    · rfl
    · rw [if_pos (nI_le (Nat.le_refl _) (by simp at hb; simp; omega))]; rfl
  | cons q r ih =>
    intro dn fu hc hb hf hd
    obtain ⟨fu', rfl⟩ : ∃ z, fu = z + 1 := ⟨fu - 1, by simp at hf; omega⟩
    obtain ⟨k1, n1, w1, bd⟩ := q
    have ef : pre ++ flatP dn ++ flatP ((k1, n1, w1, bd) :: r) ++ rs = (pre ++ flatP dn) ++ (k1, n1, w1, nI (bd.length + 1)) :: (bd ++ (flatP r ++ rs)) := by simp [flatP]
    have ef2 : pre ++ flatP dn ++ flatP ((k1, n1, w1, bd) :: r) = pre ++ flatP (dn ++ [(k1, n1, w1, bd)]) ++ flatP r := by rw [flatP_app]; simp [flatP]
    have hl1 : (pre ++ flatP dn ++ flatP ((k1, n1, w1, bd) :: r)).length = (pre ++ flatP dn).length + (bd.length + 1 + (flatP r).length) := by rw [ef2, flatP_app]; simp [flatP]; omega
    have hl2 : (pre ++ flatP (dn ++ [(k1, n1, w1, bd)])).length = (pre ++ flatP dn).length + (bd.length + 1) := by rw [flatP_app]; simp [flatP]; omega
    have hl3 : (pre ++ flatP dn).length = pre.length + (flatP dn).length := by simp
    have hl4 : (pre ++ flatP dn ++ flatP ((k1, n1, w1, bd) :: r) ++ rs).length = (pre ++ flatP dn ++ flatP ((k1, n1, w1, bd) :: r)).length + rs.length := List.length_append
    have hc1 := hc
    rw [ef] at hc1
    have tb := behind_at hc1 (by rw [← ef]; omega)
    have hr := ih (dn ++ [(k1, n1, w1, bd)]) fu' (by rw [← ef2]; exact hc) (by rw [← ef2]; exact hb) (by simp at hf; omega) (by rw [List.length_append, flatP_app, List.length_append]; simp [flatP]; omega)
    rw [← ef2, hl2] at hr
    have hdl : (dn ++ [(k1, n1, w1, bd)]).length = dn.length + 1 := by simp
    rw [hdl] at hr
    have hn : trn (sTr st) = (pre ++ flatP dn ++ flatP ((k1, n1, w1, bd) :: r) ++ rs).length := (gC_tr hc).1
    unfold f_Tr_children_L
    rw [hn, if_neg (nI_ge (by omega) (by omega)), if_neg (nI_ge (by omega) (by omega)), tb, nI_1, hr]
    congr 2
    simp
    omega
theorem cs_child {pre rs : List Nd} {ds : List Pt} {w : Int32} (hc : gC tk lb co a li (pre ++ (2, 0, w, nI ((flatP ds).length + 1)) :: (flatP ds ++ rs)) st) (hb : (pre ++ (2, 0, w, nI ((flatP ds).length + 1)) :: (flatP ds ++ rs)).length < 3000) : f_Tr_children (sTr st) (nI pre.length) = some (nI ds.length) := by
  have tb := behind_at hc (by omega)
  unfold f_Tr_children
  rw [tb, nI_1]
  have e : pre ++ (2, 0, w, nI ((flatP ds).length + 1)) :: (flatP ds ++ rs) = (pre ++ [(2, 0, w, nI ((flatP ds).length + 1))]) ++ flatP [] ++ flatP ds ++ rs := by simp [flatP]
  have hc' := hc
  rw [e] at hc'
  have hdl := flatP_len ds
  have hh := cs_childL (nI pre.length) ds [] 5000 hc' (by rw [← e]; omega) (by simp at hb; omega) (by simp; omega)
  have e1 : ((pre ++ [((2, 0, w, nI ((flatP ds).length + 1)) : Nd)]) ++ flatP [] ++ flatP ds).length = pre.length + ((flatP ds).length + 1) := by simp [flatP]
  have e2 : ((pre ++ [((2, 0, w, nI ((flatP ds).length + 1)) : Nd)]) ++ flatP []).length = pre.length + 1 := by simp [flatP]
  rw [e1, e2] at hh
  have e3 : ([] : List Pt).length + ds.length = ds.length := by simp
  rw [e3] at hh
  exact hh
/-- a part that is left out, and the sign that tells it -/
theorem SN_none {s : Int32} (h : SN tk gt co lb0 ge0 gp0 gq aS L0 g0 m0 k v bd lb ge gp a li g m st mo) (hs : f_Tk_sign tk (nI a) = s) (hs1 : ¬ s = -1) :
    ∃ st1 mo1 g1, p_open st 59 0 (sAt st) = some (.inr (nI (L0 ++ (k, v, nI aS, 1) :: bd).length, st1)) ∧ f_Mo_none mo (nI m0) = some (.inr (0, mo1)) ∧ gC tk lb co a li (L0 ++ (k, v, nI aS, 1) :: (bd ++ [(59, 0, nI a, 1)])) st1 ∧ gM gt ge gp gq a li g1 mo1 ∧
      f_Cu_expect st1 s = some (.inr (0, setAt st1 (sAt st1 + 1))) ∧ f_Mo_expect mo1 s = some (.inr (0, s_at mo1 (q_at mo1 + 1))) ∧ SN tk gt co lb0 ge0 gp0 gq aS L0 g0 m0 k v (bd ++ [(59, 0, nI a, 1)]) lb ge gp (a + 1) li g1 (m + 1) (setAt st1 (sAt st1 + 1)) (s_at mo1 (q_at mo1 + 1)) := by
  obtain ⟨⟨hw, hc, hq, hd⟩, b2, b3, b4, b5, b6, b7, b8, b9, b10, b11⟩ := h
  have hT := hw.1.1
  have ha := hw.2.1
  have hl := lt_of_sign hT (by omega) hs hs1
  have hll : (L0 ++ (k, v, nI aS, (1 : Int32)) :: bd).length = L0.length + 1 + bd.length := by simp; omega
  obtain ⟨st1, e1, c1⟩ := cs_open hc (by omega) hT 59 0 (sAt st)
  rw [gC_at hc] at c1
  obtain ⟨mo1, g1, e2, q1, o1, f1, d1⟩ := rs_none hq hd (show m < 2600 by omega) b4 (Nat.le_refl _) (by omega) b5
  have ex : f_Cu_expect st1 s = some (.inr (0, setAt st1 (sAt st1 + 1))) := by
    unfold f_Cu_expect; rw [gC_tk c1, gC_at c1, if_pos hs]
  have ey : f_Mo_expect mo1 s = some (.inr (0, s_at mo1 (q_at mo1 + 1))) := by
    unfold f_Mo_expect
    rw [rs_sign hw.1 q1 ha hs1, if_pos hs, bndM_some, if_neg n10]
  have ec : L0 ++ (k, v, nI aS, 1) :: bd ++ [(59, 0, nI a, 1)] = L0 ++ (k, v, nI aS, 1) :: (bd ++ [(59, 0, nI a, 1)]) := by simp
  rw [ec] at c1
  exact ⟨st1, mo1, g1, e1, e2, c1, q1, ex, ey, ⟨Wf_up hw (by omega) (by omega), gC_inc c1, gM_inc q1, d1⟩, b2, FrN_trans b3 (f1 m0 (by omega) (Nat.le_refl _)) (Nat.le_refl _), o1, by omega, by omega, by simp; omega, by omega, b9, b10, by simp; omega⟩
theorem SN_sk (h : SN tk gt co lb0 ge0 gp0 gq aS L0 g0 m0 k v bd lb ge gp a li g m st mo) (x : Int32) : ∃ st1, p_setKind st (nI L0.length) x = some (.inr (0, st1)) ∧ SN tk gt co lb0 ge0 gp0 gq aS L0 g0 m0 x v bd lb ge gp a li (skN g m0 x) m st1 (s_kind mo (upd (q_kind mo) m0 x)) := by
  obtain ⟨⟨hw, hc, hq, hd⟩, b2, b3, b4, b5, b6, b7, b8, b9, b10, b11⟩ := h
  have hT := hw.1.1
  have ha := hw.2.1
  have hll : (L0 ++ (k, v, nI aS, (1 : Int32)) :: bd).length = L0.length + 1 + bd.length := by simp; omega
  obtain ⟨st1, e1, c1⟩ := cs_setK (pre := L0) (k := k) (v := v) (w := nI aS) (z := 1) (x := x) (bd := bd) hc rfl (by omega) rfl
  exact ⟨st1, e1, ⟨hw, c1, gM_sk hq x, hd⟩, b2, FrN_trans b3 (FrN_sk g m0 x (Nat.le_refl _)) (Nat.le_refl _), Opn_sk x b4, b5, b6, b7, b8, b9, b10, b11⟩
end PVC
