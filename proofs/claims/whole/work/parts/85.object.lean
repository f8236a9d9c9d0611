/-! objects -/
theorem PpR_fr {nf : Nat} {lb lb' : LB} {ge ge' : gE} {gp gp' : gP} {mk : Nat} {ps : List Pt} (h : PpR gp mk ps) (hf : Fr nf lb lb' ge ge' gp gp') : PpR gp' mk ps := by
  obtain ⟨h1, h2, h3⟩ := h
  obtain ⟨_, _, _, _, f5, f6⟩ := hf
  refine ⟨f5.trans h1, h2, ?_⟩
  intro i q hi
  have hil : i < ps.length := by
    by_cases c : i < ps.length
    · exact c
    · rw [List.getElem?_eq_none (by omega)] at hi; exact absurd hi (by simp)
  obtain ⟨a1, a2⟩ := f6 (mk + i) (by rw [h1]; exact nI_lt (by omega) (by omega)) (by omega)
  obtain ⟨b1, b2, b3⟩ := h3 i q hi
  exact ⟨a1.trans b1, a2.trans b2, b3⟩
theorem PpR_snoc {gp : gP} {mk : Nat} {ps : List Pt} (h : PpR gp mk ps) (hb : mk + ps.length < 1000) (k nm w : Int32) (sg : List Nd) (hk : k = 47 ∨ k = 48 ∨ k = 49) : PpR (nI (mk + ps.length + 1), upd gp.2.1 (mk + ps.length) nm, upd gp.2.2 (mk + ps.length) (srt k)) mk (ps ++ [(k, nm, w, sg)]) := by
  obtain ⟨h1, h2, h3⟩ := h
  refine ⟨by rw [List.length_append, ← Nat.add_assoc]; rfl, by simp; omega, ?_⟩
  intro i q hiq
  by_cases ci : i = ps.length
  · subst ci
    have : q = (k, nm, w, sg) := by simpa using hiq.symm
    rw [this]
    exact ⟨up_eq, up_eq, hk⟩
  · have hi2 : ps[i]? = some q := by
      by_cases cl : i < ps.length
      · rw [List.getElem?_append_left cl] at hiq; exact hiq
      · rw [List.getElem?_append_right (by omega)] at hiq
        obtain ⟨z, hz⟩ : ∃ z, i - ps.length = z + 1 := ⟨i - ps.length - 1, by omega⟩
        rw [hz] at hiq
        simp at hiq
    obtain ⟨b1, b2, b3⟩ := h3 i q hi2
    refine ⟨?_, ?_, b3⟩
    · show upd gp.2.1 (mk + ps.length) nm (mk + i) = _
      rw [up_ne (by omega)]; exact b1
    · show upd gp.2.2 (mk + ps.length) (srt k) (mk + i) = _
      rw [up_ne (by omega)]; exact b2
def OS (tk : TK) (gt : gT) (co : CO) (lb0 : LB) (ge0 : gE) (gp0 : gP) (gq : gQ) (mk p aO : Nat) (L0 : List Nd) (g0 : gN) (ps : List Pt) (lb : LB) (ge : gE) (gp : gP) (a : Nat) (li : Int32) (g : gN) (m : Nat) (st : ST) (mo : MO) : Prop :=
  RR tk gt co lb ge gp gq a li g m (L0 ++ (46, 0, nI aO, 1) :: flatP ps) st mo ∧ PpR gp mk ps ∧ Fr (lbn lb0) lb0 lb ge0 ge gp0 (nI mk, gp.2) ∧ FrN g0 g p ∧ Opn g p 46 0 (nI aO) (flatP ps) (p + 1) m ∧ p < m ∧ aO < a ∧ (flatP ps).length + 2 ≤ 2 * (a - aO) ∧ m + 1 ≤ p + 2 * (a - aO) ∧ mk + ps.length ≤ aO + (a - aO) - 1
section PWO
variable {tk : TK} {lb lb0 : LB} {co : CO} {L0 : List Nd} {st : ST} {gt : gT} {ge ge0 : gE} {gp gp0 : gP} {gq : gQ} {a mk p aO : Nat} {li : Int32} {g g0 : gN} {mo : MO} {m e : Nat} {ps : List Pt}
variable {Q : Int32 → ST → Int32 → MO → Prop}
theorem rs_tell (hq : gM gt ge gp gq a li g mo) (hs : ge.1 = 0 ∨ ge.1 = 1) (hp : PpR gp mk ps) (hb : mk + ps.length < 1000) (k nm : Int32) (hk : k = 47 ∨ k = 48 ∨ k = 49) (tok : Int32) :
    ((∃ q ∈ ps, hit ge.1 k nm q) → RefM (f_Mo_tell mo (nI mk) nm (srt k) tok) tok) ∧ ((¬ ∃ q ∈ ps, hit ge.1 k nm q) → ∃ mo', f_Mo_tell mo (nI mk) nm (srt k) tok = some (.inr (0, mo')) ∧ gM gt ge (nI (mk + ps.length + 1), upd gp.2.1 (mk + ps.length) nm, upd gp.2.2 (mk + ps.length) (srt k)) gq a li g mo') := by
  obtain ⟨t1, t2⟩ := rs_tellL hq hs k nm hk tok hp ps [] 5000 rfl (by omega)
  have hz : nI (mk + ([] : List Pt).length) = nI mk := rfl
  rw [hz] at t1 t2
  unfold f_Mo_tell
  constructor
  · intro h; exact RefM_bnd (t1 h)
  · intro h
    have e1 : q_properties mo = nI (mk + ps.length) := by show mo.2.2.2.2.1.1 = _; rw [gM_gp hq]; exact hp.1
    have e2 : q_property mo = gp.2.1 := by show mo.2.2.2.2.1.2.1 = _; rw [gM_gp hq]
    have e3 : q_sort mo = gp.2.2 := by show mo.2.2.2.2.1.2.2 = _; rw [gM_gp hq]
    rw [t2 h, bndM_some, e1, if_pos (nI_in (by omega) (by decide)), nI_clamp (by omega), nI_1, e2, e3]
    refine ⟨_, rfl, ?_⟩
    obtain ⟨th, rfl⟩ := hq
    exact ⟨th, rfl⟩
theorem cs_cl (hc : gC tk lb co a li (L0 ++ (46, 0, nI aO, 1) :: flatP ps) st) (hb : (L0 ++ (46, 0, nI aO, 1) :: flatP ps).length < 4000) (k nm : Int32) : f_Pa_clashes st (nI L0.length) k nm = some (if ∃ q ∈ ps, hit co.2.2.1 k nm q then 1 else 0) := by
  have e : L0 ++ (46, 0, nI aO, 1) :: flatP ps = (L0 ++ [(46, 0, nI aO, 1)]) ++ flatP [] ++ flatP ps := by simp [flatP]
  have hc' := hc
  rw [e] at hc'
  have hh := cs_clash (ob := L0.length) k nm ps [] 5000 hc' (by rw [← e]; exact hb) (by have := flatP_len ps; rw [List.length_append] at hb; simp at hb; omega) (by simp; omega)
  have e2 : ((L0 ++ [((46, 0, nI aO, 1) : Nd)]) ++ flatP []).length = L0.length + 1 := by simp [flatP]
  rw [← e, e2] at hh
  unfold f_Pa_clashes
  rw [f_count hc, nI_1]
  exact hh
/-- the value of a property, or its function, and its end -/
theorem sm_pval {A : ST → Rz} {B : MO → Rm} {X : TK × CO → Nat → Nat → List Nd → Prop} {e1 : Nat} (hA : HC 1 2 X A B e1) {k : Int32 → ST → Rz} {k' : Int32 → MO → Rm} {kk nm : Int32} {n : Nat} {g1 : gN} {gp2 : gP} {a2 : Nat}
    (hkk : kk = 47 ∨ kk = 48 ∨ kk = 49) (hw : Wf tk gt co lb ge gp2 a2) (hc : gC tk lb co a2 li (L0 ++ (46, 0, nI aO, 1) :: flatP ps ++ [(kk, nm, nI a, 1)]) st) (hq : gM gt ge gp2 gq a2 li (hgN g1 p (nI n)) mo) (hd : nM (hgN g1 p (nI n)) = nI (n + 1))
    (hOp : Opn g1 p 46 0 (nI aO) (flatP ps) (p + 1) n) (hOn : Opn g1 n kk nm (nI a) [] (n + 1) (n + 1)) (hpn : p < n) (hP : ∀ sg, PpR gp2 mk (ps ++ [(kk, nm, nI a, sg)])) (hFr : Fr (lbn lb0) lb0 lb ge0 ge gp0 (nI mk, gp2.2)) (hFN : FrN g0 g1 p) (hlb : lbn lb0 < e1)
    (b1 : aO < a) (b2 : a + 2 ≤ a2) (b3 : (flatP ps).length + 2 ≤ 2 * (a - aO)) (b4 : n + 1 ≤ p + 2 * (a - aO)) (b5 : mk + ps.length ≤ aO + (a - aO) - 1) (b6 : L0.length ≤ 2 * aO + 2) (b7 : p ≤ 2 * aO + 2) (hmk : gp0.1 = nI mk)
    (hk : ∀ st' mo' lb' ge' gp' a' li' g' m' sg, OS tk gt co lb0 ge0 gp0 gq mk p aO L0 g0 (ps ++ [(kk, nm, nI a, sg)]) lb' ge' gp' a' li' g' m' st' mo' → a < a' → Sim (k 0 st') (k' 0 mo') Q) :
    Sim (bnd (A st) (fun _ st12 => bnd (p_close st12 (nI (L0 ++ (46, 0, nI aO, 1) :: flatP ps).length)) k)) (bndM (B mo) (fun r_8 mo_8 => bndM (f_Mo_hang mo_8 (nI n) r_8) k')) Q := by
  have hT := hw.1.1
  have ha := hw.2.1
  have hll : (L0 ++ (46, 0, nI aO, 1) :: flatP ps ++ [(kk, nm, nI a, (1 : Int32))]).length = L0.length + 1 + (flatP ps).length + 1 := by simp; omega
  have hlb2 : lbn lb = lbn lb0 := hFr.1
  have hOn2 : Opn (hgN g1 p (nI n)) n kk nm (nI a) [] (n + 1) (n + 1) := Opn_oth hOp.1 hOn (by omega) (Nat.le_refl _)
  refine Sim_bind (hA tk gt co lb ge gp2 gq a2 li (hgN g1 p (nI n)) (n + 1) _ st mo ⟨hw, hc, hq, hd⟩ (by omega) (by omega) (by omega)) ?_
  intro r st3 n3 mo3 h3
  obtain ⟨lb3, ge3, gp3, a3, li3, g3, m3, sg, n3', rfl, w3, c3, q3, d3, fr3, fn3, o3, l1, l2, l3, l4, l5, l6, l7, _⟩ := PX_le h3
  have hOn3 := Opn_fr hOn2 fn3 (Nat.le_refl _) (Nat.lt_succ_self _)
  obtain ⟨mo4, g4, e4, q4, o4, f4, d4⟩ := rs_hang' q3 hOn3 o3 (Nat.le_refl _) (Nat.le_refl _) (Or.inl (Nat.lt_succ_self _))
  refine Sim_m e4 ?_
  have hl3 : (L0 ++ (46, 0, nI aO, 1) :: flatP ps ++ [(kk, nm, nI a, (1 : Int32))] ++ sg).length = L0.length + 1 + (flatP ps).length + 1 + sg.length := by rw [List.length_append, hll]
  obtain ⟨st5, e5, c5⟩ := cs_close (pre := L0 ++ (46, 0, nI aO, 1) :: flatP ps) (k := kk) (v := nm) (w := nI a) (z := 1) (bd := sg) c3 (by simp) (by omega) rfl
  refine Sim_c e5 ?_
  rw [List.nil_append] at o4
  have oneN := Opn_one o4 (show n ≤ n + 1 by omega) (Nat.le_refl _) (Nat.le_refl _) (by omega)
  have fl : FrN (hgN g1 p (nI n)) g4 n := FrN_trans (FrN_less fn3 (by omega)) (f4 n (by omega) (Nat.le_refl _)) (Nat.le_refl _)
  have oP := Opn_late hOp oneN (Nat.le_refl _) (by omega) hpn (by omega) fl
  have hfh : FrN g1 (hgN g1 p (nI n)) p := by
    have one0 := Opn_one hOn (show n ≤ n + 1 by omega) (Nat.le_refl _) (Nat.le_refl _) (Nat.lt_succ_self _)
    exact (Opn_hang hOp one0 (Nat.le_refl _) (by omega) (Or.inl hpn)).2.1 p (by omega) (Nat.le_refl _)
  have esg : flatP (ps ++ [(kk, nm, nI a, sg)]) = flatP ps ++ (kk, nm, nI a, nI (sg.length + 1)) :: sg := by rw [flatP_app]; simp [flatP]
  refine hk st5 mo4 lb3 ge3 gp3 a3 li3 g4 m3 sg ⟨⟨w3, ?_, q4, d4.trans d3⟩, PpR_fr (hP sg) fr3, ?_, FrN_trans (FrN_trans hFN hfh (Nat.le_refl _)) (FrN_less fl (by omega)) (Nat.le_refl _), by rw [esg]; exact oP, by omega, by omega, by rw [esg]; simp; omega, by omega, by simp; omega⟩ (by omega)
  · rw [esg]
    have : L0 ++ (46, 0, nI aO, 1) :: (flatP ps ++ (kk, nm, nI a, nI (sg.length + 1)) :: sg) = L0 ++ (46, 0, nI aO, 1) :: flatP ps ++ (kk, nm, nI a, nI (sg.length + 1)) :: sg := by simp
    rw [this]; exact c5
  · obtain ⟨a1, a2', a3', a4, a5, a6⟩ := fr3
    refine Fr_trans hFr ⟨a1, a2', a3', a4, rfl, ?_⟩ (by rw [hlb2]; exact Nat.le_refl _)
    intro i hi hib
    have hP0 := (hP []).1
    refine a6 i ?_ hib
    rw [hP0]
    have him : i < mk := (nI_ltI hib (by omega)).mp hi
    exact nI_lt (by simp; omega) (by simp; omega)
end PWO
