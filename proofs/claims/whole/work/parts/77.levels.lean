/-! the levels of an expression -/
def xRest (E : Int32 → Int32 → Int32 → ST → Rz) (S : Int32 → Int32 → ST → Rz) (F : Int32 → Int32 → ST → Rz) (start level depth inn : Int32) (st_9 : ST) : Rz := (if 10 < level then (if 0 < level then (if level = (-1) then (bnd (f_Pa_commas E S F st_9 start depth inn) (fun _ st_13 => (some (.inr (0, st_13))))) else (some (.inr (0, st_9)))) else (bnd (f_Pa_conditional E S F st_9 start depth inn) (fun _ st_14 => (bnd (f_Pa_assignment E S F st_14 start depth inn) (fun _ st_15 => (if level = (-1) then (bnd (f_Pa_commas E S F st_15 start depth inn) (fun _ st_17 => (some (.inr (0, st_17))))) else (some (.inr (0, st_15))))))))) else (bnd (f_Pa_binaries E S F st_9 start (if level < 1 then 1 else level) depth inn) (fun _ st_18 => (if 0 < level then (if level = (-1) then (bnd (f_Pa_commas E S F st_18 start depth inn) (fun _ st_21 => (some (.inr (0, st_21))))) else (some (.inr (0, st_18)))) else (bnd (f_Pa_conditional E S F st_18 start depth inn) (fun _ st_22 => (bnd (f_Pa_assignment E S F st_22 start depth inn) (fun _ st_23 => (if level = (-1) then (bnd (f_Pa_commas E S F st_23 start depth inn) (fun _ st_25 => (some (.inr (0, st_25))))) else (some (.inr (0, st_23))))))))))))
theorem assR_eq (K : Nat → List Int32 → MO → Rm) (mo : MO) (depth inn : Int32) : f_Mo_assignment K mo depth inn = bndM (f_Mo_deep mo depth) (fun _ mo_1 => bndM (f_Mo_binary K mo_1 depth inn 1) (fun r_2 mo_2 => assR K depth inn r_2 mo_2)) := rfl
theorem x_eq (E : Int32 → Int32 → Int32 → ST → Rz) (S : Int32 → Int32 → ST → Rz) (F : Int32 → Int32 → ST → Rz) (st : ST) (level depth inn : Int32) : f_Pa_expression E S F st level depth inn = bnd (f_Cu_guard st depth) (fun _ st1 => if 12 ≤ level then bnd (bnd (xPrim E S F st1 depth) (fun _ s2 => f_Pa_tails E S F s2 (f_Tr_count (sTr st1)) depth 0)) (fun _ s3 => xRest E S F (f_Tr_count (sTr st1)) level depth inn s3) else bnd (xOpd E S F st1 depth) (fun _ s3 => xRest E S F (f_Tr_count (sTr st1)) level depth inn s3)) := by
  unfold f_Pa_expression xOpd xPrim xRest
  simp only [bnd_ite, bnd_as]
section XRS
variable (E : Int32 → Int32 → Int32 → ST → Rz) (S : Int32 → Int32 → ST → Rz) (F : Int32 → Int32 → ST → Rz) (start depth inn : Int32) (s : ST)
theorem xRest_m1 : xRest E S F start (-1) depth inn s = bnd (f_Pa_binaries E S F s start 1 depth inn) (fun _ s1 => bnd (f_Pa_conditional E S F s1 start depth inn) (fun _ s2 => bnd (f_Pa_assignment E S F s2 start depth inn) (fun _ s3 => bnd (f_Pa_commas E S F s3 start depth inn) (fun _ s4 => some (.inr (0, s4)))))) := by
  have d1 : ((10 : Int32) < -1) = False := by decide
  have d2 : ((-1 : Int32) < 1) = True := by decide
  have d3 : ((0 : Int32) < -1) = False := by decide
  unfold xRest
  simp only [d1, d2, d3, if_false, if_true]
theorem xRest_0 : xRest E S F start 0 depth inn s = bnd (f_Pa_binaries E S F s start 1 depth inn) (fun _ s1 => bnd (f_Pa_conditional E S F s1 start depth inn) (fun _ s2 => bnd (f_Pa_assignment E S F s2 start depth inn) (fun _ s3 => some (.inr (0, s3))))) := by
  have d1 : ((10 : Int32) < 0) = False := by decide
  have d2 : ((0 : Int32) < 1) = True := by decide
  have d3 : ((0 : Int32) < 0) = False := by decide
  have d4 : ((0 : Int32) = -1) = False := by decide
  unfold xRest
  simp only [d1, d2, d3, d4, if_false, if_true]
theorem xRest_11 : xRest E S F start 11 depth inn s = some (.inr (0, s)) := by
  have d1 : ((10 : Int32) < 11) = True := by decide
  have d3 : ((0 : Int32) < 11) = True := by decide
  have d4 : ((11 : Int32) = -1) = False := by decide
  unfold xRest
  simp only [d1, d3, d4, if_false, if_true]
theorem xRest_12 : xRest E S F start 12 depth inn s = some (.inr (0, s)) := by
  have d1 : ((10 : Int32) < 12) = True := by decide
  have d3 : ((0 : Int32) < 12) = True := by decide
  have d4 : ((12 : Int32) = -1) = False := by decide
  unfold xRest
  simp only [d1, d3, d4, if_false, if_true]
theorem xRest_j {j : Nat} (h1 : 2 ≤ j) (h2 : j ≤ 10) : xRest E S F start (nI j) depth inn s = bnd (f_Pa_binaries E S F s start (nI j) depth inn) (fun _ s1 => some (.inr (0, s1))) := by
  have d1 : ((10 : Int32) < nI j) = False := eq_false (nI_nlt (a := 10) (b := j) h2 (by decide))
  have d2 : (nI j < (1 : Int32)) = False := eq_false (nI_nlt (a := j) (b := 1) (by omega) (by omega))
  have d3 : ((0 : Int32) < nI j) = True := eq_true (nI_lt (a := 0) (b := j) (by omega) (by omega))
  have d4 : (nI j = (-1 : Int32)) = False := eq_false (m1_ne j (by omega))
  unfold xRest
  simp only [d1, d2, d3, d4, if_false, if_true]
end XRS
section PUX
variable {tk : TK} {lb lb0 : LB} {co : CO} {L L0 : List Nd} {st : ST} {gt : gT} {ge ge0 : gE} {gp gp0 : gP} {gq : gQ} {a a0 : Nat} {li : Int32} {g g0 : gN} {mo : MO} {m m0 e n nf : Nat} {sg : List Nd} {inn : Int32}
variable {E : Int32 → Int32 → Int32 → ST → Rz} {S : Int32 → Int32 → ST → Rz} {F : Int32 → Int32 → ST → Rz} {K : Nat → List Int32 → MO → Rm}
theorem sm_bin (hi : inn = 0 ∨ inn = 1) (h2 : ∀ j, 2 ≤ j → j ≤ 11 → HC 1 2 XT (E (nI j) (nI (e + 1)) inn) (K 2 [nI (e + 1), inn, nI j]) (e + 1)) (hee : e ≤ 100) (lw : Nat) (hlw : 1 ≤ lw) (hlw2 : lw ≤ 11)
    (hUn : Sim (xOpd E S F st (nI e)) (f_Mo_unary K mo (nI e)) (PX 1 (lbn lb) (XL (tk, co) a) tk gt co lb ge gp gq a g m L)) (hlb : lbn lb < e) (hL : L.length ≤ 2 * a + 2) (hm : m ≤ 2 * a + 2) :
    Sim (bnd (xOpd E S F st (nI e)) (fun _ s => f_Pa_binaries E S F s (nI L.length) (nI lw) (nI e) inn)) (f_Mo_binary K mo (nI e) inn (nI lw)) (PX 1 (lbn lb) (XL (tk, co) a) tk gt co lb ge gp gq a g m L) := by
  unfold f_Mo_binary
  rw [rs_deep mo hee, bndM_some]
  refine Sim_bind hUn ?_
  intro r st2 n0 mo2 h2'
  obtain ⟨lb2, ge2, gp2, a2, li2, g2, m2, sg, n, rfl, hU, hX⟩ := PX_CU h2' hL hm
  have hw := hU.1.1
  have hT := hw.1.1
  obtain ⟨ho, _⟩ := rs_oper (inn := inn) hw.1 hw.2.1 hU.1.2.1 hU.1.2.2.1 hi
  rw [ho, bndM_some]
  unfold f_Pa_binaries
  have hb := sm_bins (S := S) (F := F) hi h2 tk gt co lb ge gp gq a g m L (by omega) lw hlw hlw2 5000 5000 0 lb2 ge2 gp2 a2 li2 g2 m2 sg n st2 mo2 hU hX (by omega) (by omega) (by omega)
  refine Sim_bind hb ?_
  intro r3 st3 n3 mo3 h3
  exact Sim_ret h3
theorem sm_ass (hi : inn = 0 ∨ inn = 1) (he : HC 1 2 XA (E 0 (nI (e + 1)) inn) (K 1 [nI (e + 1), inn]) (e + 1)) (h1 : HC 1 2 XA (E 0 (nI (e + 1)) 1) (K 1 [nI (e + 1), 1]) (e + 1)) (hee : e ≤ 100)
    (hB : Sim (bnd (xOpd E S F st (nI e)) (fun _ s => f_Pa_binaries E S F s (nI L.length) (nI 1) (nI e) inn)) (f_Mo_binary K mo (nI e) inn (nI 1)) (PX 1 (lbn lb) (XL (tk, co) a) tk gt co lb ge gp gq a g m L)) (hlb : lbn lb < e) (hL : L.length ≤ 2 * a + 2) (hm : m ≤ 2 * a + 2) :
    Sim (bnd (bnd (xOpd E S F st (nI e)) (fun _ s => f_Pa_binaries E S F s (nI L.length) (nI 1) (nI e) inn)) (fun _ s => bnd (f_Pa_conditional E S F s (nI L.length) (nI e) inn) (fun _ s14 => f_Pa_assignment E S F s14 (nI L.length) (nI e) inn))) (f_Mo_assignment K mo (nI e) inn) (PX 1 (lbn lb) (fun a' sg' => XL (tk, co) a a' sg' ∧ XA (tk, co) a a' sg') tk gt co lb ge gp gq a g m L) := by
  rw [assR_eq, rs_deep mo hee, bndM_some]
  refine Sim_bind hB ?_
  intro r st2 n0 mo2 h2'
  obtain ⟨lb2, ge2, gp2, a2, li2, g2, m2, sg, n, rfl, hU, hX⟩ := PX_CU h2' hL hm
  exact sm_assign he h1 (by omega) hU hX
theorem sm_com (he : HC 1 2 XA (E 0 (nI (e + 1)) inn) (K 1 [nI (e + 1), inn]) (e + 1)) {x : Rz}
    (hA : Sim x (f_Mo_assignment K mo (nI e) inn) (PX 1 (lbn lb) (fun a' sg' => XL (tk, co) a a' sg' ∧ XA (tk, co) a a' sg') tk gt co lb ge gp gq a g m L)) (hlb : lbn lb < e) (hL : L.length ≤ 2 * a + 2) (hm : m ≤ 2 * a + 2) :
    Sim (bnd x (fun _ s => f_Pa_commas E S F s (nI L.length) (nI e) inn)) (f_Mo_expression K mo (nI e) inn) (PX 1 (lbn lb) (XL (tk, co) a) tk gt co lb ge gp gq a g m L) := by
  unfold f_Mo_expression
  refine Sim_bind hA ?_
  intro r st2 n0 mo2 h2'
  obtain ⟨lb2, ge2, gp2, a2, li2, g2, m2, sg, n, rfl, hU, hX⟩ := PX_CU h2' hL hm
  have hT := hU.1.1.1.1
  unfold f_Pa_commas
  have hb := sm_commas (S := S) (F := F) he tk gt co lb ge gp gq a g m L (by omega) 5000 5000 0 lb2 ge2 gp2 a2 li2 g2 m2 sg n st2 mo2 hU hX.1 (by omega) (by omega) (by omega)
  refine Sim_bind hb ?_
  intro r3 st3 n3 mo3 h3
  exact Sim_ret h3
end PUX
/-- what is known of the calls one level deeper -/
def HE (E : Int32 → Int32 → Int32 → ST → Rz) (K : Nat → List Int32 → MO → Rm) (e : Nat) : Prop :=
  (∀ inn : Int32, inn = 0 ∨ inn = 1 → HC 1 2 XL (E (-1) (nI e) inn) (K 0 [nI e, inn]) e) ∧ (∀ inn : Int32, inn = 0 ∨ inn = 1 → HC 1 2 XA (E 0 (nI e) inn) (K 1 [nI e, inn]) e) ∧
  (∀ inn : Int32, inn = 0 ∨ inn = 1 → ∀ j, 2 ≤ j → j ≤ 11 → HC 1 2 XT (E (nI j) (nI e) inn) (K 2 [nI e, inn, nI j]) e) ∧ HC 1 2 XN (E 11 (nI e) 1) (K 3 [nI e]) e ∧
  HC 1 2 XT (E 12 (nI e) 1) (fun q => bndM (f_Mo_deep q (nI e)) (fun _ q1 => K 4 [nI e, 0] q1)) e
/-- the operand, as both take it -/
def HP (E : Int32 → Int32 → Int32 → ST → Rz) (S : Int32 → Int32 → ST → Rz) (F : Int32 → Int32 → ST → Rz) (K : Nat → List Int32 → MO → Rm) (e : Nat) : Prop :=
  HC 1 2 XL (fun st => xPrim E S F st (nI e)) (fun mo => bndM (f_Mo_isWord mo 15) (fun r_1 mo_1 => if r_1 = 0 then f_Mo_primary K mo_1 (nI e) else f_Mo_newOne K mo_1 (nI e))) e
theorem HC_XT {sl dl e : Nat} {X : TK × CO → Nat → Nat → List Nd → Prop} {A : ST → Rz} {B : MO → Rm} (h : HC sl dl X A B e) : HC sl dl XT A B e := by
  intro tk gt co lb ge gp gq a li g m L st mo hR h1 h2 h3
  exact Sim_mono (h tk gt co lb ge gp gq a li g m L st mo hR h1 h2 h3) (fun _ _ _ _ h => PX_mono h (fun _ _ _ => trivial))
theorem he_deep {E : Int32 → Int32 → Int32 → ST → Rz} {S : Int32 → Int32 → ST → Rz} {F : Int32 → Int32 → ST → Rz} {K : Nat → List Int32 → MO → Rm} {sl dl : Nat} {X : TK × CO → Nat → Nat → List Nd → Prop} {level inn : Int32} {B : MO → Rm} (hB : ∀ (mo : MO) (p : Int32), RefM (f_Mo_deep mo (nI 101)) p → RefM (B mo) p) : HC sl dl X (fun st => f_Pa_expression E S F st level (nI 101) inn) B 101 := by
  intro tk gt co lb ge gp gq a li g m L st mo hR h1 h2 h3
  obtain ⟨hw, hc, hq, hd⟩ := hR
  refine Sim_rr (p := nI a) ?_ (hB mo _ (RefM_deep hq (by omega) (by omega))) (at_ne hw.1 hw.2.1)
  unfold f_Pa_expression
  exact Ref_bnd (Ref_guard hc (by omega) (by omega))
theorem he_levels {E : Int32 → Int32 → Int32 → ST → Rz} {S : Int32 → Int32 → ST → Rz} {F : Int32 → Int32 → ST → Rz} {K : Nat → List Int32 → MO → Rm} {e : Nat} (hee : e ≤ 100) (hE : HE E K (e + 1)) (hP : HP E S F K e) :
    (∀ inn : Int32, inn = 0 ∨ inn = 1 → HC 1 2 XL (fun st => f_Pa_expression E S F st (-1) (nI e) inn) (fun mo => f_Mo_expression K mo (nI e) inn) e) ∧ (∀ inn : Int32, inn = 0 ∨ inn = 1 → HC 1 2 XA (fun st => f_Pa_expression E S F st 0 (nI e) inn) (fun mo => f_Mo_assignment K mo (nI e) inn) e) ∧
    (∀ inn : Int32, inn = 0 ∨ inn = 1 → ∀ j, 2 ≤ j → j ≤ 11 → HC 1 2 XT (fun st => f_Pa_expression E S F st (nI j) (nI e) inn) (fun mo => f_Mo_binary K mo (nI e) inn (nI j)) e) ∧ HC 1 2 XN (fun st => f_Pa_expression E S F st 11 (nI e) 1) (fun mo => f_Mo_unary K mo (nI e)) e ∧
    HC 1 2 XT (fun st => f_Pa_expression E S F st 12 (nI e) 1) (fun q => bndM (f_Mo_deep q (nI e)) (fun _ q1 => f_Mo_member K q1 (nI e) 0)) e := by
  obtain ⟨hE0, hE1, hE2, hE3, hE4⟩ := hE
  have un : HC 1 2 XL (fun st => xOpd E S F st (nI e)) (fun mo => f_Mo_unary K mo (nI e)) e := by
    intro tk gt co lb ge gp gq a li g m L st mo hR h1 h2 h3
    exact sm_unary (hE1 1 (Or.inr rfl)) (hE0 1 (Or.inr rfl)) hE3 hee (hP tk gt co lb ge gp gq a li g m L st mo hR h1 h2 h3) hR h1 h2 h3
  have rd : ∀ (st : ST) (inn level : Int32), ¬ 12 ≤ level → f_Pa_expression E S F st level (nI e) inn = bnd (xOpd E S F st (nI e)) (fun _ s3 => xRest E S F (f_Tr_count (sTr st)) level (nI e) inn s3) := by
    intro st inn level hl
    rw [x_eq, cs_guard st hee, bnd_some, if_neg hl]
  refine ⟨?_, ?_, ?_, ?_, ?_⟩
  · intro inn hi tk gt co lb ge gp gq a li g m L st mo hR h1 h2 h3
    have hB := sm_bin hi (hE2 inn hi) hee 1 (Nat.le_refl _) (by decide) (un tk gt co lb ge gp gq a li g m L st mo hR h1 h2 h3) h1 h2 h3
    have hA := sm_ass hi (hE1 inn hi) (hE1 1 (Or.inr rfl)) hee hB h1 h2 h3
    have hC := sm_com (S := S) (F := F) (hE1 inn hi) hA h1 h2 h3
    show Sim (f_Pa_expression E S F st (-1) (nI e) inn) _ _
    rw [rd st inn (-1) (by decide), f_count hR.2.1]
    have hD := Sim_bindC (Q' := PX 1 (lbn lb) (XL (tk, co) a) tk gt co lb ge gp gq a g m L) (k := fun _ s => some (.inr (0, s))) hC (fun _ _ _ _ h => Sim_ret h)
    simp only [bnd_as] at hD
    simp only [xRest_m1]
    exact hD
  · intro inn hi tk gt co lb ge gp gq a li g m L st mo hR h1 h2 h3
    have hB := sm_bin hi (hE2 inn hi) hee 1 (Nat.le_refl _) (by decide) (un tk gt co lb ge gp gq a li g m L st mo hR h1 h2 h3) h1 h2 h3
    have hA := sm_ass hi (hE1 inn hi) (hE1 1 (Or.inr rfl)) hee hB h1 h2 h3
    show Sim (f_Pa_expression E S F st 0 (nI e) inn) _ _
    rw [rd st inn 0 (by decide), f_count hR.2.1]
    have hD := Sim_bindC (Q' := PX 1 (lbn lb) (XA (tk, co) a) tk gt co lb ge gp gq a g m L) (k := fun _ s => some (.inr (0, s))) hA (fun _ _ _ _ h => Sim_ret (PX_mono h (fun _ _ hx => hx.2)))
    simp only [bnd_as] at hD
    simp only [xRest_0]
    exact hD
  · intro inn hi j j2 j11 tk gt co lb ge gp gq a li g m L st mo hR h1 h2 h3
    show Sim (f_Pa_expression E S F st (nI j) (nI e) inn) _ _
    rw [rd st inn (nI j) (nI_ge (show j < 12 by omega) (by decide)), f_count hR.2.1]
    by_cases c11 : j = 11
    · subst c11
      have e11 : ∀ s3, xRest E S F (nI L.length) (nI 11) (nI e) inn s3 = some (.inr (0, s3)) := fun s3 => xRest_11 E S F (nI L.length) (nI e) inn s3
      simp only [e11]
      unfold f_Mo_binary
      rw [rs_deep mo hee, bndM_some]
      refine Sim_bind (un tk gt co lb ge gp gq a li g m L st mo hR h1 h2 h3) ?_
      intro r st2 n0 mo2 h2'
      obtain ⟨lb2, ge2, gp2, a2, li2, g2, m2, sg, n, rfl, hU, hX⟩ := PX_CU h2' h2 h3
      have hw := hU.1.1
      obtain ⟨ho, hop⟩ := rs_oper (inn := inn) hw.1 hw.2.1 hU.1.2.1 hU.1.2.2.1 hi
      rw [ho, bndM_some]
      unfold f_Mo_binary_L19
      rcases hop with h0 | ⟨hl, j, j1, j2, hj⟩
      · rw [h0, if_pos (by decide), bndM_some]
        exact Sim_ret (CU_PX hU trivial 0)
      · obtain ⟨er, q, q1, q2, hq2⟩ := rank_str j j1 j2
        rw [hj, if_neg (nI_nle (by omega) (by omega)), f_str, bndM_some, er, hq2, if_pos (nI_lt (by omega) (by omega)), bndM_some]
        exact Sim_ret (CU_PX hU trivial 0)
    · have hB := sm_bin hi (hE2 inn hi) hee j (by omega) j11 (un tk gt co lb ge gp gq a li g m L st mo hR h1 h2 h3) h1 h2 h3
      have hD := Sim_bindC (Q' := PX 1 (lbn lb) (XT (tk, co) a) tk gt co lb ge gp gq a g m L) (k := fun _ s => some (.inr (0, s))) hB (fun _ _ _ _ h => Sim_ret (PX_mono h (fun _ _ _ => trivial)))
      simp only [bnd_as] at hD
      have ej : ∀ s3, xRest E S F (nI L.length) (nI j) (nI e) inn s3 = bnd (f_Pa_binaries E S F s3 (nI L.length) (nI j) (nI e) inn) (fun _ s => some (.inr (0, s))) := fun s3 => xRest_j E S F (nI L.length) (nI e) inn s3 j2 (by omega)
      simp only [ej]
      exact hD
  · intro tk gt co lb ge gp gq a li g m L st mo hR h1 h2 h3
    show Sim (f_Pa_expression E S F st 11 (nI e) 1) _ _
    rw [rd st 1 11 (by decide)]
    have e11 : ∀ s3, xRest E S F (f_Tr_count (sTr st)) 11 (nI e) 1 s3 = some (.inr (0, s3)) := fun s3 => xRest_11 E S F _ (nI e) 1 s3
    simp only [e11]
    exact Sim_bindC (un tk gt co lb ge gp gq a li g m L st mo hR h1 h2 h3) (fun _ _ _ _ h => Sim_ret (PX_mono h (fun _ _ hx => XL_XN hx)))
  · intro tk gt co lb ge gp gq a li g m L st mo hR h1 h2 h3
    show Sim (f_Pa_expression E S F st 12 (nI e) 1) (bndM (f_Mo_deep mo (nI e)) _) _
    rw [x_eq, cs_guard st hee, bnd_some, if_pos (by decide), rs_deep mo hee, bndM_some]
    have e12 : ∀ s3, xRest E S F (f_Tr_count (sTr st)) 12 (nI e) 1 s3 = some (.inr (0, s3)) := fun s3 => xRest_12 E S F _ (nI e) 1 s3
    simp only [e12]
    exact Sim_bindC (sm_memb (hE1 1 (Or.inr rfl)) (hE0 1 (Or.inr rfl)) (hP tk gt co lb ge gp gq a li g m L st mo hR h1 h2 h3) hR h1 h2 h3) (fun _ _ _ _ h => Sim_ret (PX_mono h (fun _ _ _ => trivial)))
