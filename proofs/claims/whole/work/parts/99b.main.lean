/-! all depths -/
section PVH
variable {E : Int32 → Int32 → Int32 → ST → Rz} {S : Int32 → Int32 → ST → Rz} {F : Int32 → Int32 → ST → Rz} {K : Nat → List Int32 → MO → Rm} {e : Nat}
theorem end_expr {inn : Int32} (he : e < 1000) {tk : TK} {lb : LB} {co : CO} {a : Nat} {li : Int32} {L : List Nd} {st : ST} (hc : gC tk lb co a li L st) (hl : a = tkn tk) (hT : tkn tk ≤ 1000) : Ref (f_Pa_expression E S F st (-1) (nI e) inn) (nI a) := by
  obtain ⟨t1, t2, t3, t4, t5, t6⟩ := tk_out hT (show tkn tk ≤ a by omega) (by omega)
  rw [x_eq]
  by_cases hee : e ≤ 100
  · rw [cs_guard st hee, bnd_some, if_neg (by decide)]
    refine Ref_bnd ?_
    have ep : f_Pa_prefixOperator st = -1 := by
      unfold f_Pa_prefixOperator
      rw [gC_tk hc, gC_at hc, t4, t5]
      decide
    have ek : f_Pa_leafKind st = 59 := by
      unfold f_Pa_leafKind
      rw [gC_tk hc, gC_at hc, t1]
      rfl
    unfold xOpd
    rw [ep, if_pos rfl]
    refine Ref_bnd ?_
    unfold xPrim
    rw [cu_sign hc, cu_sign hc, cu_sign hc, cu_word hc, cu_word hc, t4, t5]
    rw [if_pos (by decide), if_pos (by decide), if_pos (by decide), if_pos (by decide), if_pos (by decide)]
    unfold f_Pa_leaf
    rw [ek, if_neg (by decide), if_neg (by decide), if_neg (by decide), if_neg (by decide), if_pos rfl, gC_at hc]
    exact Ref_bnd (Ref_refuse hc _)
  · exact Ref_bnd (Ref_guard hc hee he)
theorem end_stmt (hE : ∀ (tk : TK) (lb : LB) (co : CO) (a : Nat) (li : Int32) (L : List Nd) (st : ST), gC tk lb co a li L st → a = tkn tk → tkn tk ≤ 1000 → Ref (E (-1) (nI (e + 1)) 1 st) (nI a)) (he : e < 1000) (o : Int32) : HEnd (fun st => f_Pa_statement E S F st (nI e) o) := by
  intro tk lb co a li L st hc hl hT hL
  obtain ⟨t1, t2, t3, t4, t5, t6⟩ := tk_out hT (show tkn tk ≤ a by omega) (by omega)
  show Ref (f_Pa_statement E S F st (nI e) o) (nI a)
  unfold f_Pa_statement
  by_cases hee : e ≤ 100
  · rw [cs_guard st hee, bnd_some, gC_tk hc, gC_at hc, cu_sign hc, cu_sign hc, cu_id hc, t4, t5, t6]
    rw [if_neg (by decide), if_neg (by decide), if_neg (by decide), if_neg (by decide), if_neg (by decide), if_neg (by decide), if_neg (by decide), if_neg (by decide), if_neg (by decide), if_neg (by decide), if_neg (by decide), if_neg (by decide), if_neg (by decide)]
    rw [if_pos (by decide), if_pos (by decide), if_pos rfl]
    refine Ref_bnd ?_
    unfold f_Pa_expressionStatement
    rw [cu_word hc, t5, if_pos (by decide), nI_1 e]
    obtain ⟨st1, e1, c1⟩ := cs_open hc (by omega) hT 5 0 (sAt st)
    rw [e1, bnd_some]
    exact Ref_bnd (hE tk lb co a li _ st1 c1 hl hT)
  · exact Ref_bnd (Ref_guard hc hee he)
theorem RefM_deepB {mo : MO} {p d : Int32} {k : Int32 → MO → Rm} (h : RefM (f_Mo_deep mo d) p) : RefM (bndM (f_Mo_deep mo d) k) p := RefM_bnd h
theorem HAl_Kn (m e : Nat) (he : e < 1000) : HAl (Kn (m + 1)) e := by
  refine ⟨fun hee tk gt ge gp gq a li g mm mo hR hq hd hm hs3 hl hk hs => rs_alone (K := Kn m) hR hq hd hm hee hs3 hl hk hs, fun hee gt ge gp gq a li g mo hq => ?_⟩
  show RefM (f_Mo_expression (Kn m) mo (nI e) 1) (nI a)
  unfold f_Mo_expression f_Mo_assignment
  exact RefM_bnd (RefM_bnd (RefM_deep hq hee he))
/-- what is known at a depth -/
def AllD (e : Nat) : Prop :=
  (∀ n m, 102 ≤ n + e → 102 ≤ m + e → HE (lv3 n).1 (Kn m) e) ∧
  (∀ n m, 102 ≤ n + e → 101 ≤ m + e → HSt (fun o st => (lv3 n).2.1 (nI e) o st) (fun o mo => f_Mo_statement (Kn m) mo (nI e) o) e) ∧
  (∀ n m, 102 ≤ n + e → 101 ≤ m + e → HD 1 2 (Pw 11) XL (fun st => (lv3 n).2.2 24 (nI e) st) (fun mo => f_Mo_declaration (Kn m) mo (nI e)) e) ∧
  (∀ n, 102 ≤ n + e → ∀ o, HEnd (fun st => (lv3 n).2.1 (nI e) o st))
theorem HD_XT {P : TK → Nat → Prop} {A : ST → Rz} {B : MO → Rm} (h : HD 1 2 P XL A B e) : HD 0 1 P XT A B e := by
  intro tk gt co lb ge gp gq a li g m L st mo hR h1 h2 h3 h4
  refine Sim_mono (h tk gt co lb ge gp gq a li g m L st mo hR h1 h2 (by omega) (by omega)) (fun r st1 n mo1 h => ?_)
  obtain ⟨lb', ge', gp', a', li', g', m', sg, n', y1, y2, y3, y4, y5, y6, y7, y8, y9⟩ := h
  exact ⟨lb', ge', gp', a', li', g', m', sg, n', y1, y2, y3, y4, y5, y6, by omega, by omega, trivial⟩
theorem end_lv (n e : Nat) (h : 102 ≤ n + e) (he : e ≤ 102) (hn : 1 ≤ n) {tk : TK} {lb : LB} {co : CO} {a : Nat} {li : Int32} {L : List Nd} {st : ST} (hc : gC tk lb co a li L st) (hl : a = tkn tk) (hT : tkn tk ≤ 1000) : Ref ((lv3 n).1 (-1) (nI e) 1 st) (nI a) := by
  obtain ⟨n', rfl⟩ : ∃ q, n = q + 1 := ⟨n - 1, by omega⟩
  exact end_expr (E := (lv3 n').1) (S := (lv3 n').2.1) (F := fun form depth st => f_Pa_function (lv3 n').1 (lv3 n').2.1 (lv3 n').2.2 st form depth) (by omega) hc hl hT
theorem all_101 : AllD 101 := by
  refine ⟨?_, ?_, ?_, ?_⟩
  · intro n m hn hm
    obtain ⟨n', rfl⟩ : ∃ q, n = q + 1 := ⟨n - 1, by omega⟩
    obtain ⟨m', rfl⟩ : ∃ q, m = q + 1 := ⟨m - 1, by omega⟩
    refine ⟨fun inn _ => ?_, fun inn _ => ?_, fun inn _ j _ _ => ?_, ?_, ?_⟩
    · exact he_deep (K := Kn 0) (B := fun mo => f_Mo_expression (Kn m') mo (nI 101) inn) (fun mo p h => by unfold f_Mo_expression f_Mo_assignment; exact RefM_bnd (RefM_bnd h))
    · exact he_deep (K := Kn 0) (B := fun mo => f_Mo_assignment (Kn m') mo (nI 101) inn) (fun mo p h => by unfold f_Mo_assignment; exact RefM_bnd h)
    · exact he_deep (K := Kn 0) (B := fun mo => f_Mo_binary (Kn m') mo (nI 101) inn (nI j)) (fun mo p h => by unfold f_Mo_binary; exact RefM_bnd h)
    · exact he_deep (K := Kn 0) (B := fun mo => f_Mo_unary (Kn m') mo (nI 101)) (fun mo p h => by unfold f_Mo_unary; exact RefM_bnd h)
    · exact he_deep (K := Kn 0) (fun mo p h => RefM_bnd h)
  · intro n m hn hm
    obtain ⟨n', rfl⟩ : ∃ q, n = q + 1 := ⟨n - 1, by omega⟩
    intro tk gt co lb ge gp gq a li g mm L st mo o hR hlab ho hlb hL hm
    show Sim (f_Pa_statement (lv3 n').1 (lv3 n').2.1 (lv3 n').2.2 st (nI 101) (nI o)) (f_Mo_statement (Kn m) mo (nI 101) (nI o)) _
    unfold f_Pa_statement f_Mo_statement
    exact Sim_rr (p := nI a) (Ref_bnd (Ref_guard hR.2.1 (by omega) (by omega))) (RefM_bnd (RefM_deep hR.2.2.1 (by omega) (by omega))) (at_ne hR.1.1 hR.1.2.1)
  · intro n m hn hm
    obtain ⟨n', rfl⟩ : ∃ q, n = q + 1 := ⟨n - 1, by omega⟩
    intro tk gt co lb ge gp gq a li g mm L st mo hR hP hlb hL hm
    show Sim (f_Pa_function (lv3 n').1 (lv3 n').2.1 (lv3 n').2.2 st 24 (nI 101)) (f_Mo_declaration (Kn m) mo (nI 101)) _
    unfold f_Pa_function f_Mo_declaration
    exact Sim_rr (p := nI a) (Ref_bnd (Ref_guard hR.2.1 (by omega) (by omega))) (RefM_bnd (RefM_deep hR.2.2.1 (by omega) (by omega))) (at_ne hR.1.1 hR.1.2.1)
  · intro n hn o
    obtain ⟨n', rfl⟩ : ∃ q, n = q + 1 := ⟨n - 1, by omega⟩
    intro tk lb co a li L st hc hl hT hL
    show Ref (f_Pa_statement (lv3 n').1 (lv3 n').2.1 (lv3 n').2.2 st (nI 101) o) (nI a)
    unfold f_Pa_statement
    exact Ref_bnd (Ref_guard hc (by omega) (by omega))
theorem HBl_of {n m : Nat} (hn : 102 ≤ n + (e + 1)) (hm : 101 ≤ m + e) (he : e ≤ 101) (h2 : e ≤ 100 → AllD (e + 1)) : HBl (fun st => f_Pa_block (lv3 n).1 (lv3 n).2.1 (lv3 n).2.2 st (nI e)) (fun mo => f_Mo_block (Kn m) mo (nI e)) e := by
  intro tk gt co lb ge gp gq a li g mm L st mo hR hlab hlb hL hmm
  refine sm_block (fun hee => ?_) (by omega) hR hlab hlb hL hmm
  obtain ⟨m', rfl⟩ : ∃ q, m = q + 1 := ⟨m - 1, by omega⟩
  exact (h2 hee).2.1 n m' hn (by omega)
theorem all_step (hee : e ≤ 100) (h : AllD (e + 1)) (h2 : e + 1 ≤ 100 → AllD (e + 1 + 1)) : AllD e := by
  refine ⟨?_, ?_, ?_, ?_⟩
  · intro n m hn hm
    obtain ⟨n', rfl⟩ : ∃ q, n = q + 1 := ⟨n - 1, by omega⟩
    obtain ⟨m', rfl⟩ : ∃ q, m = q + 1 + 1 := ⟨m - 2, by omega⟩
    have hE := h.1 n' (m' + 1) (by omega) (by omega)
    have hB : HB (lv3 n').2.1 (lv3 n').2.2 (Kn (m' + 1)) (Kn m') e := ⟨h.2.1 n' m' (by omega) (by omega), h.2.2.2 n' (by omega), HD_XT (h.2.2.1 n' m' (by omega) (by omega)), fun _ _ _ => rfl⟩
    have hP : HP (lv3 n').1 (lv3 n').2.1 (fun form depth st => f_Pa_function (lv3 n').1 (lv3 n').2.1 (lv3 n').2.2 st form depth) (Kn (m' + 1)) e := sm_prim hE (sm_fn50 hB hee) (sm_fn48 hB hee) (sm_fn49 hB hee) hee
    exact he_levels hee hE hP
  · intro n m hn hm
    obtain ⟨n', rfl⟩ : ∃ q, n = q + 1 := ⟨n - 1, by omega⟩
    obtain ⟨m', rfl⟩ : ∃ q, m = q + 1 := ⟨m - 1, by omega⟩
    exact sm_statement (K := Kn (m' + 1)) (h.1 n' (m' + 1) (by omega) (by omega)) (h.2.1 n' m' (by omega) (by omega)) (HBl_of (e := e + 1) (n := n') (m := m') (by omega) (by omega) (by omega) h2) (HAl_Kn m' (e + 1) (by omega)) hee
  · intro n m hn hm
    obtain ⟨n', rfl⟩ : ∃ q, n = q + 1 := ⟨n - 1, by omega⟩
    obtain ⟨m', rfl⟩ : ∃ q, m = q + 1 := ⟨m - 1, by omega⟩
    have hB : HB (lv3 n').2.1 (lv3 n').2.2 (Kn (m' + 1)) (Kn m') e := ⟨h.2.1 n' m' (by omega) (by omega), h.2.2.2 n' (by omega), HD_XT (h.2.2.1 n' m' (by omega) (by omega)), fun _ _ _ => rfl⟩
    exact sm_fn24 hB hee
  · intro n hn o
    obtain ⟨n', rfl⟩ : ∃ q, n = q + 1 := ⟨n - 1, by omega⟩
    exact end_stmt (fun tk lb co a li L st hc hl hT => end_lv n' (e + 1) (by omega) (by omega) (by omega) hc hl hT) (by omega) o
theorem all_down : ∀ d, d ≤ 100 → AllD (101 - d) ∧ (1 ≤ d → AllD (102 - d)) := by
  intro d
  induction d with
  | zero => intro _; exact ⟨all_101, fun h => absurd h (by omega)⟩
  | succ d ih =>
    intro hd
    obtain ⟨h1, h2⟩ := ih (by omega)
    have e1 : 102 - (d + 1) = 101 - d := by omega
    have e2 : 101 - d = 101 - (d + 1) + 1 := by omega
    have e3 : 102 - d = 101 - (d + 1) + 1 + 1 := by omega
    refine ⟨?_, fun _ => by rw [e1]; exact h1⟩
    refine all_step (by omega) (by rw [← e2]; exact h1) (fun h => ?_)
    rw [← e3]
    exact h2 (by omega)
/-- the depth of a program's own statements -/
theorem all_1 : AllD 1 := (all_down 100 (by omega)).1
end PVH
