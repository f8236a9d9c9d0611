def f_Pa_group (E : Int32 → Int32 → Int32 → ST → Rz) (S : Int32 → Int32 → ST → Rz) (F : Int32 → Int32 → ST → Rz) (st : ST) (depth : Int32) : Rz := (bnd (E (-1) (depth + 1) 1 (setAt st ((sAt st) + 1))) (fun _ st_1 => (bnd (f_Cu_expect st_1 61) (fun _ st_2 => (some (.inr (0, st_2)))))))
set_option maxRecDepth 100000 in
set_option maxHeartbeats 4000000 in
theorem m_Pa_group (l : Launch) (hlt : l.stackTraces = false) (dC : Nat → ClassId) (dI : Nat → Nat → Nat) (cI cZ : ClassId) (sa rk hp h a1 a2 a3 a4 ht hq n1 n2 : Nat) (fr0 lo0 : Nat) (E : Int32 → Int32 → Int32 → ST → Rz) (S : Int32 → Int32 → ST → Rz) (F : Int32 → Int32 → ST → Rz) (hRE : ∀ (hc : Nat) (ad : AD) (st : ST), okSt st → ∀ (sz : Nat) (level depth inn : Int32), E level depth inn st ≠ none → cPv l y_Pa_expression c_Pa_expression 6 fr0 lo0 (dC, dI) cI cZ sa rk hp hc h a1 a2 a3 a4 ht hq n1 n2 ad st sz [.ref hp, .int level, .int depth, .int inn] (E level depth inn st)) (hRS : ∀ (hc : Nat) (ad : AD) (st : ST), okSt st → ∀ (sz : Nat) (depth first : Int32), S depth first st ≠ none → cPv l y_Pa_statement c_Pa_statement 4 fr0 lo0 (dC, dI) cI cZ sa rk hp hc h a1 a2 a3 a4 ht hq n1 n2 ad st sz [.ref hp, .int depth, .int first] (S depth first st)) (hRF : ∀ (hc : Nat) (ad : AD) (st : ST), okSt st → ∀ (sz : Nat) (form depth : Int32), F form depth st ≠ none → cPv l y_Pa_function c_Pa_function 10 fr0 lo0 (dC, dI) cI cZ sa rk hp hc h a1 a2 a3 a4 ht hq n1 n2 ad st sz [.ref hp, .int form, .int depth] (F form depth st)) (hc : Nat) (ad : AD) (st : ST) (hst : okSt st) (sz : Nat) (depth : Int32) (hg : f_Pa_group E S F st depth ≠ none) : cPv l y_Pa_group c_Pa_group 2 (fr0 + 8) (lo0 + 124) (dC, dI) cI cZ sa rk hp hc h a1 a2 a3 a4 ht hq n1 n2 ad st sz [.ref hp, .int depth] (f_Pa_group E S F st depth) := by
  refine vx_ofW (cc := c_Pa_group) (maxL := 2) (ret := none) (by decide) rfl ?_
  intro p e s m args below meth c s₁ B hml hnt hv
  obtain ⟨rfl, hsz, hP, hK, hD0, hC, hZ⟩ := hv
  have hx := B.exec
  have hb := B.bytes
  have hr := B.returns
  have hts0 := atoms_spec (ws := wy y_Pa_group c_Pa_group 2 none) B.pre
  have hts := htsL hts0
  have hown : s.vm.findClass R_Pa = some m.cls := findClass_of_methodNamed B.named
  have hlocks := B.notSynchronized
  subst hsz
  have hD := hD0.self (sz := s.heap.size)
  generalize hAe : va_A (wQ cI cZ hp hc h a1 a2 a3 a4 ht hq n1 n2 (ad, st)) s.heap.size = A at hD hZ ⊢
  have hA : ∀ q : Nat, s.heap.size ≤ q → A q := fun q h => by rw [← hAe]; exact Or.inr h
  have hS : va_S A s.heap s.heap [] := va_S.rf
  have hcl : 0 + bC st ≤ bC st := Nat.le_of_eq (Nat.zero_add _)
  have hsl : 0 + bS st ≤ bS st := Nat.le_of_eq (Nat.zero_add _)
  have hl := lv_entry ([.ref hp, .int depth]) (n := 2) (Nat.le_of_ble_eq_true rfl)
  rw [lg_entry_eq]
  generalize (lg_sl ([.ref hp, .int depth]) ++ List.replicate (2 - (lg_sl ([.ref hp, .int depth])).length) Slot.unset).toArray = ls at hl ⊢
  have hl : lv_has ls 2 [(0, .ref hp), (1, .int depth)] := hl
  refine lv_aload_n hx hb d_Pa_group_0 rfl (lv_at hl 0 rfl) ?_
  refine lv_dup hx hb d_Pa_group_1 rfl ?_
  refine va_get (D := (dC, dI)) (ci := 2) (v := .int (sAt st)) (C := R_Pa) (T := T_Pa) (N := 7) hx hb hts u_Pa hown hK hP 0 rfl rfl 4 (by decide) (hts _ L_215) (fun x9 h9 => u_same (hts _ L_216) x9 h9) rfl d_Pa_group_2 ?_
  refine lv_iconst (v := 1) hx hb d_Pa_group_5 (by decide) ?_
  refine lv_iadd hx hb d_Pa_group_6 ?_
  refine va_put (D := (dC, dI)) (ci := 2) (v := .int ((sAt st) + 1)) (ty := .int) (C := R_Pa) (T := T_Pa) (N := 7) hx hb hts u_Pa ty_Pa tk_Pa nm_Pa hown hK hP hD hS 0 rfl rfl 4 (by decide) (hts _ L_215) (fun x9 h9 => u_same (hts _ L_216) x9 h9) rfl (by decide +kernel) rfl rfl (Nat.le_of_ble_eq_true rfl) d_Pa_group_7 (fun H locs hP hD hS => ?_)
  have hP : va_P (dC, dI) cls (wQ cI cZ hp hc h a1 a2 a3 a4 ht hq n1 n2 (ad, (setAt st ((sAt st) + 1)))) H := hP
  have hD : va_D A (wQ cI cZ hp hc h a1 a2 a3 a4 ht hq n1 n2 (ad, (setAt st ((sAt st) + 1)))) := hD
  refine lv_aload_n hx hb d_Pa_group_10 rfl (lv_at hl 0 rfl) ?_
  refine lv_iconst (v := (-1)) hx hb d_Pa_group_11 (by decide) ?_
  refine lv_iload_n hx hb d_Pa_group_12 rfl (lv_at hl 1 rfl) ?_
  refine lv_iconst (v := 1) hx hb d_Pa_group_13 (by decide) ?_
  refine lv_iadd hx hb d_Pa_group_14 ?_
  refine lv_iconst (v := 1) hx hb d_Pa_group_15 (by decide) ?_
  refine mx_Vv (As := [.int (-1), .int (depth + 1), .int 1]) (rest := []) ⟨hx, hb, hml, hown, hts0⟩ (hRE hc ad (setAt st ((sAt st) + 1)) (show okSt (setAt st ((sAt st) + 1)) from ⟨hst.1, hst.2.1, hst.2.2.1, hst.2.2.2⟩) _ (-1) (depth + 1) 1 (fun z => hg (by unfold f_Pa_group; rw [bnd_n z]))) hP hD hK hS hA hC hZ hnt hlocks L_569 L_571 L_12 L_87 L_572 k_Pa_expression ⟨(by show _ ≤ fr0 + 8; omega), (by show _ ≤ lo0 + 124; omega)⟩ rfl rfl hl.1 (Nat.le_of_ble_eq_true rfl) d_Pa_group_16 rfl (fun q z => by unfold f_Pa_group; rw [bnd_l z]) hcl hsl (fun ad_1 st_1 H locs w_1 ok_1 e1_1 e2_1 hP hD hS => ?_)
  have hcl := cl_next hcl e1_1
  have hsl := cl_next hsl e2_1
  refine lv_aload_n hx hb d_Pa_group_19 rfl (lv_at hl 0 rfl) ?_
  refine lv_bipush (v := 61) hx hb d_Pa_group_20 (by decide) ?_
  refine mx_Uv (xm := ⟨"SyntaxTree$Parser", "expect", "(I)V"⟩) (owner := R_Cu) (As := [.int 61]) (rest := []) ⟨hx, hb, hml, hown, hts0⟩ (m_Cu_expect l hlt dC dI cI cZ sa rk hp hc h a1 a2 a3 a4 ht hq n1 n2 ad_1 st_1 ok_1 _ 61 (fun z => hg (by unfold f_Pa_group; rw [bnd_r w_1, bnd_n z]))) hP hD hK hS hA hC hZ hnt hlocks L_510 L_511 L_513 L_514 L_86 L_515 rfl k_Cu_expect ⟨(by show _ ≤ fr0 + 8; omega), (by show _ ≤ lo0 + 124; omega)⟩ rfl rfl hl.1 (Nat.le_of_ble_eq_true rfl) d_Pa_group_22 rfl (fun q z => by unfold f_Pa_group; rw [bnd_r w_1, bnd_l z]) hcl hsl (fun ad_2 st_2 H locs w_2 ok_2 e1_2 e2_2 hP hD hS => ?_)
  have hcl := cl_next hcl e1_2
  have hsl := cl_next hsl e2_2
  exact mx_vret (stF := st_2) hx hb hr hlocks hK hP hD hS hcl hsl (by unfold f_Pa_group; rw [bnd_r w_1, bnd_r w_2]) ok_2 d_Pa_group_25
def f_Pa_prefix (E : Int32 → Int32 → Int32 → ST → Rz) (S : Int32 → Int32 → ST → Rz) (F : Int32 → Int32 → ST → Rz) (st : ST) (operator : Int32) (depth : Int32) : Rz := (bnd (p_open st 43 operator (sAt st)) (fun r_1 st_1 => (bnd (E 11 (depth + 1) 1 (setAt st_1 ((sAt st_1) + 1))) (fun _ st_2 => (bnd (p_close st_2 r_1) (fun _ st_3 => (if operator = 3 then (if operator = 0 then (if (coS st_3) = 0 then (if (f_Pa_assignable st_3 (r_1 + 1)) = 0 then (bnd (f_Cu_refuse st_3 (sAt st)) (fun _ st_10 => (some (.inr (0, st_10))))) else (some (.inr (0, st_3)))) else (if (f_Pa_assignable st_3 (r_1 + 1)) = 0 then (bnd (f_Cu_refuse st_3 (sAt st)) (fun _ st_12 => (some (.inr (0, st_12))))) else (if (f_Tr_kind (sTr st_3) (r_1 + 1)) = 28 then (bnd (f_Cu_refuse st_3 (sAt st)) (fun _ st_14 => (some (.inr (0, st_14))))) else (some (.inr (0, st_3)))))) else (if (f_Pa_assignable st_3 (r_1 + 1)) = 0 then (bnd (f_Cu_refuse st_3 (sAt st)) (fun _ st_7 => (some (.inr (0, st_7))))) else (some (.inr (0, st_3))))) else (if operator = 4 then (if operator = 0 then (if (coS st_3) = 0 then (if (f_Pa_assignable st_3 (r_1 + 1)) = 0 then (bnd (f_Cu_refuse st_3 (sAt st)) (fun _ st_25 => (some (.inr (0, st_25))))) else (some (.inr (0, st_3)))) else (if (f_Pa_assignable st_3 (r_1 + 1)) = 0 then (bnd (f_Cu_refuse st_3 (sAt st)) (fun _ st_27 => (some (.inr (0, st_27))))) else (if (f_Tr_kind (sTr st_3) (r_1 + 1)) = 28 then (bnd (f_Cu_refuse st_3 (sAt st)) (fun _ st_29 => (some (.inr (0, st_29))))) else (some (.inr (0, st_3)))))) else (if (f_Pa_assignable st_3 (r_1 + 1)) = 0 then (bnd (f_Cu_refuse st_3 (sAt st)) (fun _ st_22 => (some (.inr (0, st_22))))) else (some (.inr (0, st_3))))) else (if operator = 0 then (if (coS st_3) = 0 then (some (.inr (0, st_3))) else (if (f_Tr_kind (sTr st_3) (r_1 + 1)) = 28 then (bnd (f_Cu_refuse st_3 (sAt st)) (fun _ st_19 => (some (.inr (0, st_19))))) else (some (.inr (0, st_3))))) else (some (.inr (0, st_3))))))))))))
set_option maxRecDepth 100000 in
set_option maxHeartbeats 4000000 in
theorem m_Pa_prefix (l : Launch) (hlt : l.stackTraces = false) (dC : Nat → ClassId) (dI : Nat → Nat → Nat) (cI cZ : ClassId) (sa rk hp h a1 a2 a3 a4 ht hq n1 n2 : Nat) (fr0 lo0 : Nat) (E : Int32 → Int32 → Int32 → ST → Rz) (S : Int32 → Int32 → ST → Rz) (F : Int32 → Int32 → ST → Rz) (hRE : ∀ (hc : Nat) (ad : AD) (st : ST), okSt st → ∀ (sz : Nat) (level depth inn : Int32), E level depth inn st ≠ none → cPv l y_Pa_expression c_Pa_expression 6 fr0 lo0 (dC, dI) cI cZ sa rk hp hc h a1 a2 a3 a4 ht hq n1 n2 ad st sz [.ref hp, .int level, .int depth, .int inn] (E level depth inn st)) (hRS : ∀ (hc : Nat) (ad : AD) (st : ST), okSt st → ∀ (sz : Nat) (depth first : Int32), S depth first st ≠ none → cPv l y_Pa_statement c_Pa_statement 4 fr0 lo0 (dC, dI) cI cZ sa rk hp hc h a1 a2 a3 a4 ht hq n1 n2 ad st sz [.ref hp, .int depth, .int first] (S depth first st)) (hRF : ∀ (hc : Nat) (ad : AD) (st : ST), okSt st → ∀ (sz : Nat) (form depth : Int32), F form depth st ≠ none → cPv l y_Pa_function c_Pa_function 10 fr0 lo0 (dC, dI) cI cZ sa rk hp hc h a1 a2 a3 a4 ht hq n1 n2 ad st sz [.ref hp, .int form, .int depth] (F form depth st)) (hc : Nat) (ad : AD) (st : ST) (hst : okSt st) (sz : Nat) (operator : Int32) (depth : Int32) (hg : f_Pa_prefix E S F st operator depth ≠ none) : cPv l y_Pa_prefix c_Pa_prefix 7 (fr0 + 7) (lo0 + 323) (dC, dI) cI cZ sa rk hp hc h a1 a2 a3 a4 ht hq n1 n2 ad st sz [.ref hp, .int operator, .int depth] (f_Pa_prefix E S F st operator depth) := by
  refine vx_ofW (cc := c_Pa_prefix) (maxL := 7) (ret := none) (by decide) rfl ?_
  intro p e s m args below meth c s₁ B hml hnt hv
  obtain ⟨rfl, hsz, hP, hK, hD0, hC, hZ⟩ := hv
  have hx := B.exec
  have hb := B.bytes
  have hr := B.returns
  have hts0 := atoms_spec (ws := wy y_Pa_prefix c_Pa_prefix 7 none) B.pre
  have hts := htsL hts0
  have hown : s.vm.findClass R_Pa = some m.cls := findClass_of_methodNamed B.named
  have hlocks := B.notSynchronized
  subst hsz
  have hD := hD0.self (sz := s.heap.size)
  generalize hAe : va_A (wQ cI cZ hp hc h a1 a2 a3 a4 ht hq n1 n2 (ad, st)) s.heap.size = A at hD hZ ⊢
  have hA : ∀ q : Nat, s.heap.size ≤ q → A q := fun q h => by rw [← hAe]; exact Or.inr h
  have hS : va_S A s.heap s.heap [] := va_S.rf
  have hcl : 0 + bC st ≤ bC st := Nat.le_of_eq (Nat.zero_add _)
  have hsl : 0 + bS st ≤ bS st := Nat.le_of_eq (Nat.zero_add _)
  have hl := lv_entry ([.ref hp, .int operator, .int depth]) (n := 7) (Nat.le_of_ble_eq_true rfl)
  rw [lg_entry_eq]
  generalize (lg_sl ([.ref hp, .int operator, .int depth]) ++ List.replicate (7 - (lg_sl ([.ref hp, .int operator, .int depth])).length) Slot.unset).toArray = ls at hl ⊢
  have hl : lv_has ls 7 [(0, .ref hp), (1, .int operator), (2, .int depth)] := hl
  refine lv_aload_n hx hb d_Pa_prefix_0 rfl (lv_at hl 0 rfl) ?_
  refine va_get (D := (dC, dI)) (ci := 2) (v := .int (sAt st)) (C := R_Pa) (T := T_Pa) (N := 7) hx hb hts u_Pa hown hK hP 0 rfl rfl 4 (by decide) (hts _ L_215) (fun x9 h9 => u_same (hts _ L_216) x9 h9) rfl d_Pa_prefix_1 ?_
  refine lv_istore_n (lv' := [(3, .int (sAt st)), (0, .ref hp), (1, .int operator), (2, .int depth)]) hx hb d_Pa_prefix_4 rfl hl (by decide) rfl (fun ls hl => ?_)
  refine lv_aload_n hx hb d_Pa_prefix_5 rfl (lv_at hl 1 rfl) ?_
  refine va_get (D := (dC, dI)) (ci := 2) (v := .ref ht) (C := R_Pa) (T := T_Pa) (N := 7) hx hb hts u_Pa hown hK hP 0 rfl rfl 0 (by decide) (hts _ L_208) (fun _ h9 => h9) rfl d_Pa_prefix_6 ?_
  refine lv_bipush (v := 43) hx hb d_Pa_prefix_9 (by decide) ?_
  refine lv_iload_n hx hb d_Pa_prefix_11 rfl (lv_at hl 2 rfl) ?_
  refine lv_iload_n hx hb d_Pa_prefix_12 rfl (lv_at hl 0 rfl) ?_
  have hn_1 : (p_open st 43 operator (sAt st)) ≠ none := (fun z => hg (by unfold f_Pa_prefix; rw [bnd_n z]))
  refine pT_i (g := (p_open st 43 operator (sAt st))) (st := st) (As := [.int 43, .int operator, .int (sAt st)]) (rest := []) ⟨hx, hb, hml, hown, hts0⟩ (m_Tr_open l dC dI cI cZ sa rk ht ad (sTr st) hst.2.1 _ 43 operator (sAt st) (p_open_c hn_1).1 (p_open_c hn_1).2.1) hP hD hK hS hA hC hZ L_416 L_417 L_418 L_85 L_419 ⟨rfl, k_Tr_open⟩ ⟨(by show _ ≤ fr0 + 7; omega), (by show _ ≤ lo0 + 323; omega)⟩ rfl rfl hl.1 (Nat.le_of_ble_eq_true rfl) d_Pa_prefix_13 rfl hcl hsl (p_open_c hn_1).2.2.1 (p_open_c hn_1).2.2.2 hst (t_open_ok 43 operator (sAt st) hst.2.1 (p_open_c hn_1).1 (p_open_c hn_1).2.1) (p_open_e hn_1) (fun r_1 ad_1 st_1 H locs w_1 ok_1 e1_1 e2_1 hP hD hS => ?_)
  have hcl := cl_next hcl e1_1
  have hsl := cl_next hsl e2_1
  refine lv_istore (lv' := [(4, .int r_1), (3, .int (sAt st)), (0, .ref hp), (1, .int operator), (2, .int depth)]) hx hb d_Pa_prefix_16 hl (by decide) rfl (fun ls hl => ?_)
  refine lv_aload_n hx hb d_Pa_prefix_18 rfl (lv_at hl 2 rfl) ?_
  refine lv_dup hx hb d_Pa_prefix_19 rfl ?_
  refine va_get (D := (dC, dI)) (ci := 2) (v := .int (sAt st_1)) (C := R_Pa) (T := T_Pa) (N := 7) hx hb hts u_Pa hown hK hP 0 rfl rfl 4 (by decide) (hts _ L_215) (fun x9 h9 => u_same (hts _ L_216) x9 h9) rfl d_Pa_prefix_20 ?_
  refine lv_iconst (v := 1) hx hb d_Pa_prefix_23 (by decide) ?_
  refine lv_iadd hx hb d_Pa_prefix_24 ?_
  refine va_put (D := (dC, dI)) (ci := 2) (v := .int ((sAt st_1) + 1)) (ty := .int) (C := R_Pa) (T := T_Pa) (N := 7) hx hb hts u_Pa ty_Pa tk_Pa nm_Pa hown hK hP hD hS 0 rfl rfl 4 (by decide) (hts _ L_215) (fun x9 h9 => u_same (hts _ L_216) x9 h9) rfl (by decide +kernel) rfl rfl (Nat.le_of_ble_eq_true rfl) d_Pa_prefix_25 (fun H locs hP hD hS => ?_)
  have hP : va_P (dC, dI) cls (wQ cI cZ hp hc h a1 a2 a3 a4 ht hq n1 n2 (ad_1, (setAt st_1 ((sAt st_1) + 1)))) H := hP
  have hD : va_D A (wQ cI cZ hp hc h a1 a2 a3 a4 ht hq n1 n2 (ad_1, (setAt st_1 ((sAt st_1) + 1)))) := hD
  refine lv_aload_n hx hb d_Pa_prefix_28 rfl (lv_at hl 2 rfl) ?_
  refine lv_bipush (v := 11) hx hb d_Pa_prefix_29 (by decide) ?_
  refine lv_iload_n hx hb d_Pa_prefix_31 rfl (lv_at hl 4 rfl) ?_
  refine lv_iconst (v := 1) hx hb d_Pa_prefix_32 (by decide) ?_
  refine lv_iadd hx hb d_Pa_prefix_33 ?_
  refine lv_iconst (v := 1) hx hb d_Pa_prefix_34 (by decide) ?_
  refine mx_Vv (As := [.int 11, .int (depth + 1), .int 1]) (rest := []) ⟨hx, hb, hml, hown, hts0⟩ (hRE hc ad_1 (setAt st_1 ((sAt st_1) + 1)) (show okSt (setAt st_1 ((sAt st_1) + 1)) from ⟨ok_1.1, ok_1.2.1, ok_1.2.2.1, ok_1.2.2.2⟩) _ 11 (depth + 1) 1 (fun z => hg (by unfold f_Pa_prefix; rw [bnd_r w_1, bnd_n z]))) hP hD hK hS hA hC hZ hnt hlocks L_569 L_571 L_12 L_87 L_572 k_Pa_expression ⟨(by show _ ≤ fr0 + 7; omega), (by show _ ≤ lo0 + 323; omega)⟩ rfl rfl hl.1 (Nat.le_of_ble_eq_true rfl) d_Pa_prefix_35 rfl (fun q z => by unfold f_Pa_prefix; rw [bnd_r w_1, bnd_l z]) hcl hsl (fun ad_2 st_2 H locs w_2 ok_2 e1_2 e2_2 hP hD hS => ?_)
  have hcl := cl_next hcl e1_2
  have hsl := cl_next hsl e2_2
  refine lv_aload_n hx hb d_Pa_prefix_38 rfl (lv_at hl 2 rfl) ?_
  refine va_get (D := (dC, dI)) (ci := 2) (v := .ref ht) (C := R_Pa) (T := T_Pa) (N := 7) hx hb hts u_Pa hown hK hP 0 rfl rfl 0 (by decide) (hts _ L_208) (fun _ h9 => h9) rfl d_Pa_prefix_39 ?_
  refine lv_iload hx hb d_Pa_prefix_42 (lv_at hl 0 rfl) ?_
  refine pT_v (g := (p_close st_2 r_1)) (st := st_2) (As := [.int r_1]) (rest := []) ⟨hx, hb, hml, hown, hts0⟩ (m_Tr_close l dC dI cI cZ sa rk ht ad_2 (sTr st_2) ok_2.2.1 _ r_1) hP hD hK hS hA hC hZ L_582 L_583 L_584 L_85 L_585 ⟨rfl, k_Tr_close⟩ ⟨(by show _ ≤ fr0 + 7; omega), (by show _ ≤ lo0 + 323; omega)⟩ rfl rfl hl.1 (Nat.le_of_ble_eq_true rfl) d_Pa_prefix_44 rfl hcl hsl (Nat.zero_le _) (Nat.zero_le _) ok_2 (t_close_ok r_1 ok_2.2.1) rfl (fun ad_3 st_3 H locs w_3 ok_3 e1_3 e2_3 hP hD hS => ?_)
  have hcl := cl_next hcl e1_3
  have hsl := cl_next hsl e2_3
  refine lv_iload_n hx hb d_Pa_prefix_47 rfl (lv_at hl 3 rfl) ?_
  refine lv_iconst (v := 3) hx hb d_Pa_prefix_48 (by decide) ?_
  refine lv_icmp_eq (tgt := 57) hx hb d_Pa_prefix_49 (by decide) (fun c_4 => ?_) (fun c_4 => ?_)
  · refine lv_iconst (v := 1) hx hb d_Pa_prefix_57 (by decide) ?_
    refine lv_goto (tgt := 62) hx hb d_Pa_prefix_58 (by decide) ?_
    refine lv_istore (lv' := [(5, .int 1), (4, .int r_1), (3, .int (sAt st)), (0, .ref hp), (1, .int operator), (2, .int depth)]) hx hb d_Pa_prefix_62 hl (by decide) rfl (fun ls hl => ?_)
    refine lv_iload_n hx hb d_Pa_prefix_64 rfl (lv_at hl 4 rfl) ?_
    refine lv_if_ne (tgt := 82) hx hb d_Pa_prefix_65 (by decide) (fun c_5 => ?_) (fun c_5 => ?_)
    · refine lv_iconst (v := 0) hx hb d_Pa_prefix_82 (by decide) ?_
      refine lv_istore (lv' := [(6, .int 0), (5, .int 1), (4, .int r_1), (3, .int (sAt st)), (0, .ref hp), (1, .int operator), (2, .int depth)]) hx hb d_Pa_prefix_83 hl (by decide) rfl (fun ls hl => ?_)
      refine lv_iload hx hb d_Pa_prefix_85 (lv_at hl 1 rfl) ?_
      refine lv_if_eq (tgt := 101) hx hb d_Pa_prefix_87 (by decide) (fun q9 => absurd q9 (by decide)) (fun _ => ?_)
      refine lv_aload_n hx hb d_Pa_prefix_90 rfl (lv_at hl 4 rfl) ?_
      refine lv_iload hx hb d_Pa_prefix_91 (lv_at hl 2 rfl) ?_
      refine lv_iconst (v := 1) hx hb d_Pa_prefix_93 (by decide) ?_
      refine lv_iadd hx hb d_Pa_prefix_94 ?_
      refine rd_V (v := (f_Pa_assignable st_3 (r_1 + 1))) (As := [.int (r_1 + 1)]) (rest := []) ⟨hx, hb, hml, hown, hts0⟩ (m_Pa_assignable l dC dI cI cZ hp hc h a1 a2 a3 a4 ht ad_3.1 ad_3.2.1 ad_3.2.2.1 ad_3.2.2.2 hq n1 n2 st_3 ok_3 (r_1 + 1)) hP hK [0, 1, 2, 3, 4, 5, 6, 7, 8, 9, 10, 11, 12, 13, 14] rfl [0, 1] rfl 0 2 rfl rfl L_586 L_588 L_15 L_87 L_589 ⟨rfl, k_Pa_assignable⟩ ⟨(by show _ ≤ fr0 + 7; omega), (by show _ ≤ lo0 + 323; omega)⟩ hl.1 ⟨Nat.le_trans (Nat.le_add_right _ _) hcl, Nat.le_trans (Nat.le_add_right _ _) hsl⟩ (Nat.le_of_ble_eq_true rfl) d_Pa_prefix_95 rfl ?_
      refine lv_if_eq (tgt := 122) hx hb d_Pa_prefix_98 (by decide) (fun c_6 => ?_) (fun c_6 => ?_)
      · refine lv_aload_n hx hb d_Pa_prefix_122 rfl (lv_at hl 4 rfl) ?_
        refine lv_iload_n hx hb d_Pa_prefix_123 rfl (lv_at hl 3 rfl) ?_
        refine mx_Uv (xm := ⟨"SyntaxTree$Parser", "refuse", "(I)V"⟩) (owner := R_Cu) (As := [.int (sAt st)]) (rest := []) ⟨hx, hb, hml, hown, hts0⟩ (m_Cu_refuse l hlt dC dI cI cZ sa rk hp hc h a1 a2 a3 a4 ht hq n1 n2 ad_3 st_3 ok_3 _ (sAt st) (fun z => hg (by unfold f_Pa_prefix; rw [bnd_r w_1, bnd_r w_2, bnd_r w_3, if_pos c_4, if_neg c_5, if_pos c_6, bnd_n z]))) hP hD hK hS hA hC hZ hnt hlocks L_536 L_537 L_539 L_460 L_86 L_463 rfl k_Cu_refuse ⟨(by show _ ≤ fr0 + 7; omega), (by show _ ≤ lo0 + 323; omega)⟩ rfl rfl hl.1 (Nat.le_of_ble_eq_true rfl) d_Pa_prefix_124 rfl (fun q z => by unfold f_Pa_prefix; rw [bnd_r w_1, bnd_r w_2, bnd_r w_3, if_pos c_4, if_neg c_5, if_pos c_6, bnd_l z]) hcl hsl (fun ad_7 st_7 H locs w_7 ok_7 e1_7 e2_7 hP hD hS => ?_)
        have hcl := cl_next hcl e1_7
        have hsl := cl_next hsl e2_7
        exact mx_vret (stF := st_7) hx hb hr hlocks hK hP hD hS hcl hsl (by unfold f_Pa_prefix; rw [bnd_r w_1, bnd_r w_2, bnd_r w_3, if_pos c_4, if_neg c_5, if_pos c_6, bnd_r w_7]) ok_7 d_Pa_prefix_127
      · refine lv_iload hx hb d_Pa_prefix_101 (lv_at hl 0 rfl) ?_
        refine lv_if_eq (tgt := 127) hx hb d_Pa_prefix_103 (by decide) (fun _ => ?_) (fun q9 => absurd q9 (by decide))
        exact mx_vret (stF := st_3) hx hb hr hlocks hK hP hD hS hcl hsl (by unfold f_Pa_prefix; rw [bnd_r w_1, bnd_r w_2, bnd_r w_3, if_pos c_4, if_neg c_5, if_neg c_6]) ok_3 d_Pa_prefix_127
    · refine lv_aload_n hx hb d_Pa_prefix_68 rfl (lv_at hl 3 rfl) ?_
      refine va_get (D := (dC, dI)) (ci := 2) (v := .ref hc) (C := R_Pa) (T := T_Pa) (N := 7) hx hb hts u_Pa hown hK hP 0 rfl rfl 6 (by decide) (hts _ L_221) (fun x9 h9 => u_same (hts _ L_222) x9 h9) rfl d_Pa_prefix_69 ?_
      refine va_get (D := (dC, dI)) (ci := 0) (v := .int (coS st_3)) (C := R_Co) (T := T_Co) (N := 5) hx hb hts u_Co hown hK hP 1 rfl rfl 2 (by decide) (hts _ L_174) (fun _ h9 => h9) rfl d_Pa_prefix_72 ?_
      refine lv_if_eq (tgt := 82) hx hb d_Pa_prefix_75 (by decide) (fun c_8 => ?_) (fun c_8 => ?_)
      · refine lv_iconst (v := 0) hx hb d_Pa_prefix_82 (by decide) ?_
        refine lv_istore (lv' := [(6, .int 0), (5, .int 1), (4, .int r_1), (3, .int (sAt st)), (0, .ref hp), (1, .int operator), (2, .int depth)]) hx hb d_Pa_prefix_83 hl (by decide) rfl (fun ls hl => ?_)
        refine lv_iload hx hb d_Pa_prefix_85 (lv_at hl 1 rfl) ?_
        refine lv_if_eq (tgt := 101) hx hb d_Pa_prefix_87 (by decide) (fun q9 => absurd q9 (by decide)) (fun _ => ?_)
        refine lv_aload_n hx hb d_Pa_prefix_90 rfl (lv_at hl 4 rfl) ?_
        refine lv_iload hx hb d_Pa_prefix_91 (lv_at hl 2 rfl) ?_
        refine lv_iconst (v := 1) hx hb d_Pa_prefix_93 (by decide) ?_
        refine lv_iadd hx hb d_Pa_prefix_94 ?_
        refine rd_V (v := (f_Pa_assignable st_3 (r_1 + 1))) (As := [.int (r_1 + 1)]) (rest := []) ⟨hx, hb, hml, hown, hts0⟩ (m_Pa_assignable l dC dI cI cZ hp hc h a1 a2 a3 a4 ht ad_3.1 ad_3.2.1 ad_3.2.2.1 ad_3.2.2.2 hq n1 n2 st_3 ok_3 (r_1 + 1)) hP hK [0, 1, 2, 3, 4, 5, 6, 7, 8, 9, 10, 11, 12, 13, 14] rfl [0, 1] rfl 0 2 rfl rfl L_586 L_588 L_15 L_87 L_589 ⟨rfl, k_Pa_assignable⟩ ⟨(by show _ ≤ fr0 + 7; omega), (by show _ ≤ lo0 + 323; omega)⟩ hl.1 ⟨Nat.le_trans (Nat.le_add_right _ _) hcl, Nat.le_trans (Nat.le_add_right _ _) hsl⟩ (Nat.le_of_ble_eq_true rfl) d_Pa_prefix_95 rfl ?_
        refine lv_if_eq (tgt := 122) hx hb d_Pa_prefix_98 (by decide) (fun c_9 => ?_) (fun c_9 => ?_)
        · refine lv_aload_n hx hb d_Pa_prefix_122 rfl (lv_at hl 4 rfl) ?_
          refine lv_iload_n hx hb d_Pa_prefix_123 rfl (lv_at hl 3 rfl) ?_
          refine mx_Uv (xm := ⟨"SyntaxTree$Parser", "refuse", "(I)V"⟩) (owner := R_Cu) (As := [.int (sAt st)]) (rest := []) ⟨hx, hb, hml, hown, hts0⟩ (m_Cu_refuse l hlt dC dI cI cZ sa rk hp hc h a1 a2 a3 a4 ht hq n1 n2 ad_3 st_3 ok_3 _ (sAt st) (fun z => hg (by unfold f_Pa_prefix; rw [bnd_r w_1, bnd_r w_2, bnd_r w_3, if_pos c_4, if_pos c_5, if_pos c_8, if_pos c_9, bnd_n z]))) hP hD hK hS hA hC hZ hnt hlocks L_536 L_537 L_539 L_460 L_86 L_463 rfl k_Cu_refuse ⟨(by show _ ≤ fr0 + 7; omega), (by show _ ≤ lo0 + 323; omega)⟩ rfl rfl hl.1 (Nat.le_of_ble_eq_true rfl) d_Pa_prefix_124 rfl (fun q z => by unfold f_Pa_prefix; rw [bnd_r w_1, bnd_r w_2, bnd_r w_3, if_pos c_4, if_pos c_5, if_pos c_8, if_pos c_9, bnd_l z]) hcl hsl (fun ad_10 st_10 H locs w_10 ok_10 e1_10 e2_10 hP hD hS => ?_)
          have hcl := cl_next hcl e1_10
          have hsl := cl_next hsl e2_10
          exact mx_vret (stF := st_10) hx hb hr hlocks hK hP hD hS hcl hsl (by unfold f_Pa_prefix; rw [bnd_r w_1, bnd_r w_2, bnd_r w_3, if_pos c_4, if_pos c_5, if_pos c_8, if_pos c_9, bnd_r w_10]) ok_10 d_Pa_prefix_127
        · refine lv_iload hx hb d_Pa_prefix_101 (lv_at hl 0 rfl) ?_
          refine lv_if_eq (tgt := 127) hx hb d_Pa_prefix_103 (by decide) (fun _ => ?_) (fun q9 => absurd q9 (by decide))
          exact mx_vret (stF := st_3) hx hb hr hlocks hK hP hD hS hcl hsl (by unfold f_Pa_prefix; rw [bnd_r w_1, bnd_r w_2, bnd_r w_3, if_pos c_4, if_pos c_5, if_pos c_8, if_neg c_9]) ok_3 d_Pa_prefix_127
      · refine lv_iconst (v := 1) hx hb d_Pa_prefix_78 (by decide) ?_
        refine lv_goto (tgt := 83) hx hb d_Pa_prefix_79 (by decide) ?_
        refine lv_istore (lv' := [(6, .int 1), (5, .int 1), (4, .int r_1), (3, .int (sAt st)), (0, .ref hp), (1, .int operator), (2, .int depth)]) hx hb d_Pa_prefix_83 hl (by decide) rfl (fun ls hl => ?_)
        refine lv_iload hx hb d_Pa_prefix_85 (lv_at hl 1 rfl) ?_
        refine lv_if_eq (tgt := 101) hx hb d_Pa_prefix_87 (by decide) (fun q9 => absurd q9 (by decide)) (fun _ => ?_)
        refine lv_aload_n hx hb d_Pa_prefix_90 rfl (lv_at hl 4 rfl) ?_
        refine lv_iload hx hb d_Pa_prefix_91 (lv_at hl 2 rfl) ?_
        refine lv_iconst (v := 1) hx hb d_Pa_prefix_93 (by decide) ?_
        refine lv_iadd hx hb d_Pa_prefix_94 ?_
        refine rd_V (v := (f_Pa_assignable st_3 (r_1 + 1))) (As := [.int (r_1 + 1)]) (rest := []) ⟨hx, hb, hml, hown, hts0⟩ (m_Pa_assignable l dC dI cI cZ hp hc h a1 a2 a3 a4 ht ad_3.1 ad_3.2.1 ad_3.2.2.1 ad_3.2.2.2 hq n1 n2 st_3 ok_3 (r_1 + 1)) hP hK [0, 1, 2, 3, 4, 5, 6, 7, 8, 9, 10, 11, 12, 13, 14] rfl [0, 1] rfl 0 2 rfl rfl L_586 L_588 L_15 L_87 L_589 ⟨rfl, k_Pa_assignable⟩ ⟨(by show _ ≤ fr0 + 7; omega), (by show _ ≤ lo0 + 323; omega)⟩ hl.1 ⟨Nat.le_trans (Nat.le_add_right _ _) hcl, Nat.le_trans (Nat.le_add_right _ _) hsl⟩ (Nat.le_of_ble_eq_true rfl) d_Pa_prefix_95 rfl ?_
        refine lv_if_eq (tgt := 122) hx hb d_Pa_prefix_98 (by decide) (fun c_11 => ?_) (fun c_11 => ?_)
        · refine lv_aload_n hx hb d_Pa_prefix_122 rfl (lv_at hl 4 rfl) ?_
          refine lv_iload_n hx hb d_Pa_prefix_123 rfl (lv_at hl 3 rfl) ?_
          refine mx_Uv (xm := ⟨"SyntaxTree$Parser", "refuse", "(I)V"⟩) (owner := R_Cu) (As := [.int (sAt st)]) (rest := []) ⟨hx, hb, hml, hown, hts0⟩ (m_Cu_refuse l hlt dC dI cI cZ sa rk hp hc h a1 a2 a3 a4 ht hq n1 n2 ad_3 st_3 ok_3 _ (sAt st) (fun z => hg (by unfold f_Pa_prefix; rw [bnd_r w_1, bnd_r w_2, bnd_r w_3, if_pos c_4, if_pos c_5, if_neg c_8, if_pos c_11, bnd_n z]))) hP hD hK hS hA hC hZ hnt hlocks L_536 L_537 L_539 L_460 L_86 L_463 rfl k_Cu_refuse ⟨(by show _ ≤ fr0 + 7; omega), (by show _ ≤ lo0 + 323; omega)⟩ rfl rfl hl.1 (Nat.le_of_ble_eq_true rfl) d_Pa_prefix_124 rfl (fun q z => by unfold f_Pa_prefix; rw [bnd_r w_1, bnd_r w_2, bnd_r w_3, if_pos c_4, if_pos c_5, if_neg c_8, if_pos c_11, bnd_l z]) hcl hsl (fun ad_12 st_12 H locs w_12 ok_12 e1_12 e2_12 hP hD hS => ?_)
          have hcl := cl_next hcl e1_12
          have hsl := cl_next hsl e2_12
          exact mx_vret (stF := st_12) hx hb hr hlocks hK hP hD hS hcl hsl (by unfold f_Pa_prefix; rw [bnd_r w_1, bnd_r w_2, bnd_r w_3, if_pos c_4, if_pos c_5, if_neg c_8, if_pos c_11, bnd_r w_12]) ok_12 d_Pa_prefix_127
        · refine lv_iload hx hb d_Pa_prefix_101 (lv_at hl 0 rfl) ?_
          refine lv_if_eq (tgt := 127) hx hb d_Pa_prefix_103 (by decide) (fun q9 => absurd q9 (by decide)) (fun _ => ?_)
          refine lv_aload_n hx hb d_Pa_prefix_106 rfl (lv_at hl 4 rfl) ?_
          refine va_get (D := (dC, dI)) (ci := 2) (v := .ref ht) (C := R_Pa) (T := T_Pa) (N := 7) hx hb hts u_Pa hown hK hP 0 rfl rfl 0 (by decide) (hts _ L_208) (fun _ h9 => h9) rfl d_Pa_prefix_107 ?_
          refine lv_iload hx hb d_Pa_prefix_110 (lv_at hl 2 rfl) ?_
          refine lv_iconst (v := 1) hx hb d_Pa_prefix_112 (by decide) ?_
          refine lv_iadd hx hb d_Pa_prefix_113 ?_
          refine rd_V (v := (f_Tr_kind (sTr st_3) (r_1 + 1))) (As := [.int (r_1 + 1)]) (rest := []) ⟨hx, hb, hml, hown, hts0⟩ (m_Tr_kind l dC dI cI cZ ht ad_3.1 ad_3.2.1 ad_3.2.2.1 ad_3.2.2.2 (sTr st_3) ok_3.2.1 (r_1 + 1)) hP hK [7, 8, 9, 10, 11] rfl [0, 1] rfl 0 4 rfl rfl L_528 L_529 L_530 L_85 L_531 ⟨rfl, k_Tr_kind⟩ ⟨(by show _ ≤ fr0 + 7; omega), (by show _ ≤ lo0 + 323; omega)⟩ hl.1 ⟨Nat.le_trans (Nat.le_add_right _ _) hcl, Nat.le_trans (Nat.le_add_right _ _) hsl⟩ (Nat.le_of_ble_eq_true rfl) d_Pa_prefix_114 rfl ?_
          refine lv_bipush (v := 28) hx hb d_Pa_prefix_117 (by decide) ?_
          refine lv_icmp_ne (tgt := 127) hx hb d_Pa_prefix_119 (by decide) (fun c_13 => ?_) (fun c_13 => ?_)
          · exact mx_vret (stF := st_3) hx hb hr hlocks hK hP hD hS hcl hsl (by unfold f_Pa_prefix; rw [bnd_r w_1, bnd_r w_2, bnd_r w_3, if_pos c_4, if_pos c_5, if_neg c_8, if_neg c_11, if_neg c_13]) ok_3 d_Pa_prefix_127
          · refine lv_aload_n hx hb d_Pa_prefix_122 rfl (lv_at hl 4 rfl) ?_
            refine lv_iload_n hx hb d_Pa_prefix_123 rfl (lv_at hl 3 rfl) ?_
            refine mx_Uv (xm := ⟨"SyntaxTree$Parser", "refuse", "(I)V"⟩) (owner := R_Cu) (As := [.int (sAt st)]) (rest := []) ⟨hx, hb, hml, hown, hts0⟩ (m_Cu_refuse l hlt dC dI cI cZ sa rk hp hc h a1 a2 a3 a4 ht hq n1 n2 ad_3 st_3 ok_3 _ (sAt st) (fun z => hg (by unfold f_Pa_prefix; rw [bnd_r w_1, bnd_r w_2, bnd_r w_3, if_pos c_4, if_pos c_5, if_neg c_8, if_neg c_11, if_pos c_13, bnd_n z]))) hP hD hK hS hA hC hZ hnt hlocks L_536 L_537 L_539 L_460 L_86 L_463 rfl k_Cu_refuse ⟨(by show _ ≤ fr0 + 7; omega), (by show _ ≤ lo0 + 323; omega)⟩ rfl rfl hl.1 (Nat.le_of_ble_eq_true rfl) d_Pa_prefix_124 rfl (fun q z => by unfold f_Pa_prefix; rw [bnd_r w_1, bnd_r w_2, bnd_r w_3, if_pos c_4, if_pos c_5, if_neg c_8, if_neg c_11, if_pos c_13, bnd_l z]) hcl hsl (fun ad_14 st_14 H locs w_14 ok_14 e1_14 e2_14 hP hD hS => ?_)
            have hcl := cl_next hcl e1_14
            have hsl := cl_next hsl e2_14
            exact mx_vret (stF := st_14) hx hb hr hlocks hK hP hD hS hcl hsl (by unfold f_Pa_prefix; rw [bnd_r w_1, bnd_r w_2, bnd_r w_3, if_pos c_4, if_pos c_5, if_neg c_8, if_neg c_11, if_pos c_13, bnd_r w_14]) ok_14 d_Pa_prefix_127
  · refine lv_iload_n hx hb d_Pa_prefix_52 rfl (lv_at hl 3 rfl) ?_
    refine lv_iconst (v := 4) hx hb d_Pa_prefix_53 (by decide) ?_
    refine lv_icmp_ne (tgt := 61) hx hb d_Pa_prefix_54 (by decide) (fun c_15 => ?_) (fun c_15 => ?_)
    · refine lv_iconst (v := 0) hx hb d_Pa_prefix_61 (by decide) ?_
      refine lv_istore (lv' := [(5, .int 0), (4, .int r_1), (3, .int (sAt st)), (0, .ref hp), (1, .int operator), (2, .int depth)]) hx hb d_Pa_prefix_62 hl (by decide) rfl (fun ls hl => ?_)
      refine lv_iload_n hx hb d_Pa_prefix_64 rfl (lv_at hl 4 rfl) ?_
      refine lv_if_ne (tgt := 82) hx hb d_Pa_prefix_65 (by decide) (fun c_16 => ?_) (fun c_16 => ?_)
      · refine lv_iconst (v := 0) hx hb d_Pa_prefix_82 (by decide) ?_
        refine lv_istore (lv' := [(6, .int 0), (5, .int 0), (4, .int r_1), (3, .int (sAt st)), (0, .ref hp), (1, .int operator), (2, .int depth)]) hx hb d_Pa_prefix_83 hl (by decide) rfl (fun ls hl => ?_)
        refine lv_iload hx hb d_Pa_prefix_85 (lv_at hl 1 rfl) ?_
        refine lv_if_eq (tgt := 101) hx hb d_Pa_prefix_87 (by decide) (fun _ => ?_) (fun q9 => absurd q9 (by decide))
        refine lv_iload hx hb d_Pa_prefix_101 (lv_at hl 0 rfl) ?_
        refine lv_if_eq (tgt := 127) hx hb d_Pa_prefix_103 (by decide) (fun _ => ?_) (fun q9 => absurd q9 (by decide))
        exact mx_vret (stF := st_3) hx hb hr hlocks hK hP hD hS hcl hsl (by unfold f_Pa_prefix; rw [bnd_r w_1, bnd_r w_2, bnd_r w_3, if_neg c_4, if_neg c_15, if_neg c_16]) ok_3 d_Pa_prefix_127
      · refine lv_aload_n hx hb d_Pa_prefix_68 rfl (lv_at hl 3 rfl) ?_
        refine va_get (D := (dC, dI)) (ci := 2) (v := .ref hc) (C := R_Pa) (T := T_Pa) (N := 7) hx hb hts u_Pa hown hK hP 0 rfl rfl 6 (by decide) (hts _ L_221) (fun x9 h9 => u_same (hts _ L_222) x9 h9) rfl d_Pa_prefix_69 ?_
        refine va_get (D := (dC, dI)) (ci := 0) (v := .int (coS st_3)) (C := R_Co) (T := T_Co) (N := 5) hx hb hts u_Co hown hK hP 1 rfl rfl 2 (by decide) (hts _ L_174) (fun _ h9 => h9) rfl d_Pa_prefix_72 ?_
        refine lv_if_eq (tgt := 82) hx hb d_Pa_prefix_75 (by decide) (fun c_17 => ?_) (fun c_17 => ?_)
        · refine lv_iconst (v := 0) hx hb d_Pa_prefix_82 (by decide) ?_
          refine lv_istore (lv' := [(6, .int 0), (5, .int 0), (4, .int r_1), (3, .int (sAt st)), (0, .ref hp), (1, .int operator), (2, .int depth)]) hx hb d_Pa_prefix_83 hl (by decide) rfl (fun ls hl => ?_)
          refine lv_iload hx hb d_Pa_prefix_85 (lv_at hl 1 rfl) ?_
          refine lv_if_eq (tgt := 101) hx hb d_Pa_prefix_87 (by decide) (fun _ => ?_) (fun q9 => absurd q9 (by decide))
          refine lv_iload hx hb d_Pa_prefix_101 (lv_at hl 0 rfl) ?_
          refine lv_if_eq (tgt := 127) hx hb d_Pa_prefix_103 (by decide) (fun _ => ?_) (fun q9 => absurd q9 (by decide))
          exact mx_vret (stF := st_3) hx hb hr hlocks hK hP hD hS hcl hsl (by unfold f_Pa_prefix; rw [bnd_r w_1, bnd_r w_2, bnd_r w_3, if_neg c_4, if_neg c_15, if_pos c_16, if_pos c_17]) ok_3 d_Pa_prefix_127
        · refine lv_iconst (v := 1) hx hb d_Pa_prefix_78 (by decide) ?_
          refine lv_goto (tgt := 83) hx hb d_Pa_prefix_79 (by decide) ?_
          refine lv_istore (lv' := [(6, .int 1), (5, .int 0), (4, .int r_1), (3, .int (sAt st)), (0, .ref hp), (1, .int operator), (2, .int depth)]) hx hb d_Pa_prefix_83 hl (by decide) rfl (fun ls hl => ?_)
          refine lv_iload hx hb d_Pa_prefix_85 (lv_at hl 1 rfl) ?_
          refine lv_if_eq (tgt := 101) hx hb d_Pa_prefix_87 (by decide) (fun _ => ?_) (fun q9 => absurd q9 (by decide))
          refine lv_iload hx hb d_Pa_prefix_101 (lv_at hl 0 rfl) ?_
          refine lv_if_eq (tgt := 127) hx hb d_Pa_prefix_103 (by decide) (fun q9 => absurd q9 (by decide)) (fun _ => ?_)
          refine lv_aload_n hx hb d_Pa_prefix_106 rfl (lv_at hl 4 rfl) ?_
          refine va_get (D := (dC, dI)) (ci := 2) (v := .ref ht) (C := R_Pa) (T := T_Pa) (N := 7) hx hb hts u_Pa hown hK hP 0 rfl rfl 0 (by decide) (hts _ L_208) (fun _ h9 => h9) rfl d_Pa_prefix_107 ?_
          refine lv_iload hx hb d_Pa_prefix_110 (lv_at hl 2 rfl) ?_
          refine lv_iconst (v := 1) hx hb d_Pa_prefix_112 (by decide) ?_
          refine lv_iadd hx hb d_Pa_prefix_113 ?_
          refine rd_V (v := (f_Tr_kind (sTr st_3) (r_1 + 1))) (As := [.int (r_1 + 1)]) (rest := []) ⟨hx, hb, hml, hown, hts0⟩ (m_Tr_kind l dC dI cI cZ ht ad_3.1 ad_3.2.1 ad_3.2.2.1 ad_3.2.2.2 (sTr st_3) ok_3.2.1 (r_1 + 1)) hP hK [7, 8, 9, 10, 11] rfl [0, 1] rfl 0 4 rfl rfl L_528 L_529 L_530 L_85 L_531 ⟨rfl, k_Tr_kind⟩ ⟨(by show _ ≤ fr0 + 7; omega), (by show _ ≤ lo0 + 323; omega)⟩ hl.1 ⟨Nat.le_trans (Nat.le_add_right _ _) hcl, Nat.le_trans (Nat.le_add_right _ _) hsl⟩ (Nat.le_of_ble_eq_true rfl) d_Pa_prefix_114 rfl ?_
          refine lv_bipush (v := 28) hx hb d_Pa_prefix_117 (by decide) ?_
          refine lv_icmp_ne (tgt := 127) hx hb d_Pa_prefix_119 (by decide) (fun c_18 => ?_) (fun c_18 => ?_)
          · exact mx_vret (stF := st_3) hx hb hr hlocks hK hP hD hS hcl hsl (by unfold f_Pa_prefix; rw [bnd_r w_1, bnd_r w_2, bnd_r w_3, if_neg c_4, if_neg c_15, if_pos c_16, if_neg c_17, if_neg c_18]) ok_3 d_Pa_prefix_127
          · refine lv_aload_n hx hb d_Pa_prefix_122 rfl (lv_at hl 4 rfl) ?_
            refine lv_iload_n hx hb d_Pa_prefix_123 rfl (lv_at hl 3 rfl) ?_
            refine mx_Uv (xm := ⟨"SyntaxTree$Parser", "refuse", "(I)V"⟩) (owner := R_Cu) (As := [.int (sAt st)]) (rest := []) ⟨hx, hb, hml, hown, hts0⟩ (m_Cu_refuse l hlt dC dI cI cZ sa rk hp hc h a1 a2 a3 a4 ht hq n1 n2 ad_3 st_3 ok_3 _ (sAt st) (fun z => hg (by unfold f_Pa_prefix; rw [bnd_r w_1, bnd_r w_2, bnd_r w_3, if_neg c_4, if_neg c_15, if_pos c_16, if_neg c_17, if_pos c_18, bnd_n z]))) hP hD hK hS hA hC hZ hnt hlocks L_536 L_537 L_539 L_460 L_86 L_463 rfl k_Cu_refuse ⟨(by show _ ≤ fr0 + 7; omega), (by show _ ≤ lo0 + 323; omega)⟩ rfl rfl hl.1 (Nat.le_of_ble_eq_true rfl) d_Pa_prefix_124 rfl (fun q z => by unfold f_Pa_prefix; rw [bnd_r w_1, bnd_r w_2, bnd_r w_3, if_neg c_4, if_neg c_15, if_pos c_16, if_neg c_17, if_pos c_18, bnd_l z]) hcl hsl (fun ad_19 st_19 H locs w_19 ok_19 e1_19 e2_19 hP hD hS => ?_)
            have hcl := cl_next hcl e1_19
            have hsl := cl_next hsl e2_19
            exact mx_vret (stF := st_19) hx hb hr hlocks hK hP hD hS hcl hsl (by unfold f_Pa_prefix; rw [bnd_r w_1, bnd_r w_2, bnd_r w_3, if_neg c_4, if_neg c_15, if_pos c_16, if_neg c_17, if_pos c_18, bnd_r w_19]) ok_19 d_Pa_prefix_127
    · refine lv_iconst (v := 1) hx hb d_Pa_prefix_57 (by decide) ?_
      refine lv_goto (tgt := 62) hx hb d_Pa_prefix_58 (by decide) ?_
      refine lv_istore (lv' := [(5, .int 1), (4, .int r_1), (3, .int (sAt st)), (0, .ref hp), (1, .int operator), (2, .int depth)]) hx hb d_Pa_prefix_62 hl (by decide) rfl (fun ls hl => ?_)
      refine lv_iload_n hx hb d_Pa_prefix_64 rfl (lv_at hl 4 rfl) ?_
      refine lv_if_ne (tgt := 82) hx hb d_Pa_prefix_65 (by decide) (fun c_20 => ?_) (fun c_20 => ?_)
      · refine lv_iconst (v := 0) hx hb d_Pa_prefix_82 (by decide) ?_
        refine lv_istore (lv' := [(6, .int 0), (5, .int 1), (4, .int r_1), (3, .int (sAt st)), (0, .ref hp), (1, .int operator), (2, .int depth)]) hx hb d_Pa_prefix_83 hl (by decide) rfl (fun ls hl => ?_)
        refine lv_iload hx hb d_Pa_prefix_85 (lv_at hl 1 rfl) ?_
        refine lv_if_eq (tgt := 101) hx hb d_Pa_prefix_87 (by decide) (fun q9 => absurd q9 (by decide)) (fun _ => ?_)
        refine lv_aload_n hx hb d_Pa_prefix_90 rfl (lv_at hl 4 rfl) ?_
        refine lv_iload hx hb d_Pa_prefix_91 (lv_at hl 2 rfl) ?_
        refine lv_iconst (v := 1) hx hb d_Pa_prefix_93 (by decide) ?_
        refine lv_iadd hx hb d_Pa_prefix_94 ?_
        refine rd_V (v := (f_Pa_assignable st_3 (r_1 + 1))) (As := [.int (r_1 + 1)]) (rest := []) ⟨hx, hb, hml, hown, hts0⟩ (m_Pa_assignable l dC dI cI cZ hp hc h a1 a2 a3 a4 ht ad_3.1 ad_3.2.1 ad_3.2.2.1 ad_3.2.2.2 hq n1 n2 st_3 ok_3 (r_1 + 1)) hP hK [0, 1, 2, 3, 4, 5, 6, 7, 8, 9, 10, 11, 12, 13, 14] rfl [0, 1] rfl 0 2 rfl rfl L_586 L_588 L_15 L_87 L_589 ⟨rfl, k_Pa_assignable⟩ ⟨(by show _ ≤ fr0 + 7; omega), (by show _ ≤ lo0 + 323; omega)⟩ hl.1 ⟨Nat.le_trans (Nat.le_add_right _ _) hcl, Nat.le_trans (Nat.le_add_right _ _) hsl⟩ (Nat.le_of_ble_eq_true rfl) d_Pa_prefix_95 rfl ?_
        refine lv_if_eq (tgt := 122) hx hb d_Pa_prefix_98 (by decide) (fun c_21 => ?_) (fun c_21 => ?_)
        · refine lv_aload_n hx hb d_Pa_prefix_122 rfl (lv_at hl 4 rfl) ?_
          refine lv_iload_n hx hb d_Pa_prefix_123 rfl (lv_at hl 3 rfl) ?_
          refine mx_Uv (xm := ⟨"SyntaxTree$Parser", "refuse", "(I)V"⟩) (owner := R_Cu) (As := [.int (sAt st)]) (rest := []) ⟨hx, hb, hml, hown, hts0⟩ (m_Cu_refuse l hlt dC dI cI cZ sa rk hp hc h a1 a2 a3 a4 ht hq n1 n2 ad_3 st_3 ok_3 _ (sAt st) (fun z => hg (by unfold f_Pa_prefix; rw [bnd_r w_1, bnd_r w_2, bnd_r w_3, if_neg c_4, if_pos c_15, if_neg c_20, if_pos c_21, bnd_n z]))) hP hD hK hS hA hC hZ hnt hlocks L_536 L_537 L_539 L_460 L_86 L_463 rfl k_Cu_refuse ⟨(by show _ ≤ fr0 + 7; omega), (by show _ ≤ lo0 + 323; omega)⟩ rfl rfl hl.1 (Nat.le_of_ble_eq_true rfl) d_Pa_prefix_124 rfl (fun q z => by unfold f_Pa_prefix; rw [bnd_r w_1, bnd_r w_2, bnd_r w_3, if_neg c_4, if_pos c_15, if_neg c_20, if_pos c_21, bnd_l z]) hcl hsl (fun ad_22 st_22 H locs w_22 ok_22 e1_22 e2_22 hP hD hS => ?_)
          have hcl := cl_next hcl e1_22
          have hsl := cl_next hsl e2_22
          exact mx_vret (stF := st_22) hx hb hr hlocks hK hP hD hS hcl hsl (by unfold f_Pa_prefix; rw [bnd_r w_1, bnd_r w_2, bnd_r w_3, if_neg c_4, if_pos c_15, if_neg c_20, if_pos c_21, bnd_r w_22]) ok_22 d_Pa_prefix_127
        · refine lv_iload hx hb d_Pa_prefix_101 (lv_at hl 0 rfl) ?_
          refine lv_if_eq (tgt := 127) hx hb d_Pa_prefix_103 (by decide) (fun _ => ?_) (fun q9 => absurd q9 (by decide))
          exact mx_vret (stF := st_3) hx hb hr hlocks hK hP hD hS hcl hsl (by unfold f_Pa_prefix; rw [bnd_r w_1, bnd_r w_2, bnd_r w_3, if_neg c_4, if_pos c_15, if_neg c_20, if_neg c_21]) ok_3 d_Pa_prefix_127
      · refine lv_aload_n hx hb d_Pa_prefix_68 rfl (lv_at hl 3 rfl) ?_
        refine va_get (D := (dC, dI)) (ci := 2) (v := .ref hc) (C := R_Pa) (T := T_Pa) (N := 7) hx hb hts u_Pa hown hK hP 0 rfl rfl 6 (by decide) (hts _ L_221) (fun x9 h9 => u_same (hts _ L_222) x9 h9) rfl d_Pa_prefix_69 ?_
        refine va_get (D := (dC, dI)) (ci := 0) (v := .int (coS st_3)) (C := R_Co) (T := T_Co) (N := 5) hx hb hts u_Co hown hK hP 1 rfl rfl 2 (by decide) (hts _ L_174) (fun _ h9 => h9) rfl d_Pa_prefix_72 ?_
        refine lv_if_eq (tgt := 82) hx hb d_Pa_prefix_75 (by decide) (fun c_23 => ?_) (fun c_23 => ?_)
        · refine lv_iconst (v := 0) hx hb d_Pa_prefix_82 (by decide) ?_
          refine lv_istore (lv' := [(6, .int 0), (5, .int 1), (4, .int r_1), (3, .int (sAt st)), (0, .ref hp), (1, .int operator), (2, .int depth)]) hx hb d_Pa_prefix_83 hl (by decide) rfl (fun ls hl => ?_)
          refine lv_iload hx hb d_Pa_prefix_85 (lv_at hl 1 rfl) ?_
          refine lv_if_eq (tgt := 101) hx hb d_Pa_prefix_87 (by decide) (fun q9 => absurd q9 (by decide)) (fun _ => ?_)
          refine lv_aload_n hx hb d_Pa_prefix_90 rfl (lv_at hl 4 rfl) ?_
          refine lv_iload hx hb d_Pa_prefix_91 (lv_at hl 2 rfl) ?_
          refine lv_iconst (v := 1) hx hb d_Pa_prefix_93 (by decide) ?_
          refine lv_iadd hx hb d_Pa_prefix_94 ?_
          refine rd_V (v := (f_Pa_assignable st_3 (r_1 + 1))) (As := [.int (r_1 + 1)]) (rest := []) ⟨hx, hb, hml, hown, hts0⟩ (m_Pa_assignable l dC dI cI cZ hp hc h a1 a2 a3 a4 ht ad_3.1 ad_3.2.1 ad_3.2.2.1 ad_3.2.2.2 hq n1 n2 st_3 ok_3 (r_1 + 1)) hP hK [0, 1, 2, 3, 4, 5, 6, 7, 8, 9, 10, 11, 12, 13, 14] rfl [0, 1] rfl 0 2 rfl rfl L_586 L_588 L_15 L_87 L_589 ⟨rfl, k_Pa_assignable⟩ ⟨(by show _ ≤ fr0 + 7; omega), (by show _ ≤ lo0 + 323; omega)⟩ hl.1 ⟨Nat.le_trans (Nat.le_add_right _ _) hcl, Nat.le_trans (Nat.le_add_right _ _) hsl⟩ (Nat.le_of_ble_eq_true rfl) d_Pa_prefix_95 rfl ?_
          refine lv_if_eq (tgt := 122) hx hb d_Pa_prefix_98 (by decide) (fun c_24 => ?_) (fun c_24 => ?_)
          · refine lv_aload_n hx hb d_Pa_prefix_122 rfl (lv_at hl 4 rfl) ?_
            refine lv_iload_n hx hb d_Pa_prefix_123 rfl (lv_at hl 3 rfl) ?_
            refine mx_Uv (xm := ⟨"SyntaxTree$Parser", "refuse", "(I)V"⟩) (owner := R_Cu) (As := [.int (sAt st)]) (rest := []) ⟨hx, hb, hml, hown, hts0⟩ (m_Cu_refuse l hlt dC dI cI cZ sa rk hp hc h a1 a2 a3 a4 ht hq n1 n2 ad_3 st_3 ok_3 _ (sAt st) (fun z => hg (by unfold f_Pa_prefix; rw [bnd_r w_1, bnd_r w_2, bnd_r w_3, if_neg c_4, if_pos c_15, if_pos c_20, if_pos c_23, if_pos c_24, bnd_n z]))) hP hD hK hS hA hC hZ hnt hlocks L_536 L_537 L_539 L_460 L_86 L_463 rfl k_Cu_refuse ⟨(by show _ ≤ fr0 + 7; omega), (by show _ ≤ lo0 + 323; omega)⟩ rfl rfl hl.1 (Nat.le_of_ble_eq_true rfl) d_Pa_prefix_124 rfl (fun q z => by unfold f_Pa_prefix; rw [bnd_r w_1, bnd_r w_2, bnd_r w_3, if_neg c_4, if_pos c_15, if_pos c_20, if_pos c_23, if_pos c_24, bnd_l z]) hcl hsl (fun ad_25 st_25 H locs w_25 ok_25 e1_25 e2_25 hP hD hS => ?_)
            have hcl := cl_next hcl e1_25
            have hsl := cl_next hsl e2_25
            exact mx_vret (stF := st_25) hx hb hr hlocks hK hP hD hS hcl hsl (by unfold f_Pa_prefix; rw [bnd_r w_1, bnd_r w_2, bnd_r w_3, if_neg c_4, if_pos c_15, if_pos c_20, if_pos c_23, if_pos c_24, bnd_r w_25]) ok_25 d_Pa_prefix_127
          · refine lv_iload hx hb d_Pa_prefix_101 (lv_at hl 0 rfl) ?_
            refine lv_if_eq (tgt := 127) hx hb d_Pa_prefix_103 (by decide) (fun _ => ?_) (fun q9 => absurd q9 (by decide))
            exact mx_vret (stF := st_3) hx hb hr hlocks hK hP hD hS hcl hsl (by unfold f_Pa_prefix; rw [bnd_r w_1, bnd_r w_2, bnd_r w_3, if_neg c_4, if_pos c_15, if_pos c_20, if_pos c_23, if_neg c_24]) ok_3 d_Pa_prefix_127
        · refine lv_iconst (v := 1) hx hb d_Pa_prefix_78 (by decide) ?_
          refine lv_goto (tgt := 83) hx hb d_Pa_prefix_79 (by decide) ?_
          refine lv_istore (lv' := [(6, .int 1), (5, .int 1), (4, .int r_1), (3, .int (sAt st)), (0, .ref hp), (1, .int operator), (2, .int depth)]) hx hb d_Pa_prefix_83 hl (by decide) rfl (fun ls hl => ?_)
          refine lv_iload hx hb d_Pa_prefix_85 (lv_at hl 1 rfl) ?_
          refine lv_if_eq (tgt := 101) hx hb d_Pa_prefix_87 (by decide) (fun q9 => absurd q9 (by decide)) (fun _ => ?_)
          refine lv_aload_n hx hb d_Pa_prefix_90 rfl (lv_at hl 4 rfl) ?_
          refine lv_iload hx hb d_Pa_prefix_91 (lv_at hl 2 rfl) ?_
          refine lv_iconst (v := 1) hx hb d_Pa_prefix_93 (by decide) ?_
          refine lv_iadd hx hb d_Pa_prefix_94 ?_
          refine rd_V (v := (f_Pa_assignable st_3 (r_1 + 1))) (As := [.int (r_1 + 1)]) (rest := []) ⟨hx, hb, hml, hown, hts0⟩ (m_Pa_assignable l dC dI cI cZ hp hc h a1 a2 a3 a4 ht ad_3.1 ad_3.2.1 ad_3.2.2.1 ad_3.2.2.2 hq n1 n2 st_3 ok_3 (r_1 + 1)) hP hK [0, 1, 2, 3, 4, 5, 6, 7, 8, 9, 10, 11, 12, 13, 14] rfl [0, 1] rfl 0 2 rfl rfl L_586 L_588 L_15 L_87 L_589 ⟨rfl, k_Pa_assignable⟩ ⟨(by show _ ≤ fr0 + 7; omega), (by show _ ≤ lo0 + 323; omega)⟩ hl.1 ⟨Nat.le_trans (Nat.le_add_right _ _) hcl, Nat.le_trans (Nat.le_add_right _ _) hsl⟩ (Nat.le_of_ble_eq_true rfl) d_Pa_prefix_95 rfl ?_
          refine lv_if_eq (tgt := 122) hx hb d_Pa_prefix_98 (by decide) (fun c_26 => ?_) (fun c_26 => ?_)
          · refine lv_aload_n hx hb d_Pa_prefix_122 rfl (lv_at hl 4 rfl) ?_
            refine lv_iload_n hx hb d_Pa_prefix_123 rfl (lv_at hl 3 rfl) ?_
            refine mx_Uv (xm := ⟨"SyntaxTree$Parser", "refuse", "(I)V"⟩) (owner := R_Cu) (As := [.int (sAt st)]) (rest := []) ⟨hx, hb, hml, hown, hts0⟩ (m_Cu_refuse l hlt dC dI cI cZ sa rk hp hc h a1 a2 a3 a4 ht hq n1 n2 ad_3 st_3 ok_3 _ (sAt st) (fun z => hg (by unfold f_Pa_prefix; rw [bnd_r w_1, bnd_r w_2, bnd_r w_3, if_neg c_4, if_pos c_15, if_pos c_20, if_neg c_23, if_pos c_26, bnd_n z]))) hP hD hK hS hA hC hZ hnt hlocks L_536 L_537 L_539 L_460 L_86 L_463 rfl k_Cu_refuse ⟨(by show _ ≤ fr0 + 7; omega), (by show _ ≤ lo0 + 323; omega)⟩ rfl rfl hl.1 (Nat.le_of_ble_eq_true rfl) d_Pa_prefix_124 rfl (fun q z => by unfold f_Pa_prefix; rw [bnd_r w_1, bnd_r w_2, bnd_r w_3, if_neg c_4, if_pos c_15, if_pos c_20, if_neg c_23, if_pos c_26, bnd_l z]) hcl hsl (fun ad_27 st_27 H locs w_27 ok_27 e1_27 e2_27 hP hD hS => ?_)
            have hcl := cl_next hcl e1_27
            have hsl := cl_next hsl e2_27
            exact mx_vret (stF := st_27) hx hb hr hlocks hK hP hD hS hcl hsl (by unfold f_Pa_prefix; rw [bnd_r w_1, bnd_r w_2, bnd_r w_3, if_neg c_4, if_pos c_15, if_pos c_20, if_neg c_23, if_pos c_26, bnd_r w_27]) ok_27 d_Pa_prefix_127
          · refine lv_iload hx hb d_Pa_prefix_101 (lv_at hl 0 rfl) ?_
            refine lv_if_eq (tgt := 127) hx hb d_Pa_prefix_103 (by decide) (fun q9 => absurd q9 (by decide)) (fun _ => ?_)
            refine lv_aload_n hx hb d_Pa_prefix_106 rfl (lv_at hl 4 rfl) ?_
            refine va_get (D := (dC, dI)) (ci := 2) (v := .ref ht) (C := R_Pa) (T := T_Pa) (N := 7) hx hb hts u_Pa hown hK hP 0 rfl rfl 0 (by decide) (hts _ L_208) (fun _ h9 => h9) rfl d_Pa_prefix_107 ?_
            refine lv_iload hx hb d_Pa_prefix_110 (lv_at hl 2 rfl) ?_
            refine lv_iconst (v := 1) hx hb d_Pa_prefix_112 (by decide) ?_
            refine lv_iadd hx hb d_Pa_prefix_113 ?_
            refine rd_V (v := (f_Tr_kind (sTr st_3) (r_1 + 1))) (As := [.int (r_1 + 1)]) (rest := []) ⟨hx, hb, hml, hown, hts0⟩ (m_Tr_kind l dC dI cI cZ ht ad_3.1 ad_3.2.1 ad_3.2.2.1 ad_3.2.2.2 (sTr st_3) ok_3.2.1 (r_1 + 1)) hP hK [7, 8, 9, 10, 11] rfl [0, 1] rfl 0 4 rfl rfl L_528 L_529 L_530 L_85 L_531 ⟨rfl, k_Tr_kind⟩ ⟨(by show _ ≤ fr0 + 7; omega), (by show _ ≤ lo0 + 323; omega)⟩ hl.1 ⟨Nat.le_trans (Nat.le_add_right _ _) hcl, Nat.le_trans (Nat.le_add_right _ _) hsl⟩ (Nat.le_of_ble_eq_true rfl) d_Pa_prefix_114 rfl ?_
            refine lv_bipush (v := 28) hx hb d_Pa_prefix_117 (by decide) ?_
            refine lv_icmp_ne (tgt := 127) hx hb d_Pa_prefix_119 (by decide) (fun c_28 => ?_) (fun c_28 => ?_)
            · exact mx_vret (stF := st_3) hx hb hr hlocks hK hP hD hS hcl hsl (by unfold f_Pa_prefix; rw [bnd_r w_1, bnd_r w_2, bnd_r w_3, if_neg c_4, if_pos c_15, if_pos c_20, if_neg c_23, if_neg c_26, if_neg c_28]) ok_3 d_Pa_prefix_127
            · refine lv_aload_n hx hb d_Pa_prefix_122 rfl (lv_at hl 4 rfl) ?_
              refine lv_iload_n hx hb d_Pa_prefix_123 rfl (lv_at hl 3 rfl) ?_
              refine mx_Uv (xm := ⟨"SyntaxTree$Parser", "refuse", "(I)V"⟩) (owner := R_Cu) (As := [.int (sAt st)]) (rest := []) ⟨hx, hb, hml, hown, hts0⟩ (m_Cu_refuse l hlt dC dI cI cZ sa rk hp hc h a1 a2 a3 a4 ht hq n1 n2 ad_3 st_3 ok_3 _ (sAt st) (fun z => hg (by unfold f_Pa_prefix; rw [bnd_r w_1, bnd_r w_2, bnd_r w_3, if_neg c_4, if_pos c_15, if_pos c_20, if_neg c_23, if_neg c_26, if_pos c_28, bnd_n z]))) hP hD hK hS hA hC hZ hnt hlocks L_536 L_537 L_539 L_460 L_86 L_463 rfl k_Cu_refuse ⟨(by show _ ≤ fr0 + 7; omega), (by show _ ≤ lo0 + 323; omega)⟩ rfl rfl hl.1 (Nat.le_of_ble_eq_true rfl) d_Pa_prefix_124 rfl (fun q z => by unfold f_Pa_prefix; rw [bnd_r w_1, bnd_r w_2, bnd_r w_3, if_neg c_4, if_pos c_15, if_pos c_20, if_neg c_23, if_neg c_26, if_pos c_28, bnd_l z]) hcl hsl (fun ad_29 st_29 H locs w_29 ok_29 e1_29 e2_29 hP hD hS => ?_)
              have hcl := cl_next hcl e1_29
              have hsl := cl_next hsl e2_29
              exact mx_vret (stF := st_29) hx hb hr hlocks hK hP hD hS hcl hsl (by unfold f_Pa_prefix; rw [bnd_r w_1, bnd_r w_2, bnd_r w_3, if_neg c_4, if_pos c_15, if_pos c_20, if_neg c_23, if_neg c_26, if_pos c_28, bnd_r w_29]) ok_29 d_Pa_prefix_127
def f_Pa_conditional (E : Int32 → Int32 → Int32 → ST → Rz) (S : Int32 → Int32 → ST → Rz) (F : Int32 → Int32 → ST → Rz) (st : ST) (start : Int32) (depth : Int32) (inn : Int32) : Rz := (bnd (f_Cu_accept st 69) (fun r_1 st_1 => (if r_1 = 0 then (some (.inr (0, st_1))) else (bnd (E 0 (depth + 1) 1 st_1) (fun _ st_3 => (bnd (f_Cu_expect st_3 70) (fun _ st_4 => (bnd (E 0 (depth + 1) inn st_4) (fun _ st_5 => (bnd (p_wrap st_5 start 40 0 (sAt st)) (fun _ st_6 => (some (.inr (0, st_6))))))))))))))
set_option maxRecDepth 100000 in
set_option maxHeartbeats 4000000 in
theorem m_Pa_conditional (l : Launch) (hlt : l.stackTraces = false) (dC : Nat → ClassId) (dI : Nat → Nat → Nat) (cI cZ : ClassId) (sa rk hp h a1 a2 a3 a4 ht hq n1 n2 : Nat) (fr0 lo0 : Nat) (E : Int32 → Int32 → Int32 → ST → Rz) (S : Int32 → Int32 → ST → Rz) (F : Int32 → Int32 → ST → Rz) (hRE : ∀ (hc : Nat) (ad : AD) (st : ST), okSt st → ∀ (sz : Nat) (level depth inn : Int32), E level depth inn st ≠ none → cPv l y_Pa_expression c_Pa_expression 6 fr0 lo0 (dC, dI) cI cZ sa rk hp hc h a1 a2 a3 a4 ht hq n1 n2 ad st sz [.ref hp, .int level, .int depth, .int inn] (E level depth inn st)) (hRS : ∀ (hc : Nat) (ad : AD) (st : ST), okSt st → ∀ (sz : Nat) (depth first : Int32), S depth first st ≠ none → cPv l y_Pa_statement c_Pa_statement 4 fr0 lo0 (dC, dI) cI cZ sa rk hp hc h a1 a2 a3 a4 ht hq n1 n2 ad st sz [.ref hp, .int depth, .int first] (S depth first st)) (hRF : ∀ (hc : Nat) (ad : AD) (st : ST), okSt st → ∀ (sz : Nat) (form depth : Int32), F form depth st ≠ none → cPv l y_Pa_function c_Pa_function 10 fr0 lo0 (dC, dI) cI cZ sa rk hp hc h a1 a2 a3 a4 ht hq n1 n2 ad st sz [.ref hp, .int form, .int depth] (F form depth st)) (hc : Nat) (ad : AD) (st : ST) (hst : okSt st) (sz : Nat) (start : Int32) (depth : Int32) (inn : Int32) (hg : f_Pa_conditional E S F st start depth inn ≠ none) : cPv l y_Pa_conditional c_Pa_conditional 5 (fr0 + 8) (lo0 + 325) (dC, dI) cI cZ sa rk hp hc h a1 a2 a3 a4 ht hq n1 n2 ad st sz [.ref hp, .int start, .int depth, .int inn] (f_Pa_conditional E S F st start depth inn) := by
  refine vx_ofW (cc := c_Pa_conditional) (maxL := 5) (ret := none) (by decide) rfl ?_
  intro p e s m args below meth c s₁ B hml hnt hv
  obtain ⟨rfl, hsz, hP, hK, hD0, hC, hZ⟩ := hv
  have hx := B.exec
  have hb := B.bytes
  have hr := B.returns
  have hts0 := atoms_spec (ws := wy y_Pa_conditional c_Pa_conditional 5 none) B.pre
  have hts := htsL hts0
  have hown : s.vm.findClass R_Pa = some m.cls := findClass_of_methodNamed B.named
  have hlocks := B.notSynchronized
  subst hsz
  have hD := hD0.self (sz := s.heap.size)
  generalize hAe : va_A (wQ cI cZ hp hc h a1 a2 a3 a4 ht hq n1 n2 (ad, st)) s.heap.size = A at hD hZ ⊢
  have hA : ∀ q : Nat, s.heap.size ≤ q → A q := fun q h => by rw [← hAe]; exact Or.inr h
  have hS : va_S A s.heap s.heap [] := va_S.rf
  have hcl : 0 + bC st ≤ bC st := Nat.le_of_eq (Nat.zero_add _)
  have hsl : 0 + bS st ≤ bS st := Nat.le_of_eq (Nat.zero_add _)
  have hl := lv_entry ([.ref hp, .int start, .int depth, .int inn]) (n := 5) (Nat.le_of_ble_eq_true rfl)
  rw [lg_entry_eq]
  generalize (lg_sl ([.ref hp, .int start, .int depth, .int inn]) ++ List.replicate (5 - (lg_sl ([.ref hp, .int start, .int depth, .int inn])).length) Slot.unset).toArray = ls at hl ⊢
  have hl : lv_has ls 5 [(0, .ref hp), (1, .int start), (2, .int depth), (3, .int inn)] := hl
  refine lv_aload_n hx hb d_Pa_conditional_0 rfl (lv_at hl 0 rfl) ?_
  refine va_get (D := (dC, dI)) (ci := 2) (v := .int (sAt st)) (C := R_Pa) (T := T_Pa) (N := 7) hx hb hts u_Pa hown hK hP 0 rfl rfl 4 (by decide) (hts _ L_215) (fun x9 h9 => u_same (hts _ L_216) x9 h9) rfl d_Pa_conditional_1 ?_
  refine lv_istore (lv' := [(4, .int (sAt st)), (0, .ref hp), (1, .int start), (2, .int depth), (3, .int inn)]) hx hb d_Pa_conditional_4 hl (by decide) rfl (fun ls hl => ?_)
  refine lv_aload_n hx hb d_Pa_conditional_6 rfl (lv_at hl 1 rfl) ?_
  refine lv_bipush (v := 69) hx hb d_Pa_conditional_7 (by decide) ?_
  refine mx_Ui (xm := ⟨"SyntaxTree$Parser", "accept", "(I)Z"⟩) (owner := R_Cu) (As := [.int 69]) (rest := []) ⟨hx, hb, hml, hown, hts0⟩ (m_Cu_accept l hlt dC dI cI cZ sa rk hp hc h a1 a2 a3 a4 ht hq n1 n2 ad st hst _ 69 (fun z => hg (by unfold f_Pa_conditional; rw [bnd_n z]))) hP hD hK hS hA hC hZ hnt hlocks L_556 L_557 L_559 L_547 L_86 L_550 rfl k_Cu_accept ⟨(by show _ ≤ fr0 + 8; omega), (by show _ ≤ lo0 + 325; omega)⟩ rfl rfl hl.1 (Nat.le_of_ble_eq_true rfl) d_Pa_conditional_9 rfl (fun q z => by unfold f_Pa_conditional; rw [bnd_l z]) hcl hsl (fun r_1 ad_1 st_1 H locs w_1 ok_1 e1_1 e2_1 hP hD hS => ?_)
  have hcl := cl_next hcl e1_1
  have hsl := cl_next hsl e2_1
  refine lv_if_eq (tgt := 52) hx hb d_Pa_conditional_12 (by decide) (fun c_2 => ?_) (fun c_2 => ?_)
  · exact mx_vret (stF := st_1) hx hb hr hlocks hK hP hD hS hcl hsl (by unfold f_Pa_conditional; rw [bnd_r w_1, if_pos c_2]) ok_1 d_Pa_conditional_52
  · refine lv_aload_n hx hb d_Pa_conditional_15 rfl (lv_at hl 1 rfl) ?_
    refine lv_iconst (v := 0) hx hb d_Pa_conditional_16 (by decide) ?_
    refine lv_iload_n hx hb d_Pa_conditional_17 rfl (lv_at hl 3 rfl) ?_
    refine lv_iconst (v := 1) hx hb d_Pa_conditional_18 (by decide) ?_
    refine lv_iadd hx hb d_Pa_conditional_19 ?_
    refine lv_iconst (v := 1) hx hb d_Pa_conditional_20 (by decide) ?_
    refine mx_Vv (As := [.int 0, .int (depth + 1), .int 1]) (rest := []) ⟨hx, hb, hml, hown, hts0⟩ (hRE hc ad_1 st_1 ok_1 _ 0 (depth + 1) 1 (fun z => hg (by unfold f_Pa_conditional; rw [bnd_r w_1, if_neg c_2, bnd_n z]))) hP hD hK hS hA hC hZ hnt hlocks L_569 L_571 L_12 L_87 L_572 k_Pa_expression ⟨(by show _ ≤ fr0 + 8; omega), (by show _ ≤ lo0 + 325; omega)⟩ rfl rfl hl.1 (Nat.le_of_ble_eq_true rfl) d_Pa_conditional_21 rfl (fun q z => by unfold f_Pa_conditional; rw [bnd_r w_1, if_neg c_2, bnd_l z]) hcl hsl (fun ad_3 st_3 H locs w_3 ok_3 e1_3 e2_3 hP hD hS => ?_)
    have hcl := cl_next hcl e1_3
    have hsl := cl_next hsl e2_3
    refine lv_aload_n hx hb d_Pa_conditional_24 rfl (lv_at hl 1 rfl) ?_
    refine lv_bipush (v := 70) hx hb d_Pa_conditional_25 (by decide) ?_
    refine mx_Uv (xm := ⟨"SyntaxTree$Parser", "expect", "(I)V"⟩) (owner := R_Cu) (As := [.int 70]) (rest := []) ⟨hx, hb, hml, hown, hts0⟩ (m_Cu_expect l hlt dC dI cI cZ sa rk hp hc h a1 a2 a3 a4 ht hq n1 n2 ad_3 st_3 ok_3 _ 70 (fun z => hg (by unfold f_Pa_conditional; rw [bnd_r w_1, if_neg c_2, bnd_r w_3, bnd_n z]))) hP hD hK hS hA hC hZ hnt hlocks L_510 L_511 L_513 L_514 L_86 L_515 rfl k_Cu_expect ⟨(by show _ ≤ fr0 + 8; omega), (by show _ ≤ lo0 + 325; omega)⟩ rfl rfl hl.1 (Nat.le_of_ble_eq_true rfl) d_Pa_conditional_27 rfl (fun q z => by unfold f_Pa_conditional; rw [bnd_r w_1, if_neg c_2, bnd_r w_3, bnd_l z]) hcl hsl (fun ad_4 st_4 H locs w_4 ok_4 e1_4 e2_4 hP hD hS => ?_)
    have hcl := cl_next hcl e1_4
    have hsl := cl_next hsl e2_4
    refine lv_aload_n hx hb d_Pa_conditional_30 rfl (lv_at hl 1 rfl) ?_
    refine lv_iconst (v := 0) hx hb d_Pa_conditional_31 (by decide) ?_
    refine lv_iload_n hx hb d_Pa_conditional_32 rfl (lv_at hl 3 rfl) ?_
    refine lv_iconst (v := 1) hx hb d_Pa_conditional_33 (by decide) ?_
    refine lv_iadd hx hb d_Pa_conditional_34 ?_
    refine lv_iload_n hx hb d_Pa_conditional_35 rfl (lv_at hl 4 rfl) ?_
    refine mx_Vv (As := [.int 0, .int (depth + 1), .int inn]) (rest := []) ⟨hx, hb, hml, hown, hts0⟩ (hRE hc ad_4 st_4 ok_4 _ 0 (depth + 1) inn (fun z => hg (by unfold f_Pa_conditional; rw [bnd_r w_1, if_neg c_2, bnd_r w_3, bnd_r w_4, bnd_n z]))) hP hD hK hS hA hC hZ hnt hlocks L_569 L_571 L_12 L_87 L_572 k_Pa_expression ⟨(by show _ ≤ fr0 + 8; omega), (by show _ ≤ lo0 + 325; omega)⟩ rfl rfl hl.1 (Nat.le_of_ble_eq_true rfl) d_Pa_conditional_36 rfl (fun q z => by unfold f_Pa_conditional; rw [bnd_r w_1, if_neg c_2, bnd_r w_3, bnd_r w_4, bnd_l z]) hcl hsl (fun ad_5 st_5 H locs w_5 ok_5 e1_5 e2_5 hP hD hS => ?_)
    have hcl := cl_next hcl e1_5
    have hsl := cl_next hsl e2_5
    refine lv_aload_n hx hb d_Pa_conditional_39 rfl (lv_at hl 1 rfl) ?_
    refine va_get (D := (dC, dI)) (ci := 2) (v := .ref ht) (C := R_Pa) (T := T_Pa) (N := 7) hx hb hts u_Pa hown hK hP 0 rfl rfl 0 (by decide) (hts _ L_208) (fun _ h9 => h9) rfl d_Pa_conditional_40 ?_
    refine lv_iload_n hx hb d_Pa_conditional_43 rfl (lv_at hl 2 rfl) ?_
    refine lv_bipush (v := 40) hx hb d_Pa_conditional_44 (by decide) ?_
    refine lv_iconst (v := 0) hx hb d_Pa_conditional_46 (by decide) ?_
    refine lv_iload hx hb d_Pa_conditional_47 (lv_at hl 0 rfl) ?_
    have hn_6 : (p_wrap st_5 start 40 0 (sAt st)) ≠ none := (fun z => hg (by unfold f_Pa_conditional; rw [bnd_r w_1, if_neg c_2, bnd_r w_3, bnd_r w_4, bnd_r w_5, bnd_n z]))
    refine pT_v (g := (p_wrap st_5 start 40 0 (sAt st))) (st := st_5) (As := [.int start, .int 40, .int 0, .int (sAt st)]) (rest := []) ⟨hx, hb, hml, hown, hts0⟩ (m_Tr_wrap l dC dI cI cZ sa rk ht ad_5 (sTr st_5) ok_5.2.1 _ start 40 0 (sAt st) (p_wrap_c hn_6).1 (p_wrap_c hn_6).2.1) hP hD hK hS hA hC hZ L_669 L_670 L_671 L_85 L_672 ⟨rfl, k_Tr_wrap⟩ ⟨(by show _ ≤ fr0 + 8; omega), (by show _ ≤ lo0 + 325; omega)⟩ rfl rfl hl.1 (Nat.le_of_ble_eq_true rfl) d_Pa_conditional_49 rfl hcl hsl (p_wrap_c hn_6).2.2.1 (p_wrap_c hn_6).2.2.2 ok_5 (t_wrap_ok start 40 0 (sAt st) ok_5.2.1 (p_wrap_c hn_6).1 (p_wrap_c hn_6).2.1) (p_wrap_e hn_6) (fun ad_6 st_6 H locs w_6 ok_6 e1_6 e2_6 hP hD hS => ?_)
    have hcl := cl_next hcl e1_6
    have hsl := cl_next hsl e2_6
    exact mx_vret (stF := st_6) hx hb hr hlocks hK hP hD hS hcl hsl (by unfold f_Pa_conditional; rw [bnd_r w_1, if_neg c_2, bnd_r w_3, bnd_r w_4, bnd_r w_5, bnd_r w_6]) ok_6 d_Pa_conditional_52
def f_Pa_assignment (E : Int32 → Int32 → Int32 → ST → Rz) (S : Int32 → Int32 → ST → Rz) (F : Int32 → Int32 → ST → Rz) (st : ST) (start : Int32) (depth : Int32) (inn : Int32) : Rz := (if (f_Tk_sign (sTk st) (sAt st)) < 30 then (some (.inr (0, st))) else (if 53 < (f_Tk_sign (sTk st) (sAt st)) then (some (.inr (0, st))) else (if (f_Pa_assignable st start) = 0 then (bnd (f_Cu_refuse st (sAt st)) (fun _ st_6 => (bnd (E 0 (depth + 1) inn (setAt st_6 ((sAt st_6) + 1))) (fun _ st_7 => (bnd (p_wrap st_7 start 42 ((f_Tk_sign (sTk st) (sAt st)) - 30) (sAt st)) (fun _ st_8 => (some (.inr (0, st_8))))))))) else (bnd (E 0 (depth + 1) inn (setAt st ((sAt st) + 1))) (fun _ st_4 => (bnd (p_wrap st_4 start 42 ((f_Tk_sign (sTk st) (sAt st)) - 30) (sAt st)) (fun _ st_5 => (some (.inr (0, st_5))))))))))
set_option maxRecDepth 100000 in
set_option maxHeartbeats 4000000 in
theorem m_Pa_assignment (l : Launch) (hlt : l.stackTraces = false) (dC : Nat → ClassId) (dI : Nat → Nat → Nat) (cI cZ : ClassId) (sa rk hp h a1 a2 a3 a4 ht hq n1 n2 : Nat) (fr0 lo0 : Nat) (E : Int32 → Int32 → Int32 → ST → Rz) (S : Int32 → Int32 → ST → Rz) (F : Int32 → Int32 → ST → Rz) (hRE : ∀ (hc : Nat) (ad : AD) (st : ST), okSt st → ∀ (sz : Nat) (level depth inn : Int32), E level depth inn st ≠ none → cPv l y_Pa_expression c_Pa_expression 6 fr0 lo0 (dC, dI) cI cZ sa rk hp hc h a1 a2 a3 a4 ht hq n1 n2 ad st sz [.ref hp, .int level, .int depth, .int inn] (E level depth inn st)) (hRS : ∀ (hc : Nat) (ad : AD) (st : ST), okSt st → ∀ (sz : Nat) (depth first : Int32), S depth first st ≠ none → cPv l y_Pa_statement c_Pa_statement 4 fr0 lo0 (dC, dI) cI cZ sa rk hp hc h a1 a2 a3 a4 ht hq n1 n2 ad st sz [.ref hp, .int depth, .int first] (S depth first st)) (hRF : ∀ (hc : Nat) (ad : AD) (st : ST), okSt st → ∀ (sz : Nat) (form depth : Int32), F form depth st ≠ none → cPv l y_Pa_function c_Pa_function 10 fr0 lo0 (dC, dI) cI cZ sa rk hp hc h a1 a2 a3 a4 ht hq n1 n2 ad st sz [.ref hp, .int form, .int depth] (F form depth st)) (hc : Nat) (ad : AD) (st : ST) (hst : okSt st) (sz : Nat) (start : Int32) (depth : Int32) (inn : Int32) (hg : f_Pa_assignment E S F st start depth inn ≠ none) : cPv l y_Pa_assignment c_Pa_assignment 6 (fr0 + 7) (lo0 + 325) (dC, dI) cI cZ sa rk hp hc h a1 a2 a3 a4 ht hq n1 n2 ad st sz [.ref hp, .int start, .int depth, .int inn] (f_Pa_assignment E S F st start depth inn) := by
  refine vx_ofW (cc := c_Pa_assignment) (maxL := 6) (ret := none) (by decide) rfl ?_
  intro p e s m args below meth c s₁ B hml hnt hv
  obtain ⟨rfl, hsz, hP, hK, hD0, hC, hZ⟩ := hv
  have hx := B.exec
  have hb := B.bytes
  have hr := B.returns
  have hts0 := atoms_spec (ws := wy y_Pa_assignment c_Pa_assignment 6 none) B.pre
  have hts := htsL hts0
  have hown : s.vm.findClass R_Pa = some m.cls := findClass_of_methodNamed B.named
  have hlocks := B.notSynchronized
  subst hsz
  have hD := hD0.self (sz := s.heap.size)
  generalize hAe : va_A (wQ cI cZ hp hc h a1 a2 a3 a4 ht hq n1 n2 (ad, st)) s.heap.size = A at hD hZ ⊢
  have hA : ∀ q : Nat, s.heap.size ≤ q → A q := fun q h => by rw [← hAe]; exact Or.inr h
  have hS : va_S A s.heap s.heap [] := va_S.rf
  have hcl : 0 + bC st ≤ bC st := Nat.le_of_eq (Nat.zero_add _)
  have hsl : 0 + bS st ≤ bS st := Nat.le_of_eq (Nat.zero_add _)
  have hl := lv_entry ([.ref hp, .int start, .int depth, .int inn]) (n := 6) (Nat.le_of_ble_eq_true rfl)
  rw [lg_entry_eq]
  generalize (lg_sl ([.ref hp, .int start, .int depth, .int inn]) ++ List.replicate (6 - (lg_sl ([.ref hp, .int start, .int depth, .int inn])).length) Slot.unset).toArray = ls at hl ⊢
  have hl : lv_has ls 6 [(0, .ref hp), (1, .int start), (2, .int depth), (3, .int inn)] := hl
  refine lv_aload_n hx hb d_Pa_assignment_0 rfl (lv_at hl 0 rfl) ?_
  refine va_get (D := (dC, dI)) (ci := 2) (v := .int (sAt st)) (C := R_Pa) (T := T_Pa) (N := 7) hx hb hts u_Pa hown hK hP 0 rfl rfl 4 (by decide) (hts _ L_215) (fun x9 h9 => u_same (hts _ L_216) x9 h9) rfl d_Pa_assignment_1 ?_
  refine lv_istore (lv' := [(4, .int (sAt st)), (0, .ref hp), (1, .int start), (2, .int depth), (3, .int inn)]) hx hb d_Pa_assignment_4 hl (by decide) rfl (fun ls hl => ?_)
  refine lv_aload_n hx hb d_Pa_assignment_6 rfl (lv_at hl 1 rfl) ?_
  refine va_get (D := (dC, dI)) (ci := 2) (v := .ref h) (C := R_Pa) (T := T_Pa) (N := 7) hx hb hts u_Pa hown hK hP 0 rfl rfl 3 (by decide) (hts _ L_212) (fun x9 h9 => u_same (hts _ L_213) x9 h9) rfl d_Pa_assignment_7 ?_
  refine lv_iload hx hb d_Pa_assignment_10 (lv_at hl 0 rfl) ?_
  refine rd_V (v := (f_Tk_sign (sTk st) (sAt st))) (As := [.int (sAt st)]) (rest := []) ⟨hx, hb, hml, hown, hts0⟩ (m_Tk_sign l dC dI cI cZ h a1 a2 a3 a4 (sTk st) hst.1 (sAt st)) hP hK [2, 3, 4, 5, 6] rfl [0, 1] rfl 0 3 rfl rfl L_577 L_503 L_504 L_84 L_505 ⟨rfl, k_Tk_sign⟩ ⟨(by show _ ≤ fr0 + 7; omega), (by show _ ≤ lo0 + 325; omega)⟩ hl.1 ⟨Nat.le_trans (Nat.le_add_right _ _) hcl, Nat.le_trans (Nat.le_add_right _ _) hsl⟩ (Nat.le_of_ble_eq_true rfl) d_Pa_assignment_12 rfl ?_
  refine lv_istore (lv' := [(5, .int (f_Tk_sign (sTk st) (sAt st))), (4, .int (sAt st)), (0, .ref hp), (1, .int start), (2, .int depth), (3, .int inn)]) hx hb d_Pa_assignment_15 hl (by decide) rfl (fun ls hl => ?_)
  refine lv_iload hx hb d_Pa_assignment_17 (lv_at hl 0 rfl) ?_
  refine lv_bipush (v := 30) hx hb d_Pa_assignment_19 (by decide) ?_
  refine lv_icmp_lt (tgt := 81) hx hb d_Pa_assignment_21 (by decide) (fun c_1 => ?_) (fun c_1 => ?_)
  · exact mx_vret (stF := st) hx hb hr hlocks hK hP hD hS hcl hsl (by unfold f_Pa_assignment; rw [if_pos c_1]) hst d_Pa_assignment_81
  · refine lv_iload hx hb d_Pa_assignment_24 (lv_at hl 0 rfl) ?_
    refine lv_bipush (v := 53) hx hb d_Pa_assignment_26 (by decide) ?_
    refine lv_icmp_gt (tgt := 81) hx hb d_Pa_assignment_28 (by decide) (fun c_2 => ?_) (fun c_2 => ?_)
    · exact mx_vret (stF := st) hx hb hr hlocks hK hP hD hS hcl hsl (by unfold f_Pa_assignment; rw [if_neg c_1, if_pos c_2]) hst d_Pa_assignment_81
    · refine lv_aload_n hx hb d_Pa_assignment_31 rfl (lv_at hl 2 rfl) ?_
      refine lv_iload_n hx hb d_Pa_assignment_32 rfl (lv_at hl 3 rfl) ?_
      refine rd_V (v := (f_Pa_assignable st start)) (As := [.int start]) (rest := []) ⟨hx, hb, hml, hown, hts0⟩ (m_Pa_assignable l dC dI cI cZ hp hc h a1 a2 a3 a4 ht ad.1 ad.2.1 ad.2.2.1 ad.2.2.2 hq n1 n2 st hst start) hP hK [0, 1, 2, 3, 4, 5, 6, 7, 8, 9, 10, 11, 12, 13, 14] rfl [0, 1] rfl 0 2 rfl rfl L_586 L_588 L_15 L_87 L_589 ⟨rfl, k_Pa_assignable⟩ ⟨(by show _ ≤ fr0 + 7; omega), (by show _ ≤ lo0 + 325; omega)⟩ hl.1 ⟨Nat.le_trans (Nat.le_add_right _ _) hcl, Nat.le_trans (Nat.le_add_right _ _) hsl⟩ (Nat.le_of_ble_eq_true rfl) d_Pa_assignment_33 rfl ?_
      refine lv_if_ne (tgt := 45) hx hb d_Pa_assignment_36 (by decide) (fun c_3 => ?_) (fun c_3 => ?_)
      · refine lv_aload_n hx hb d_Pa_assignment_45 rfl (lv_at hl 2 rfl) ?_
        refine lv_dup hx hb d_Pa_assignment_46 rfl ?_
        refine va_get (D := (dC, dI)) (ci := 2) (v := .int (sAt st)) (C := R_Pa) (T := T_Pa) (N := 7) hx hb hts u_Pa hown hK hP 0 rfl rfl 4 (by decide) (hts _ L_215) (fun x9 h9 => u_same (hts _ L_216) x9 h9) rfl d_Pa_assignment_47 ?_
        refine lv_iconst (v := 1) hx hb d_Pa_assignment_50 (by decide) ?_
        refine lv_iadd hx hb d_Pa_assignment_51 ?_
        refine va_put (D := (dC, dI)) (ci := 2) (v := .int ((sAt st) + 1)) (ty := .int) (C := R_Pa) (T := T_Pa) (N := 7) hx hb hts u_Pa ty_Pa tk_Pa nm_Pa hown hK hP hD hS 0 rfl rfl 4 (by decide) (hts _ L_215) (fun x9 h9 => u_same (hts _ L_216) x9 h9) rfl (by decide +kernel) rfl rfl (Nat.le_of_ble_eq_true rfl) d_Pa_assignment_52 (fun H locs hP hD hS => ?_)
        have hP : va_P (dC, dI) cls (wQ cI cZ hp hc h a1 a2 a3 a4 ht hq n1 n2 (ad, (setAt st ((sAt st) + 1)))) H := hP
        have hD : va_D A (wQ cI cZ hp hc h a1 a2 a3 a4 ht hq n1 n2 (ad, (setAt st ((sAt st) + 1)))) := hD
        refine lv_aload_n hx hb d_Pa_assignment_55 rfl (lv_at hl 2 rfl) ?_
        refine lv_iconst (v := 0) hx hb d_Pa_assignment_56 (by decide) ?_
        refine lv_iload_n hx hb d_Pa_assignment_57 rfl (lv_at hl 4 rfl) ?_
        refine lv_iconst (v := 1) hx hb d_Pa_assignment_58 (by decide) ?_
        refine lv_iadd hx hb d_Pa_assignment_59 ?_
        refine lv_iload_n hx hb d_Pa_assignment_60 rfl (lv_at hl 5 rfl) ?_
        refine mx_Vv (As := [.int 0, .int (depth + 1), .int inn]) (rest := []) ⟨hx, hb, hml, hown, hts0⟩ (hRE hc ad (setAt st ((sAt st) + 1)) (show okSt (setAt st ((sAt st) + 1)) from ⟨hst.1, hst.2.1, hst.2.2.1, hst.2.2.2⟩) _ 0 (depth + 1) inn (fun z => hg (by unfold f_Pa_assignment; rw [if_neg c_1, if_neg c_2, if_neg c_3, bnd_n z]))) hP hD hK hS hA hC hZ hnt hlocks L_569 L_571 L_12 L_87 L_572 k_Pa_expression ⟨(by show _ ≤ fr0 + 7; omega), (by show _ ≤ lo0 + 325; omega)⟩ rfl rfl hl.1 (Nat.le_of_ble_eq_true rfl) d_Pa_assignment_61 rfl (fun q z => by unfold f_Pa_assignment; rw [if_neg c_1, if_neg c_2, if_neg c_3, bnd_l z]) hcl hsl (fun ad_4 st_4 H locs w_4 ok_4 e1_4 e2_4 hP hD hS => ?_)
        have hcl := cl_next hcl e1_4
        have hsl := cl_next hsl e2_4
        refine lv_aload_n hx hb d_Pa_assignment_64 rfl (lv_at hl 2 rfl) ?_
        refine va_get (D := (dC, dI)) (ci := 2) (v := .ref ht) (C := R_Pa) (T := T_Pa) (N := 7) hx hb hts u_Pa hown hK hP 0 rfl rfl 0 (by decide) (hts _ L_208) (fun _ h9 => h9) rfl d_Pa_assignment_65 ?_
        refine lv_iload_n hx hb d_Pa_assignment_68 rfl (lv_at hl 3 rfl) ?_
        refine lv_bipush (v := 42) hx hb d_Pa_assignment_69 (by decide) ?_
        refine lv_iload hx hb d_Pa_assignment_71 (lv_at hl 0 rfl) ?_
        refine lv_bipush (v := 30) hx hb d_Pa_assignment_73 (by decide) ?_
        refine lv_isub hx hb d_Pa_assignment_75 ?_
        refine lv_iload hx hb d_Pa_assignment_76 (lv_at hl 1 rfl) ?_
        have hn_5 : (p_wrap st_4 start 42 ((f_Tk_sign (sTk st) (sAt st)) - 30) (sAt st)) ≠ none := (fun z => hg (by unfold f_Pa_assignment; rw [if_neg c_1, if_neg c_2, if_neg c_3, bnd_r w_4, bnd_n z]))
        refine pT_v (g := (p_wrap st_4 start 42 ((f_Tk_sign (sTk st) (sAt st)) - 30) (sAt st))) (st := st_4) (As := [.int start, .int 42, .int ((f_Tk_sign (sTk st) (sAt st)) - 30), .int (sAt st)]) (rest := []) ⟨hx, hb, hml, hown, hts0⟩ (m_Tr_wrap l dC dI cI cZ sa rk ht ad_4 (sTr st_4) ok_4.2.1 _ start 42 ((f_Tk_sign (sTk st) (sAt st)) - 30) (sAt st) (p_wrap_c hn_5).1 (p_wrap_c hn_5).2.1) hP hD hK hS hA hC hZ L_669 L_670 L_671 L_85 L_672 ⟨rfl, k_Tr_wrap⟩ ⟨(by show _ ≤ fr0 + 7; omega), (by show _ ≤ lo0 + 325; omega)⟩ rfl rfl hl.1 (Nat.le_of_ble_eq_true rfl) d_Pa_assignment_78 rfl hcl hsl (p_wrap_c hn_5).2.2.1 (p_wrap_c hn_5).2.2.2 ok_4 (t_wrap_ok start 42 ((f_Tk_sign (sTk st) (sAt st)) - 30) (sAt st) ok_4.2.1 (p_wrap_c hn_5).1 (p_wrap_c hn_5).2.1) (p_wrap_e hn_5) (fun ad_5 st_5 H locs w_5 ok_5 e1_5 e2_5 hP hD hS => ?_)
        have hcl := cl_next hcl e1_5
        have hsl := cl_next hsl e2_5
        exact mx_vret (stF := st_5) hx hb hr hlocks hK hP hD hS hcl hsl (by unfold f_Pa_assignment; rw [if_neg c_1, if_neg c_2, if_neg c_3, bnd_r w_4, bnd_r w_5]) ok_5 d_Pa_assignment_81
      · refine lv_aload_n hx hb d_Pa_assignment_39 rfl (lv_at hl 2 rfl) ?_
        refine lv_iload hx hb d_Pa_assignment_40 (lv_at hl 1 rfl) ?_
        refine mx_Uv (xm := ⟨"SyntaxTree$Parser", "refuse", "(I)V"⟩) (owner := R_Cu) (As := [.int (sAt st)]) (rest := []) ⟨hx, hb, hml, hown, hts0⟩ (m_Cu_refuse l hlt dC dI cI cZ sa rk hp hc h a1 a2 a3 a4 ht hq n1 n2 ad st hst _ (sAt st) (fun z => hg (by unfold f_Pa_assignment; rw [if_neg c_1, if_neg c_2, if_pos c_3, bnd_n z]))) hP hD hK hS hA hC hZ hnt hlocks L_536 L_537 L_539 L_460 L_86 L_463 rfl k_Cu_refuse ⟨(by show _ ≤ fr0 + 7; omega), (by show _ ≤ lo0 + 325; omega)⟩ rfl rfl hl.1 (Nat.le_of_ble_eq_true rfl) d_Pa_assignment_42 rfl (fun q z => by unfold f_Pa_assignment; rw [if_neg c_1, if_neg c_2, if_pos c_3, bnd_l z]) hcl hsl (fun ad_6 st_6 H locs w_6 ok_6 e1_6 e2_6 hP hD hS => ?_)
        have hcl := cl_next hcl e1_6
        have hsl := cl_next hsl e2_6
        refine lv_aload_n hx hb d_Pa_assignment_45 rfl (lv_at hl 2 rfl) ?_
        refine lv_dup hx hb d_Pa_assignment_46 rfl ?_
        refine va_get (D := (dC, dI)) (ci := 2) (v := .int (sAt st_6)) (C := R_Pa) (T := T_Pa) (N := 7) hx hb hts u_Pa hown hK hP 0 rfl rfl 4 (by decide) (hts _ L_215) (fun x9 h9 => u_same (hts _ L_216) x9 h9) rfl d_Pa_assignment_47 ?_
        refine lv_iconst (v := 1) hx hb d_Pa_assignment_50 (by decide) ?_
        refine lv_iadd hx hb d_Pa_assignment_51 ?_
        refine va_put (D := (dC, dI)) (ci := 2) (v := .int ((sAt st_6) + 1)) (ty := .int) (C := R_Pa) (T := T_Pa) (N := 7) hx hb hts u_Pa ty_Pa tk_Pa nm_Pa hown hK hP hD hS 0 rfl rfl 4 (by decide) (hts _ L_215) (fun x9 h9 => u_same (hts _ L_216) x9 h9) rfl (by decide +kernel) rfl rfl (Nat.le_of_ble_eq_true rfl) d_Pa_assignment_52 (fun H locs hP hD hS => ?_)
        have hP : va_P (dC, dI) cls (wQ cI cZ hp hc h a1 a2 a3 a4 ht hq n1 n2 (ad_6, (setAt st_6 ((sAt st_6) + 1)))) H := hP
        have hD : va_D A (wQ cI cZ hp hc h a1 a2 a3 a4 ht hq n1 n2 (ad_6, (setAt st_6 ((sAt st_6) + 1)))) := hD
        refine lv_aload_n hx hb d_Pa_assignment_55 rfl (lv_at hl 2 rfl) ?_
        refine lv_iconst (v := 0) hx hb d_Pa_assignment_56 (by decide) ?_
        refine lv_iload_n hx hb d_Pa_assignment_57 rfl (lv_at hl 4 rfl) ?_
        refine lv_iconst (v := 1) hx hb d_Pa_assignment_58 (by decide) ?_
        refine lv_iadd hx hb d_Pa_assignment_59 ?_
        refine lv_iload_n hx hb d_Pa_assignment_60 rfl (lv_at hl 5 rfl) ?_
        refine mx_Vv (As := [.int 0, .int (depth + 1), .int inn]) (rest := []) ⟨hx, hb, hml, hown, hts0⟩ (hRE hc ad_6 (setAt st_6 ((sAt st_6) + 1)) (show okSt (setAt st_6 ((sAt st_6) + 1)) from ⟨ok_6.1, ok_6.2.1, ok_6.2.2.1, ok_6.2.2.2⟩) _ 0 (depth + 1) inn (fun z => hg (by unfold f_Pa_assignment; rw [if_neg c_1, if_neg c_2, if_pos c_3, bnd_r w_6, bnd_n z]))) hP hD hK hS hA hC hZ hnt hlocks L_569 L_571 L_12 L_87 L_572 k_Pa_expression ⟨(by show _ ≤ fr0 + 7; omega), (by show _ ≤ lo0 + 325; omega)⟩ rfl rfl hl.1 (Nat.le_of_ble_eq_true rfl) d_Pa_assignment_61 rfl (fun q z => by unfold f_Pa_assignment; rw [if_neg c_1, if_neg c_2, if_pos c_3, bnd_r w_6, bnd_l z]) hcl hsl (fun ad_7 st_7 H locs w_7 ok_7 e1_7 e2_7 hP hD hS => ?_)
        have hcl := cl_next hcl e1_7
        have hsl := cl_next hsl e2_7
        refine lv_aload_n hx hb d_Pa_assignment_64 rfl (lv_at hl 2 rfl) ?_
        refine va_get (D := (dC, dI)) (ci := 2) (v := .ref ht) (C := R_Pa) (T := T_Pa) (N := 7) hx hb hts u_Pa hown hK hP 0 rfl rfl 0 (by decide) (hts _ L_208) (fun _ h9 => h9) rfl d_Pa_assignment_65 ?_
        refine lv_iload_n hx hb d_Pa_assignment_68 rfl (lv_at hl 3 rfl) ?_
        refine lv_bipush (v := 42) hx hb d_Pa_assignment_69 (by decide) ?_
        refine lv_iload hx hb d_Pa_assignment_71 (lv_at hl 0 rfl) ?_
        refine lv_bipush (v := 30) hx hb d_Pa_assignment_73 (by decide) ?_
        refine lv_isub hx hb d_Pa_assignment_75 ?_
        refine lv_iload hx hb d_Pa_assignment_76 (lv_at hl 1 rfl) ?_
        have hn_8 : (p_wrap st_7 start 42 ((f_Tk_sign (sTk st) (sAt st)) - 30) (sAt st)) ≠ none := (fun z => hg (by unfold f_Pa_assignment; rw [if_neg c_1, if_neg c_2, if_pos c_3, bnd_r w_6, bnd_r w_7, bnd_n z]))
        refine pT_v (g := (p_wrap st_7 start 42 ((f_Tk_sign (sTk st) (sAt st)) - 30) (sAt st))) (st := st_7) (As := [.int start, .int 42, .int ((f_Tk_sign (sTk st) (sAt st)) - 30), .int (sAt st)]) (rest := []) ⟨hx, hb, hml, hown, hts0⟩ (m_Tr_wrap l dC dI cI cZ sa rk ht ad_7 (sTr st_7) ok_7.2.1 _ start 42 ((f_Tk_sign (sTk st) (sAt st)) - 30) (sAt st) (p_wrap_c hn_8).1 (p_wrap_c hn_8).2.1) hP hD hK hS hA hC hZ L_669 L_670 L_671 L_85 L_672 ⟨rfl, k_Tr_wrap⟩ ⟨(by show _ ≤ fr0 + 7; omega), (by show _ ≤ lo0 + 325; omega)⟩ rfl rfl hl.1 (Nat.le_of_ble_eq_true rfl) d_Pa_assignment_78 rfl hcl hsl (p_wrap_c hn_8).2.2.1 (p_wrap_c hn_8).2.2.2 ok_7 (t_wrap_ok start 42 ((f_Tk_sign (sTk st) (sAt st)) - 30) (sAt st) ok_7.2.1 (p_wrap_c hn_8).1 (p_wrap_c hn_8).2.1) (p_wrap_e hn_8) (fun ad_8 st_8 H locs w_8 ok_8 e1_8 e2_8 hP hD hS => ?_)
        have hcl := cl_next hcl e1_8
        have hsl := cl_next hsl e2_8
        exact mx_vret (stF := st_8) hx hb hr hlocks hK hP hD hS hcl hsl (by unfold f_Pa_assignment; rw [if_neg c_1, if_neg c_2, if_pos c_3, bnd_r w_6, bnd_r w_7, bnd_r w_8]) ok_8 d_Pa_assignment_81
def f_Pa_expressionStatement (E : Int32 → Int32 → Int32 → ST → Rz) (S : Int32 → Int32 → ST → Rz) (F : Int32 → Int32 → ST → Rz) (st : ST) (depth : Int32) : Rz := (if (f_Cu_atWord st 11) = 0 then (bnd (p_open st 5 0 (sAt st)) (fun r_2 st_2 => (bnd (E (-1) (depth + 1) 1 st_2) (fun _ st_3 => (bnd (f_Cu_semicolon st_3) (fun _ st_4 => (bnd (p_close st_4 r_2) (fun _ st_5 => (some (.inr (0, st_5))))))))))) else (bnd (f_Cu_refuse st (sAt st)) (fun _ st_6 => (bnd (p_open st_6 5 0 (sAt st_6)) (fun r_7 st_7 => (bnd (E (-1) (depth + 1) 1 st_7) (fun _ st_8 => (bnd (f_Cu_semicolon st_8) (fun _ st_9 => (bnd (p_close st_9 r_7) (fun _ st_10 => (some (.inr (0, st_10))))))))))))))
set_option maxRecDepth 100000 in
set_option maxHeartbeats 4000000 in
theorem m_Pa_expressionStatement (l : Launch) (hlt : l.stackTraces = false) (dC : Nat → ClassId) (dI : Nat → Nat → Nat) (cI cZ : ClassId) (sa rk hp h a1 a2 a3 a4 ht hq n1 n2 : Nat) (fr0 lo0 : Nat) (E : Int32 → Int32 → Int32 → ST → Rz) (S : Int32 → Int32 → ST → Rz) (F : Int32 → Int32 → ST → Rz) (hRE : ∀ (hc : Nat) (ad : AD) (st : ST), okSt st → ∀ (sz : Nat) (level depth inn : Int32), E level depth inn st ≠ none → cPv l y_Pa_expression c_Pa_expression 6 fr0 lo0 (dC, dI) cI cZ sa rk hp hc h a1 a2 a3 a4 ht hq n1 n2 ad st sz [.ref hp, .int level, .int depth, .int inn] (E level depth inn st)) (hRS : ∀ (hc : Nat) (ad : AD) (st : ST), okSt st → ∀ (sz : Nat) (depth first : Int32), S depth first st ≠ none → cPv l y_Pa_statement c_Pa_statement 4 fr0 lo0 (dC, dI) cI cZ sa rk hp hc h a1 a2 a3 a4 ht hq n1 n2 ad st sz [.ref hp, .int depth, .int first] (S depth first st)) (hRF : ∀ (hc : Nat) (ad : AD) (st : ST), okSt st → ∀ (sz : Nat) (form depth : Int32), F form depth st ≠ none → cPv l y_Pa_function c_Pa_function 10 fr0 lo0 (dC, dI) cI cZ sa rk hp hc h a1 a2 a3 a4 ht hq n1 n2 ad st sz [.ref hp, .int form, .int depth] (F form depth st)) (hc : Nat) (ad : AD) (st : ST) (hst : okSt st) (sz : Nat) (depth : Int32) (hg : f_Pa_expressionStatement E S F st depth ≠ none) : cPv l y_Pa_expressionStatement c_Pa_expressionStatement 3 (fr0 + 8) (lo0 + 323) (dC, dI) cI cZ sa rk hp hc h a1 a2 a3 a4 ht hq n1 n2 ad st sz [.ref hp, .int depth] (f_Pa_expressionStatement E S F st depth) := by
  refine vx_ofW (cc := c_Pa_expressionStatement) (maxL := 3) (ret := none) (by decide) rfl ?_
  intro p e s m args below meth c s₁ B hml hnt hv
  obtain ⟨rfl, hsz, hP, hK, hD0, hC, hZ⟩ := hv
  have hx := B.exec
  have hb := B.bytes
  have hr := B.returns
  have hts0 := atoms_spec (ws := wy y_Pa_expressionStatement c_Pa_expressionStatement 3 none) B.pre
  have hts := htsL hts0
  have hown : s.vm.findClass R_Pa = some m.cls := findClass_of_methodNamed B.named
  have hlocks := B.notSynchronized
  subst hsz
  have hD := hD0.self (sz := s.heap.size)
  generalize hAe : va_A (wQ cI cZ hp hc h a1 a2 a3 a4 ht hq n1 n2 (ad, st)) s.heap.size = A at hD hZ ⊢
  have hA : ∀ q : Nat, s.heap.size ≤ q → A q := fun q h => by rw [← hAe]; exact Or.inr h
  have hS : va_S A s.heap s.heap [] := va_S.rf
  have hcl : 0 + bC st ≤ bC st := Nat.le_of_eq (Nat.zero_add _)
  have hsl : 0 + bS st ≤ bS st := Nat.le_of_eq (Nat.zero_add _)
  have hl := lv_entry ([.ref hp, .int depth]) (n := 3) (Nat.le_of_ble_eq_true rfl)
  rw [lg_entry_eq]
  generalize (lg_sl ([.ref hp, .int depth]) ++ List.replicate (3 - (lg_sl ([.ref hp, .int depth])).length) Slot.unset).toArray = ls at hl ⊢
  have hl : lv_has ls 3 [(0, .ref hp), (1, .int depth)] := hl
  refine lv_aload_n hx hb d_Pa_expressionStatement_0 rfl (lv_at hl 0 rfl) ?_
  refine lv_bipush (v := 11) hx hb d_Pa_expressionStatement_1 (by decide) ?_
  refine rd_U (xm := ⟨"SyntaxTree$Parser", "atWord", "(I)Z"⟩) (owner := R_Cu) (v := (f_Cu_atWord st 11)) (As := [.int 11]) (rest := []) ⟨hx, hb, hml, hown, hts0⟩ (m_Cu_atWord l dC dI cI cZ hp hc h a1 a2 a3 a4 ht ad.1 ad.2.1 ad.2.2.1 ad.2.2.2 hq n1 n2 st hst 11) hP hK [0, 1, 2, 3, 4, 5, 6, 7, 8, 9, 10, 11, 12, 13, 14] rfl [0, 1] rfl 0 2 rfl rfl L_439 L_440 L_442 L_443 L_86 L_444 rfl k_Cu_atWord ⟨(by show _ ≤ fr0 + 8; omega), (by show _ ≤ lo0 + 323; omega)⟩ hl.1 ⟨Nat.le_trans (Nat.le_add_right _ _) hcl, Nat.le_trans (Nat.le_add_right _ _) hsl⟩ (Nat.le_of_ble_eq_true rfl) d_Pa_expressionStatement_3 rfl ?_
  refine lv_if_eq (tgt := 17) hx hb d_Pa_expressionStatement_6 (by decide) (fun c_1 => ?_) (fun c_1 => ?_)
  · refine lv_aload_n hx hb d_Pa_expressionStatement_17 rfl (lv_at hl 0 rfl) ?_
    refine va_get (D := (dC, dI)) (ci := 2) (v := .ref ht) (C := R_Pa) (T := T_Pa) (N := 7) hx hb hts u_Pa hown hK hP 0 rfl rfl 0 (by decide) (hts _ L_208) (fun _ h9 => h9) rfl d_Pa_expressionStatement_18 ?_
    refine lv_iconst (v := 5) hx hb d_Pa_expressionStatement_21 (by decide) ?_
    refine lv_iconst (v := 0) hx hb d_Pa_expressionStatement_22 (by decide) ?_
    refine lv_aload_n hx hb d_Pa_expressionStatement_23 rfl (lv_at hl 0 rfl) ?_
    refine va_get (D := (dC, dI)) (ci := 2) (v := .int (sAt st)) (C := R_Pa) (T := T_Pa) (N := 7) hx hb hts u_Pa hown hK hP 0 rfl rfl 4 (by decide) (hts _ L_215) (fun x9 h9 => u_same (hts _ L_216) x9 h9) rfl d_Pa_expressionStatement_24 ?_
    have hn_2 : (p_open st 5 0 (sAt st)) ≠ none := (fun z => hg (by unfold f_Pa_expressionStatement; rw [if_pos c_1, bnd_n z]))
    refine pT_i (g := (p_open st 5 0 (sAt st))) (st := st) (As := [.int 5, .int 0, .int (sAt st)]) (rest := []) ⟨hx, hb, hml, hown, hts0⟩ (m_Tr_open l dC dI cI cZ sa rk ht ad (sTr st) hst.2.1 _ 5 0 (sAt st) (p_open_c hn_2).1 (p_open_c hn_2).2.1) hP hD hK hS hA hC hZ L_416 L_417 L_418 L_85 L_419 ⟨rfl, k_Tr_open⟩ ⟨(by show _ ≤ fr0 + 8; omega), (by show _ ≤ lo0 + 323; omega)⟩ rfl rfl hl.1 (Nat.le_of_ble_eq_true rfl) d_Pa_expressionStatement_27 rfl hcl hsl (p_open_c hn_2).2.2.1 (p_open_c hn_2).2.2.2 hst (t_open_ok 5 0 (sAt st) hst.2.1 (p_open_c hn_2).1 (p_open_c hn_2).2.1) (p_open_e hn_2) (fun r_2 ad_2 st_2 H locs w_2 ok_2 e1_2 e2_2 hP hD hS => ?_)
    have hcl := cl_next hcl e1_2
    have hsl := cl_next hsl e2_2
    refine lv_istore_n (lv' := [(2, .int r_2), (0, .ref hp), (1, .int depth)]) hx hb d_Pa_expressionStatement_30 rfl hl (by decide) rfl (fun ls hl => ?_)
    refine lv_aload_n hx hb d_Pa_expressionStatement_31 rfl (lv_at hl 1 rfl) ?_
    refine lv_iconst (v := (-1)) hx hb d_Pa_expressionStatement_32 (by decide) ?_
    refine lv_iload_n hx hb d_Pa_expressionStatement_33 rfl (lv_at hl 2 rfl) ?_
    refine lv_iconst (v := 1) hx hb d_Pa_expressionStatement_34 (by decide) ?_
    refine lv_iadd hx hb d_Pa_expressionStatement_35 ?_
    refine lv_iconst (v := 1) hx hb d_Pa_expressionStatement_36 (by decide) ?_
    refine mx_Vv (As := [.int (-1), .int (depth + 1), .int 1]) (rest := []) ⟨hx, hb, hml, hown, hts0⟩ (hRE hc ad_2 st_2 ok_2 _ (-1) (depth + 1) 1 (fun z => hg (by unfold f_Pa_expressionStatement; rw [if_pos c_1, bnd_r w_2, bnd_n z]))) hP hD hK hS hA hC hZ hnt hlocks L_569 L_571 L_12 L_87 L_572 k_Pa_expression ⟨(by show _ ≤ fr0 + 8; omega), (by show _ ≤ lo0 + 323; omega)⟩ rfl rfl hl.1 (Nat.le_of_ble_eq_true rfl) d_Pa_expressionStatement_37 rfl (fun q z => by unfold f_Pa_expressionStatement; rw [if_pos c_1, bnd_r w_2, bnd_l z]) hcl hsl (fun ad_3 st_3 H locs w_3 ok_3 e1_3 e2_3 hP hD hS => ?_)
    have hcl := cl_next hcl e1_3
    have hsl := cl_next hsl e2_3
    refine lv_aload_n hx hb d_Pa_expressionStatement_40 rfl (lv_at hl 1 rfl) ?_
    refine mx_Uv (xm := ⟨"SyntaxTree$Parser", "semicolon", "()V"⟩) (owner := R_Cu) (As := []) (rest := []) ⟨hx, hb, hml, hown, hts0⟩ (m_Cu_semicolon l hlt dC dI cI cZ sa rk hp hc h a1 a2 a3 a4 ht hq n1 n2 ad_3 st_3 ok_3 _  (fun z => hg (by unfold f_Pa_expressionStatement; rw [if_pos c_1, bnd_r w_2, bnd_r w_3, bnd_n z]))) hP hD hK hS hA hC hZ hnt hlocks L_711 L_712 L_714 L_715 L_86 L_716 rfl k_Cu_semicolon ⟨(by show _ ≤ fr0 + 8; omega), (by show _ ≤ lo0 + 323; omega)⟩ rfl rfl hl.1 (Nat.le_of_ble_eq_true rfl) d_Pa_expressionStatement_41 rfl (fun q z => by unfold f_Pa_expressionStatement; rw [if_pos c_1, bnd_r w_2, bnd_r w_3, bnd_l z]) hcl hsl (fun ad_4 st_4 H locs w_4 ok_4 e1_4 e2_4 hP hD hS => ?_)
    have hcl := cl_next hcl e1_4
    have hsl := cl_next hsl e2_4
    refine lv_aload_n hx hb d_Pa_expressionStatement_44 rfl (lv_at hl 1 rfl) ?_
    refine va_get (D := (dC, dI)) (ci := 2) (v := .ref ht) (C := R_Pa) (T := T_Pa) (N := 7) hx hb hts u_Pa hown hK hP 0 rfl rfl 0 (by decide) (hts _ L_208) (fun _ h9 => h9) rfl d_Pa_expressionStatement_45 ?_
    refine lv_iload_n hx hb d_Pa_expressionStatement_48 rfl (lv_at hl 0 rfl) ?_
    refine pT_v (g := (p_close st_4 r_2)) (st := st_4) (As := [.int r_2]) (rest := []) ⟨hx, hb, hml, hown, hts0⟩ (m_Tr_close l dC dI cI cZ sa rk ht ad_4 (sTr st_4) ok_4.2.1 _ r_2) hP hD hK hS hA hC hZ L_582 L_583 L_584 L_85 L_585 ⟨rfl, k_Tr_close⟩ ⟨(by show _ ≤ fr0 + 8; omega), (by show _ ≤ lo0 + 323; omega)⟩ rfl rfl hl.1 (Nat.le_of_ble_eq_true rfl) d_Pa_expressionStatement_49 rfl hcl hsl (Nat.zero_le _) (Nat.zero_le _) ok_4 (t_close_ok r_2 ok_4.2.1) rfl (fun ad_5 st_5 H locs w_5 ok_5 e1_5 e2_5 hP hD hS => ?_)
    have hcl := cl_next hcl e1_5
    have hsl := cl_next hsl e2_5
    exact mx_vret (stF := st_5) hx hb hr hlocks hK hP hD hS hcl hsl (by unfold f_Pa_expressionStatement; rw [if_pos c_1, bnd_r w_2, bnd_r w_3, bnd_r w_4, bnd_r w_5]) ok_5 d_Pa_expressionStatement_52
  · refine lv_aload_n hx hb d_Pa_expressionStatement_9 rfl (lv_at hl 0 rfl) ?_
    refine lv_aload_n hx hb d_Pa_expressionStatement_10 rfl (lv_at hl 0 rfl) ?_
    refine va_get (D := (dC, dI)) (ci := 2) (v := .int (sAt st)) (C := R_Pa) (T := T_Pa) (N := 7) hx hb hts u_Pa hown hK hP 0 rfl rfl 4 (by decide) (hts _ L_215) (fun x9 h9 => u_same (hts _ L_216) x9 h9) rfl d_Pa_expressionStatement_11 ?_
    refine mx_Uv (xm := ⟨"SyntaxTree$Parser", "refuse", "(I)V"⟩) (owner := R_Cu) (As := [.int (sAt st)]) (rest := []) ⟨hx, hb, hml, hown, hts0⟩ (m_Cu_refuse l hlt dC dI cI cZ sa rk hp hc h a1 a2 a3 a4 ht hq n1 n2 ad st hst _ (sAt st) (fun z => hg (by unfold f_Pa_expressionStatement; rw [if_neg c_1, bnd_n z]))) hP hD hK hS hA hC hZ hnt hlocks L_536 L_537 L_539 L_460 L_86 L_463 rfl k_Cu_refuse ⟨(by show _ ≤ fr0 + 8; omega), (by show _ ≤ lo0 + 323; omega)⟩ rfl rfl hl.1 (Nat.le_of_ble_eq_true rfl) d_Pa_expressionStatement_14 rfl (fun q z => by unfold f_Pa_expressionStatement; rw [if_neg c_1, bnd_l z]) hcl hsl (fun ad_6 st_6 H locs w_6 ok_6 e1_6 e2_6 hP hD hS => ?_)
    have hcl := cl_next hcl e1_6
    have hsl := cl_next hsl e2_6
    refine lv_aload_n hx hb d_Pa_expressionStatement_17 rfl (lv_at hl 0 rfl) ?_
    refine va_get (D := (dC, dI)) (ci := 2) (v := .ref ht) (C := R_Pa) (T := T_Pa) (N := 7) hx hb hts u_Pa hown hK hP 0 rfl rfl 0 (by decide) (hts _ L_208) (fun _ h9 => h9) rfl d_Pa_expressionStatement_18 ?_
    refine lv_iconst (v := 5) hx hb d_Pa_expressionStatement_21 (by decide) ?_
    refine lv_iconst (v := 0) hx hb d_Pa_expressionStatement_22 (by decide) ?_
    refine lv_aload_n hx hb d_Pa_expressionStatement_23 rfl (lv_at hl 0 rfl) ?_
    refine va_get (D := (dC, dI)) (ci := 2) (v := .int (sAt st_6)) (C := R_Pa) (T := T_Pa) (N := 7) hx hb hts u_Pa hown hK hP 0 rfl rfl 4 (by decide) (hts _ L_215) (fun x9 h9 => u_same (hts _ L_216) x9 h9) rfl d_Pa_expressionStatement_24 ?_
    have hn_7 : (p_open st_6 5 0 (sAt st_6)) ≠ none := (fun z => hg (by unfold f_Pa_expressionStatement; rw [if_neg c_1, bnd_r w_6, bnd_n z]))
    refine pT_i (g := (p_open st_6 5 0 (sAt st_6))) (st := st_6) (As := [.int 5, .int 0, .int (sAt st_6)]) (rest := []) ⟨hx, hb, hml, hown, hts0⟩ (m_Tr_open l dC dI cI cZ sa rk ht ad_6 (sTr st_6) ok_6.2.1 _ 5 0 (sAt st_6) (p_open_c hn_7).1 (p_open_c hn_7).2.1) hP hD hK hS hA hC hZ L_416 L_417 L_418 L_85 L_419 ⟨rfl, k_Tr_open⟩ ⟨(by show _ ≤ fr0 + 8; omega), (by show _ ≤ lo0 + 323; omega)⟩ rfl rfl hl.1 (Nat.le_of_ble_eq_true rfl) d_Pa_expressionStatement_27 rfl hcl hsl (p_open_c hn_7).2.2.1 (p_open_c hn_7).2.2.2 ok_6 (t_open_ok 5 0 (sAt st_6) ok_6.2.1 (p_open_c hn_7).1 (p_open_c hn_7).2.1) (p_open_e hn_7) (fun r_7 ad_7 st_7 H locs w_7 ok_7 e1_7 e2_7 hP hD hS => ?_)
    have hcl := cl_next hcl e1_7
    have hsl := cl_next hsl e2_7
    refine lv_istore_n (lv' := [(2, .int r_7), (0, .ref hp), (1, .int depth)]) hx hb d_Pa_expressionStatement_30 rfl hl (by decide) rfl (fun ls hl => ?_)
    refine lv_aload_n hx hb d_Pa_expressionStatement_31 rfl (lv_at hl 1 rfl) ?_
    refine lv_iconst (v := (-1)) hx hb d_Pa_expressionStatement_32 (by decide) ?_
    refine lv_iload_n hx hb d_Pa_expressionStatement_33 rfl (lv_at hl 2 rfl) ?_
    refine lv_iconst (v := 1) hx hb d_Pa_expressionStatement_34 (by decide) ?_
    refine lv_iadd hx hb d_Pa_expressionStatement_35 ?_
    refine lv_iconst (v := 1) hx hb d_Pa_expressionStatement_36 (by decide) ?_
    refine mx_Vv (As := [.int (-1), .int (depth + 1), .int 1]) (rest := []) ⟨hx, hb, hml, hown, hts0⟩ (hRE hc ad_7 st_7 ok_7 _ (-1) (depth + 1) 1 (fun z => hg (by unfold f_Pa_expressionStatement; rw [if_neg c_1, bnd_r w_6, bnd_r w_7, bnd_n z]))) hP hD hK hS hA hC hZ hnt hlocks L_569 L_571 L_12 L_87 L_572 k_Pa_expression ⟨(by show _ ≤ fr0 + 8; omega), (by show _ ≤ lo0 + 323; omega)⟩ rfl rfl hl.1 (Nat.le_of_ble_eq_true rfl) d_Pa_expressionStatement_37 rfl (fun q z => by unfold f_Pa_expressionStatement; rw [if_neg c_1, bnd_r w_6, bnd_r w_7, bnd_l z]) hcl hsl (fun ad_8 st_8 H locs w_8 ok_8 e1_8 e2_8 hP hD hS => ?_)
    have hcl := cl_next hcl e1_8
    have hsl := cl_next hsl e2_8
    refine lv_aload_n hx hb d_Pa_expressionStatement_40 rfl (lv_at hl 1 rfl) ?_
    refine mx_Uv (xm := ⟨"SyntaxTree$Parser", "semicolon", "()V"⟩) (owner := R_Cu) (As := []) (rest := []) ⟨hx, hb, hml, hown, hts0⟩ (m_Cu_semicolon l hlt dC dI cI cZ sa rk hp hc h a1 a2 a3 a4 ht hq n1 n2 ad_8 st_8 ok_8 _  (fun z => hg (by unfold f_Pa_expressionStatement; rw [if_neg c_1, bnd_r w_6, bnd_r w_7, bnd_r w_8, bnd_n z]))) hP hD hK hS hA hC hZ hnt hlocks L_711 L_712 L_714 L_715 L_86 L_716 rfl k_Cu_semicolon ⟨(by show _ ≤ fr0 + 8; omega), (by show _ ≤ lo0 + 323; omega)⟩ rfl rfl hl.1 (Nat.le_of_ble_eq_true rfl) d_Pa_expressionStatement_41 rfl (fun q z => by unfold f_Pa_expressionStatement; rw [if_neg c_1, bnd_r w_6, bnd_r w_7, bnd_r w_8, bnd_l z]) hcl hsl (fun ad_9 st_9 H locs w_9 ok_9 e1_9 e2_9 hP hD hS => ?_)
    have hcl := cl_next hcl e1_9
    have hsl := cl_next hsl e2_9
    refine lv_aload_n hx hb d_Pa_expressionStatement_44 rfl (lv_at hl 1 rfl) ?_
    refine va_get (D := (dC, dI)) (ci := 2) (v := .ref ht) (C := R_Pa) (T := T_Pa) (N := 7) hx hb hts u_Pa hown hK hP 0 rfl rfl 0 (by decide) (hts _ L_208) (fun _ h9 => h9) rfl d_Pa_expressionStatement_45 ?_
    refine lv_iload_n hx hb d_Pa_expressionStatement_48 rfl (lv_at hl 0 rfl) ?_
    refine pT_v (g := (p_close st_9 r_7)) (st := st_9) (As := [.int r_7]) (rest := []) ⟨hx, hb, hml, hown, hts0⟩ (m_Tr_close l dC dI cI cZ sa rk ht ad_9 (sTr st_9) ok_9.2.1 _ r_7) hP hD hK hS hA hC hZ L_582 L_583 L_584 L_85 L_585 ⟨rfl, k_Tr_close⟩ ⟨(by show _ ≤ fr0 + 8; omega), (by show _ ≤ lo0 + 323; omega)⟩ rfl rfl hl.1 (Nat.le_of_ble_eq_true rfl) d_Pa_expressionStatement_49 rfl hcl hsl (Nat.zero_le _) (Nat.zero_le _) ok_9 (t_close_ok r_7 ok_9.2.1) rfl (fun ad_10 st_10 H locs w_10 ok_10 e1_10 e2_10 hP hD hS => ?_)
    have hcl := cl_next hcl e1_10
    have hsl := cl_next hsl e2_10
    exact mx_vret (stF := st_10) hx hb hr hlocks hK hP hD hS hcl hsl (by unfold f_Pa_expressionStatement; rw [if_neg c_1, bnd_r w_6, bnd_r w_7, bnd_r w_8, bnd_r w_9, bnd_r w_10]) ok_10 d_Pa_expressionStatement_52
def f_Pa_ifStatement (E : Int32 → Int32 → Int32 → ST → Rz) (S : Int32 → Int32 → ST → Rz) (F : Int32 → Int32 → ST → Rz) (st : ST) (depth : Int32) : Rz := (bnd (p_open st 6 0 (sAt st)) (fun r_1 st_1 => (bnd (f_Cu_expect (setAt st_1 ((sAt st_1) + 1)) 60) (fun _ st_2 => (bnd (E (-1) (depth + 1) 1 st_2) (fun _ st_3 => (bnd (f_Cu_expect st_3 61) (fun _ st_4 => (bnd (S (depth + 1) (f_La_count (sLb st_4)) st_4) (fun _ st_5 => (if (f_Cu_atWord st_5 8) = 0 then (bnd (p_close st_5 r_1) (fun _ st_7 => (some (.inr (0, st_7))))) else (bnd (S (depth + 1) (f_La_count (sLb st_5)) (setAt st_5 ((sAt st_5) + 1))) (fun _ st_8 => (bnd (p_close st_8 r_1) (fun _ st_9 => (some (.inr (0, st_9))))))))))))))))))
set_option maxRecDepth 100000 in
set_option maxHeartbeats 4000000 in
theorem m_Pa_ifStatement (l : Launch) (hlt : l.stackTraces = false) (dC : Nat → ClassId) (dI : Nat → Nat → Nat) (cI cZ : ClassId) (sa rk hp h a1 a2 a3 a4 ht hq n1 n2 : Nat) (fr0 lo0 : Nat) (E : Int32 → Int32 → Int32 → ST → Rz) (S : Int32 → Int32 → ST → Rz) (F : Int32 → Int32 → ST → Rz) (hRE : ∀ (hc : Nat) (ad : AD) (st : ST), okSt st → ∀ (sz : Nat) (level depth inn : Int32), E level depth inn st ≠ none → cPv l y_Pa_expression c_Pa_expression 6 fr0 lo0 (dC, dI) cI cZ sa rk hp hc h a1 a2 a3 a4 ht hq n1 n2 ad st sz [.ref hp, .int level, .int depth, .int inn] (E level depth inn st)) (hRS : ∀ (hc : Nat) (ad : AD) (st : ST), okSt st → ∀ (sz : Nat) (depth first : Int32), S depth first st ≠ none → cPv l y_Pa_statement c_Pa_statement 4 fr0 lo0 (dC, dI) cI cZ sa rk hp hc h a1 a2 a3 a4 ht hq n1 n2 ad st sz [.ref hp, .int depth, .int first] (S depth first st)) (hRF : ∀ (hc : Nat) (ad : AD) (st : ST), okSt st → ∀ (sz : Nat) (form depth : Int32), F form depth st ≠ none → cPv l y_Pa_function c_Pa_function 10 fr0 lo0 (dC, dI) cI cZ sa rk hp hc h a1 a2 a3 a4 ht hq n1 n2 ad st sz [.ref hp, .int form, .int depth] (F form depth st)) (hc : Nat) (ad : AD) (st : ST) (hst : okSt st) (sz : Nat) (depth : Int32) (hg : f_Pa_ifStatement E S F st depth ≠ none) : cPv l y_Pa_ifStatement c_Pa_ifStatement 3 (fr0 + 8) (lo0 + 323) (dC, dI) cI cZ sa rk hp hc h a1 a2 a3 a4 ht hq n1 n2 ad st sz [.ref hp, .int depth] (f_Pa_ifStatement E S F st depth) := by
  refine vx_ofW (cc := c_Pa_ifStatement) (maxL := 3) (ret := none) (by decide) rfl ?_
  intro p e s m args below meth c s₁ B hml hnt hv
  obtain ⟨rfl, hsz, hP, hK, hD0, hC, hZ⟩ := hv
  have hx := B.exec
  have hb := B.bytes
  have hr := B.returns
  have hts0 := atoms_spec (ws := wy y_Pa_ifStatement c_Pa_ifStatement 3 none) B.pre
  have hts := htsL hts0
  have hown : s.vm.findClass R_Pa = some m.cls := findClass_of_methodNamed B.named
  have hlocks := B.notSynchronized
  subst hsz
  have hD := hD0.self (sz := s.heap.size)
  generalize hAe : va_A (wQ cI cZ hp hc h a1 a2 a3 a4 ht hq n1 n2 (ad, st)) s.heap.size = A at hD hZ ⊢
  have hA : ∀ q : Nat, s.heap.size ≤ q → A q := fun q h => by rw [← hAe]; exact Or.inr h
  have hS : va_S A s.heap s.heap [] := va_S.rf
  have hcl : 0 + bC st ≤ bC st := Nat.le_of_eq (Nat.zero_add _)
  have hsl : 0 + bS st ≤ bS st := Nat.le_of_eq (Nat.zero_add _)
  have hl := lv_entry ([.ref hp, .int depth]) (n := 3) (Nat.le_of_ble_eq_true rfl)
  rw [lg_entry_eq]
  generalize (lg_sl ([.ref hp, .int depth]) ++ List.replicate (3 - (lg_sl ([.ref hp, .int depth])).length) Slot.unset).toArray = ls at hl ⊢
  have hl : lv_has ls 3 [(0, .ref hp), (1, .int depth)] := hl
  refine lv_aload_n hx hb d_Pa_ifStatement_0 rfl (lv_at hl 0 rfl) ?_
  refine va_get (D := (dC, dI)) (ci := 2) (v := .ref ht) (C := R_Pa) (T := T_Pa) (N := 7) hx hb hts u_Pa hown hK hP 0 rfl rfl 0 (by decide) (hts _ L_208) (fun _ h9 => h9) rfl d_Pa_ifStatement_1 ?_
  refine lv_bipush (v := 6) hx hb d_Pa_ifStatement_4 (by decide) ?_
  refine lv_iconst (v := 0) hx hb d_Pa_ifStatement_6 (by decide) ?_
  refine lv_aload_n hx hb d_Pa_ifStatement_7 rfl (lv_at hl 0 rfl) ?_
  refine va_get (D := (dC, dI)) (ci := 2) (v := .int (sAt st)) (C := R_Pa) (T := T_Pa) (N := 7) hx hb hts u_Pa hown hK hP 0 rfl rfl 4 (by decide) (hts _ L_215) (fun x9 h9 => u_same (hts _ L_216) x9 h9) rfl d_Pa_ifStatement_8 ?_
  have hn_1 : (p_open st 6 0 (sAt st)) ≠ none := (fun z => hg (by unfold f_Pa_ifStatement; rw [bnd_n z]))
  refine pT_i (g := (p_open st 6 0 (sAt st))) (st := st) (As := [.int 6, .int 0, .int (sAt st)]) (rest := []) ⟨hx, hb, hml, hown, hts0⟩ (m_Tr_open l dC dI cI cZ sa rk ht ad (sTr st) hst.2.1 _ 6 0 (sAt st) (p_open_c hn_1).1 (p_open_c hn_1).2.1) hP hD hK hS hA hC hZ L_416 L_417 L_418 L_85 L_419 ⟨rfl, k_Tr_open⟩ ⟨(by show _ ≤ fr0 + 8; omega), (by show _ ≤ lo0 + 323; omega)⟩ rfl rfl hl.1 (Nat.le_of_ble_eq_true rfl) d_Pa_ifStatement_11 rfl hcl hsl (p_open_c hn_1).2.2.1 (p_open_c hn_1).2.2.2 hst (t_open_ok 6 0 (sAt st) hst.2.1 (p_open_c hn_1).1 (p_open_c hn_1).2.1) (p_open_e hn_1) (fun r_1 ad_1 st_1 H locs w_1 ok_1 e1_1 e2_1 hP hD hS => ?_)
  have hcl := cl_next hcl e1_1
  have hsl := cl_next hsl e2_1
  refine lv_istore_n (lv' := [(2, .int r_1), (0, .ref hp), (1, .int depth)]) hx hb d_Pa_ifStatement_14 rfl hl (by decide) rfl (fun ls hl => ?_)
  refine lv_aload_n hx hb d_Pa_ifStatement_15 rfl (lv_at hl 1 rfl) ?_
  refine lv_dup hx hb d_Pa_ifStatement_16 rfl ?_
  refine va_get (D := (dC, dI)) (ci := 2) (v := .int (sAt st_1)) (C := R_Pa) (T := T_Pa) (N := 7) hx hb hts u_Pa hown hK hP 0 rfl rfl 4 (by decide) (hts _ L_215) (fun x9 h9 => u_same (hts _ L_216) x9 h9) rfl d_Pa_ifStatement_17 ?_
  refine lv_iconst (v := 1) hx hb d_Pa_ifStatement_20 (by decide) ?_
  refine lv_iadd hx hb d_Pa_ifStatement_21 ?_
  refine va_put (D := (dC, dI)) (ci := 2) (v := .int ((sAt st_1) + 1)) (ty := .int) (C := R_Pa) (T := T_Pa) (N := 7) hx hb hts u_Pa ty_Pa tk_Pa nm_Pa hown hK hP hD hS 0 rfl rfl 4 (by decide) (hts _ L_215) (fun x9 h9 => u_same (hts _ L_216) x9 h9) rfl (by decide +kernel) rfl rfl (Nat.le_of_ble_eq_true rfl) d_Pa_ifStatement_22 (fun H locs hP hD hS => ?_)
  have hP : va_P (dC, dI) cls (wQ cI cZ hp hc h a1 a2 a3 a4 ht hq n1 n2 (ad_1, (setAt st_1 ((sAt st_1) + 1)))) H := hP
  have hD : va_D A (wQ cI cZ hp hc h a1 a2 a3 a4 ht hq n1 n2 (ad_1, (setAt st_1 ((sAt st_1) + 1)))) := hD
  refine lv_aload_n hx hb d_Pa_ifStatement_25 rfl (lv_at hl 1 rfl) ?_
  refine lv_bipush (v := 60) hx hb d_Pa_ifStatement_26 (by decide) ?_
  refine mx_Uv (xm := ⟨"SyntaxTree$Parser", "expect", "(I)V"⟩) (owner := R_Cu) (As := [.int 60]) (rest := []) ⟨hx, hb, hml, hown, hts0⟩ (m_Cu_expect l hlt dC dI cI cZ sa rk hp hc h a1 a2 a3 a4 ht hq n1 n2 ad_1 (setAt st_1 ((sAt st_1) + 1)) (show okSt (setAt st_1 ((sAt st_1) + 1)) from ⟨ok_1.1, ok_1.2.1, ok_1.2.2.1, ok_1.2.2.2⟩) _ 60 (fun z => hg (by unfold f_Pa_ifStatement; rw [bnd_r w_1, bnd_n z]))) hP hD hK hS hA hC hZ hnt hlocks L_510 L_511 L_513 L_514 L_86 L_515 rfl k_Cu_expect ⟨(by show _ ≤ fr0 + 8; omega), (by show _ ≤ lo0 + 323; omega)⟩ rfl rfl hl.1 (Nat.le_of_ble_eq_true rfl) d_Pa_ifStatement_28 rfl (fun q z => by unfold f_Pa_ifStatement; rw [bnd_r w_1, bnd_l z]) hcl hsl (fun ad_2 st_2 H locs w_2 ok_2 e1_2 e2_2 hP hD hS => ?_)
  have hcl := cl_next hcl e1_2
  have hsl := cl_next hsl e2_2
  refine lv_aload_n hx hb d_Pa_ifStatement_31 rfl (lv_at hl 1 rfl) ?_
  refine lv_iconst (v := (-1)) hx hb d_Pa_ifStatement_32 (by decide) ?_
  refine lv_iload_n hx hb d_Pa_ifStatement_33 rfl (lv_at hl 2 rfl) ?_
  refine lv_iconst (v := 1) hx hb d_Pa_ifStatement_34 (by decide) ?_
  refine lv_iadd hx hb d_Pa_ifStatement_35 ?_
  refine lv_iconst (v := 1) hx hb d_Pa_ifStatement_36 (by decide) ?_
  refine mx_Vv (As := [.int (-1), .int (depth + 1), .int 1]) (rest := []) ⟨hx, hb, hml, hown, hts0⟩ (hRE hc ad_2 st_2 ok_2 _ (-1) (depth + 1) 1 (fun z => hg (by unfold f_Pa_ifStatement; rw [bnd_r w_1, bnd_r w_2, bnd_n z]))) hP hD hK hS hA hC hZ hnt hlocks L_569 L_571 L_12 L_87 L_572 k_Pa_expression ⟨(by show _ ≤ fr0 + 8; omega), (by show _ ≤ lo0 + 323; omega)⟩ rfl rfl hl.1 (Nat.le_of_ble_eq_true rfl) d_Pa_ifStatement_37 rfl (fun q z => by unfold f_Pa_ifStatement; rw [bnd_r w_1, bnd_r w_2, bnd_l z]) hcl hsl (fun ad_3 st_3 H locs w_3 ok_3 e1_3 e2_3 hP hD hS => ?_)
  have hcl := cl_next hcl e1_3
  have hsl := cl_next hsl e2_3
  refine lv_aload_n hx hb d_Pa_ifStatement_40 rfl (lv_at hl 1 rfl) ?_
  refine lv_bipush (v := 61) hx hb d_Pa_ifStatement_41 (by decide) ?_
  refine mx_Uv (xm := ⟨"SyntaxTree$Parser", "expect", "(I)V"⟩) (owner := R_Cu) (As := [.int 61]) (rest := []) ⟨hx, hb, hml, hown, hts0⟩ (m_Cu_expect l hlt dC dI cI cZ sa rk hp hc h a1 a2 a3 a4 ht hq n1 n2 ad_3 st_3 ok_3 _ 61 (fun z => hg (by unfold f_Pa_ifStatement; rw [bnd_r w_1, bnd_r w_2, bnd_r w_3, bnd_n z]))) hP hD hK hS hA hC hZ hnt hlocks L_510 L_511 L_513 L_514 L_86 L_515 rfl k_Cu_expect ⟨(by show _ ≤ fr0 + 8; omega), (by show _ ≤ lo0 + 323; omega)⟩ rfl rfl hl.1 (Nat.le_of_ble_eq_true rfl) d_Pa_ifStatement_43 rfl (fun q z => by unfold f_Pa_ifStatement; rw [bnd_r w_1, bnd_r w_2, bnd_r w_3, bnd_l z]) hcl hsl (fun ad_4 st_4 H locs w_4 ok_4 e1_4 e2_4 hP hD hS => ?_)
  have hcl := cl_next hcl e1_4
  have hsl := cl_next hsl e2_4
  refine lv_aload_n hx hb d_Pa_ifStatement_46 rfl (lv_at hl 1 rfl) ?_
  refine lv_iload_n hx hb d_Pa_ifStatement_47 rfl (lv_at hl 2 rfl) ?_
  refine lv_iconst (v := 1) hx hb d_Pa_ifStatement_48 (by decide) ?_
  refine lv_iadd hx hb d_Pa_ifStatement_49 ?_
  refine lv_aload_n hx hb d_Pa_ifStatement_50 rfl (lv_at hl 1 rfl) ?_
  refine va_get (D := (dC, dI)) (ci := 2) (v := .ref hq) (C := R_Pa) (T := T_Pa) (N := 7) hx hb hts u_Pa hown hK hP 0 rfl rfl 1 (by decide) (hts _ L_209) (fun _ h9 => h9) rfl d_Pa_ifStatement_51 ?_
  refine rd_V (v := (f_La_count (sLb st_4))) (As := []) (rest := [.int (depth + 1), .ref hp]) ⟨hx, hb, hml, hown, hts0⟩ (m_La_count l dC dI cI cZ hq n1 n2 (sLb st_4) ok_4.2.2.1 ) hP hK [12, 13, 14] rfl [0, 1] rfl 0 1 rfl rfl L_552 L_553 L_554 L_89 L_555 ⟨rfl, k_La_count⟩ ⟨(by show _ ≤ fr0 + 8; omega), (by show _ ≤ lo0 + 323; omega)⟩ hl.1 ⟨Nat.le_trans (Nat.le_add_right _ _) hcl, Nat.le_trans (Nat.le_add_right _ _) hsl⟩ (Nat.le_of_ble_eq_true rfl) d_Pa_ifStatement_54 rfl ?_
  refine mx_Vv (As := [.int (depth + 1), .int (f_La_count (sLb st_4))]) (rest := []) ⟨hx, hb, hml, hown, hts0⟩ (hRS hc ad_4 st_4 ok_4 _ (depth + 1) (f_La_count (sLb st_4)) (fun z => hg (by unfold f_Pa_ifStatement; rw [bnd_r w_1, bnd_r w_2, bnd_r w_3, bnd_r w_4, bnd_n z]))) hP hD hK hS hA hC hZ hnt hlocks L_560 L_562 L_10 L_87 L_563 k_Pa_statement ⟨(by show _ ≤ fr0 + 8; omega), (by show _ ≤ lo0 + 323; omega)⟩ rfl rfl hl.1 (Nat.le_of_ble_eq_true rfl) d_Pa_ifStatement_57 rfl (fun q z => by unfold f_Pa_ifStatement; rw [bnd_r w_1, bnd_r w_2, bnd_r w_3, bnd_r w_4, bnd_l z]) hcl hsl (fun ad_5 st_5 H locs w_5 ok_5 e1_5 e2_5 hP hD hS => ?_)
  have hcl := cl_next hcl e1_5
  have hsl := cl_next hsl e2_5
  refine lv_aload_n hx hb d_Pa_ifStatement_60 rfl (lv_at hl 1 rfl) ?_
  refine lv_bipush (v := 8) hx hb d_Pa_ifStatement_61 (by decide) ?_
  refine rd_U (xm := ⟨"SyntaxTree$Parser", "atWord", "(I)Z"⟩) (owner := R_Cu) (v := (f_Cu_atWord st_5 8)) (As := [.int 8]) (rest := []) ⟨hx, hb, hml, hown, hts0⟩ (m_Cu_atWord l dC dI cI cZ hp hc h a1 a2 a3 a4 ht ad_5.1 ad_5.2.1 ad_5.2.2.1 ad_5.2.2.2 hq n1 n2 st_5 ok_5 8) hP hK [0, 1, 2, 3, 4, 5, 6, 7, 8, 9, 10, 11, 12, 13, 14] rfl [0, 1] rfl 0 2 rfl rfl L_439 L_440 L_442 L_443 L_86 L_444 rfl k_Cu_atWord ⟨(by show _ ≤ fr0 + 8; omega), (by show _ ≤ lo0 + 323; omega)⟩ hl.1 ⟨Nat.le_trans (Nat.le_add_right _ _) hcl, Nat.le_trans (Nat.le_add_right _ _) hsl⟩ (Nat.le_of_ble_eq_true rfl) d_Pa_ifStatement_63 rfl ?_
  refine lv_if_eq (tgt := 93) hx hb d_Pa_ifStatement_66 (by decide) (fun c_6 => ?_) (fun c_6 => ?_)
  · refine lv_aload_n hx hb d_Pa_ifStatement_93 rfl (lv_at hl 1 rfl) ?_
    refine va_get (D := (dC, dI)) (ci := 2) (v := .ref ht) (C := R_Pa) (T := T_Pa) (N := 7) hx hb hts u_Pa hown hK hP 0 rfl rfl 0 (by decide) (hts _ L_208) (fun _ h9 => h9) rfl d_Pa_ifStatement_94 ?_
    refine lv_iload_n hx hb d_Pa_ifStatement_97 rfl (lv_at hl 0 rfl) ?_
    refine pT_v (g := (p_close st_5 r_1)) (st := st_5) (As := [.int r_1]) (rest := []) ⟨hx, hb, hml, hown, hts0⟩ (m_Tr_close l dC dI cI cZ sa rk ht ad_5 (sTr st_5) ok_5.2.1 _ r_1) hP hD hK hS hA hC hZ L_582 L_583 L_584 L_85 L_585 ⟨rfl, k_Tr_close⟩ ⟨(by show _ ≤ fr0 + 8; omega), (by show _ ≤ lo0 + 323; omega)⟩ rfl rfl hl.1 (Nat.le_of_ble_eq_true rfl) d_Pa_ifStatement_98 rfl hcl hsl (Nat.zero_le _) (Nat.zero_le _) ok_5 (t_close_ok r_1 ok_5.2.1) rfl (fun ad_7 st_7 H locs w_7 ok_7 e1_7 e2_7 hP hD hS => ?_)
    have hcl := cl_next hcl e1_7
    have hsl := cl_next hsl e2_7
    exact mx_vret (stF := st_7) hx hb hr hlocks hK hP hD hS hcl hsl (by unfold f_Pa_ifStatement; rw [bnd_r w_1, bnd_r w_2, bnd_r w_3, bnd_r w_4, bnd_r w_5, if_pos c_6, bnd_r w_7]) ok_7 d_Pa_ifStatement_101
  · refine lv_aload_n hx hb d_Pa_ifStatement_69 rfl (lv_at hl 1 rfl) ?_
    refine lv_dup hx hb d_Pa_ifStatement_70 rfl ?_
    refine va_get (D := (dC, dI)) (ci := 2) (v := .int (sAt st_5)) (C := R_Pa) (T := T_Pa) (N := 7) hx hb hts u_Pa hown hK hP 0 rfl rfl 4 (by decide) (hts _ L_215) (fun x9 h9 => u_same (hts _ L_216) x9 h9) rfl d_Pa_ifStatement_71 ?_
    refine lv_iconst (v := 1) hx hb d_Pa_ifStatement_74 (by decide) ?_
    refine lv_iadd hx hb d_Pa_ifStatement_75 ?_
    refine va_put (D := (dC, dI)) (ci := 2) (v := .int ((sAt st_5) + 1)) (ty := .int) (C := R_Pa) (T := T_Pa) (N := 7) hx hb hts u_Pa ty_Pa tk_Pa nm_Pa hown hK hP hD hS 0 rfl rfl 4 (by decide) (hts _ L_215) (fun x9 h9 => u_same (hts _ L_216) x9 h9) rfl (by decide +kernel) rfl rfl (Nat.le_of_ble_eq_true rfl) d_Pa_ifStatement_76 (fun H locs hP hD hS => ?_)
    have hP : va_P (dC, dI) cls (wQ cI cZ hp hc h a1 a2 a3 a4 ht hq n1 n2 (ad_5, (setAt st_5 ((sAt st_5) + 1)))) H := hP
    have hD : va_D A (wQ cI cZ hp hc h a1 a2 a3 a4 ht hq n1 n2 (ad_5, (setAt st_5 ((sAt st_5) + 1)))) := hD
    refine lv_aload_n hx hb d_Pa_ifStatement_79 rfl (lv_at hl 1 rfl) ?_
    refine lv_iload_n hx hb d_Pa_ifStatement_80 rfl (lv_at hl 2 rfl) ?_
    refine lv_iconst (v := 1) hx hb d_Pa_ifStatement_81 (by decide) ?_
    refine lv_iadd hx hb d_Pa_ifStatement_82 ?_
    refine lv_aload_n hx hb d_Pa_ifStatement_83 rfl (lv_at hl 1 rfl) ?_
    refine va_get (D := (dC, dI)) (ci := 2) (v := .ref hq) (C := R_Pa) (T := T_Pa) (N := 7) hx hb hts u_Pa hown hK hP 0 rfl rfl 1 (by decide) (hts _ L_209) (fun _ h9 => h9) rfl d_Pa_ifStatement_84 ?_
    refine rd_V (v := (f_La_count (sLb st_5))) (As := []) (rest := [.int (depth + 1), .ref hp]) ⟨hx, hb, hml, hown, hts0⟩ (m_La_count l dC dI cI cZ hq n1 n2 (sLb st_5) ok_5.2.2.1 ) hP hK [12, 13, 14] rfl [0, 1] rfl 0 1 rfl rfl L_552 L_553 L_554 L_89 L_555 ⟨rfl, k_La_count⟩ ⟨(by show _ ≤ fr0 + 8; omega), (by show _ ≤ lo0 + 323; omega)⟩ hl.1 ⟨Nat.le_trans (Nat.le_add_right _ _) hcl, Nat.le_trans (Nat.le_add_right _ _) hsl⟩ (Nat.le_of_ble_eq_true rfl) d_Pa_ifStatement_87 rfl ?_
    refine mx_Vv (As := [.int (depth + 1), .int (f_La_count (sLb st_5))]) (rest := []) ⟨hx, hb, hml, hown, hts0⟩ (hRS hc ad_5 (setAt st_5 ((sAt st_5) + 1)) (show okSt (setAt st_5 ((sAt st_5) + 1)) from ⟨ok_5.1, ok_5.2.1, ok_5.2.2.1, ok_5.2.2.2⟩) _ (depth + 1) (f_La_count (sLb st_5)) (fun z => hg (by unfold f_Pa_ifStatement; rw [bnd_r w_1, bnd_r w_2, bnd_r w_3, bnd_r w_4, bnd_r w_5, if_neg c_6, bnd_n z]))) hP hD hK hS hA hC hZ hnt hlocks L_560 L_562 L_10 L_87 L_563 k_Pa_statement ⟨(by show _ ≤ fr0 + 8; omega), (by show _ ≤ lo0 + 323; omega)⟩ rfl rfl hl.1 (Nat.le_of_ble_eq_true rfl) d_Pa_ifStatement_90 rfl (fun q z => by unfold f_Pa_ifStatement; rw [bnd_r w_1, bnd_r w_2, bnd_r w_3, bnd_r w_4, bnd_r w_5, if_neg c_6, bnd_l z]) hcl hsl (fun ad_8 st_8 H locs w_8 ok_8 e1_8 e2_8 hP hD hS => ?_)
    have hcl := cl_next hcl e1_8
    have hsl := cl_next hsl e2_8
    refine lv_aload_n hx hb d_Pa_ifStatement_93 rfl (lv_at hl 1 rfl) ?_
    refine va_get (D := (dC, dI)) (ci := 2) (v := .ref ht) (C := R_Pa) (T := T_Pa) (N := 7) hx hb hts u_Pa hown hK hP 0 rfl rfl 0 (by decide) (hts _ L_208) (fun _ h9 => h9) rfl d_Pa_ifStatement_94 ?_
    refine lv_iload_n hx hb d_Pa_ifStatement_97 rfl (lv_at hl 0 rfl) ?_
    refine pT_v (g := (p_close st_8 r_1)) (st := st_8) (As := [.int r_1]) (rest := []) ⟨hx, hb, hml, hown, hts0⟩ (m_Tr_close l dC dI cI cZ sa rk ht ad_8 (sTr st_8) ok_8.2.1 _ r_1) hP hD hK hS hA hC hZ L_582 L_583 L_584 L_85 L_585 ⟨rfl, k_Tr_close⟩ ⟨(by show _ ≤ fr0 + 8; omega), (by show _ ≤ lo0 + 323; omega)⟩ rfl rfl hl.1 (Nat.le_of_ble_eq_true rfl) d_Pa_ifStatement_98 rfl hcl hsl (Nat.zero_le _) (Nat.zero_le _) ok_8 (t_close_ok r_1 ok_8.2.1) rfl (fun ad_9 st_9 H locs w_9 ok_9 e1_9 e2_9 hP hD hS => ?_)
    have hcl := cl_next hcl e1_9
    have hsl := cl_next hsl e2_9
    exact mx_vret (stF := st_9) hx hb hr hlocks hK hP hD hS hcl hsl (by unfold f_Pa_ifStatement; rw [bnd_r w_1, bnd_r w_2, bnd_r w_3, bnd_r w_4, bnd_r w_5, if_neg c_6, bnd_r w_8, bnd_r w_9]) ok_9 d_Pa_ifStatement_101
def f_Pa_withStatement (E : Int32 → Int32 → Int32 → ST → Rz) (S : Int32 → Int32 → ST → Rz) (F : Int32 → Int32 → ST → Rz) (st : ST) (depth : Int32) : Rz := (if (coS st) = 0 then (bnd (p_open st 14 0 (sAt st)) (fun r_2 st_2 => (bnd (f_Cu_expect (setAt st_2 ((sAt st_2) + 1)) 60) (fun _ st_3 => (bnd (E (-1) (depth + 1) 1 st_3) (fun _ st_4 => (bnd (f_Cu_expect st_4 61) (fun _ st_5 => (bnd (S (depth + 1) (f_La_count (sLb st_5)) st_5) (fun _ st_6 => (bnd (p_close st_6 r_2) (fun _ st_7 => (some (.inr (0, st_7))))))))))))))) else (bnd (f_Cu_refuse st (sAt st)) (fun _ st_8 => (bnd (p_open st_8 14 0 (sAt st_8)) (fun r_9 st_9 => (bnd (f_Cu_expect (setAt st_9 ((sAt st_9) + 1)) 60) (fun _ st_10 => (bnd (E (-1) (depth + 1) 1 st_10) (fun _ st_11 => (bnd (f_Cu_expect st_11 61) (fun _ st_12 => (bnd (S (depth + 1) (f_La_count (sLb st_12)) st_12) (fun _ st_13 => (bnd (p_close st_13 r_9) (fun _ st_14 => (some (.inr (0, st_14))))))))))))))))))
set_option maxRecDepth 100000 in
set_option maxHeartbeats 4000000 in
theorem m_Pa_withStatement (l : Launch) (hlt : l.stackTraces = false) (dC : Nat → ClassId) (dI : Nat → Nat → Nat) (cI cZ : ClassId) (sa rk hp h a1 a2 a3 a4 ht hq n1 n2 : Nat) (fr0 lo0 : Nat) (E : Int32 → Int32 → Int32 → ST → Rz) (S : Int32 → Int32 → ST → Rz) (F : Int32 → Int32 → ST → Rz) (hRE : ∀ (hc : Nat) (ad : AD) (st : ST), okSt st → ∀ (sz : Nat) (level depth inn : Int32), E level depth inn st ≠ none → cPv l y_Pa_expression c_Pa_expression 6 fr0 lo0 (dC, dI) cI cZ sa rk hp hc h a1 a2 a3 a4 ht hq n1 n2 ad st sz [.ref hp, .int level, .int depth, .int inn] (E level depth inn st)) (hRS : ∀ (hc : Nat) (ad : AD) (st : ST), okSt st → ∀ (sz : Nat) (depth first : Int32), S depth first st ≠ none → cPv l y_Pa_statement c_Pa_statement 4 fr0 lo0 (dC, dI) cI cZ sa rk hp hc h a1 a2 a3 a4 ht hq n1 n2 ad st sz [.ref hp, .int depth, .int first] (S depth first st)) (hRF : ∀ (hc : Nat) (ad : AD) (st : ST), okSt st → ∀ (sz : Nat) (form depth : Int32), F form depth st ≠ none → cPv l y_Pa_function c_Pa_function 10 fr0 lo0 (dC, dI) cI cZ sa rk hp hc h a1 a2 a3 a4 ht hq n1 n2 ad st sz [.ref hp, .int form, .int depth] (F form depth st)) (hc : Nat) (ad : AD) (st : ST) (hst : okSt st) (sz : Nat) (depth : Int32) (hg : f_Pa_withStatement E S F st depth ≠ none) : cPv l y_Pa_withStatement c_Pa_withStatement 3 (fr0 + 8) (lo0 + 323) (dC, dI) cI cZ sa rk hp hc h a1 a2 a3 a4 ht hq n1 n2 ad st sz [.ref hp, .int depth] (f_Pa_withStatement E S F st depth) := by
  refine vx_ofW (cc := c_Pa_withStatement) (maxL := 3) (ret := none) (by decide) rfl ?_
  intro p e s m args below meth c s₁ B hml hnt hv
  obtain ⟨rfl, hsz, hP, hK, hD0, hC, hZ⟩ := hv
  have hx := B.exec
  have hb := B.bytes
  have hr := B.returns
  have hts0 := atoms_spec (ws := wy y_Pa_withStatement c_Pa_withStatement 3 none) B.pre
  have hts := htsL hts0
  have hown : s.vm.findClass R_Pa = some m.cls := findClass_of_methodNamed B.named
  have hlocks := B.notSynchronized
  subst hsz
  have hD := hD0.self (sz := s.heap.size)
  generalize hAe : va_A (wQ cI cZ hp hc h a1 a2 a3 a4 ht hq n1 n2 (ad, st)) s.heap.size = A at hD hZ ⊢
  have hA : ∀ q : Nat, s.heap.size ≤ q → A q := fun q h => by rw [← hAe]; exact Or.inr h
  have hS : va_S A s.heap s.heap [] := va_S.rf
  have hcl : 0 + bC st ≤ bC st := Nat.le_of_eq (Nat.zero_add _)
  have hsl : 0 + bS st ≤ bS st := Nat.le_of_eq (Nat.zero_add _)
  have hl := lv_entry ([.ref hp, .int depth]) (n := 3) (Nat.le_of_ble_eq_true rfl)
  rw [lg_entry_eq]
  generalize (lg_sl ([.ref hp, .int depth]) ++ List.replicate (3 - (lg_sl ([.ref hp, .int depth])).length) Slot.unset).toArray = ls at hl ⊢
  have hl : lv_has ls 3 [(0, .ref hp), (1, .int depth)] := hl
  refine lv_aload_n hx hb d_Pa_withStatement_0 rfl (lv_at hl 0 rfl) ?_
  refine va_get (D := (dC, dI)) (ci := 2) (v := .ref hc) (C := R_Pa) (T := T_Pa) (N := 7) hx hb hts u_Pa hown hK hP 0 rfl rfl 6 (by decide) (hts _ L_221) (fun x9 h9 => u_same (hts _ L_222) x9 h9) rfl d_Pa_withStatement_1 ?_
  refine va_get (D := (dC, dI)) (ci := 0) (v := .int (coS st)) (C := R_Co) (T := T_Co) (N := 5) hx hb hts u_Co hown hK hP 1 rfl rfl 2 (by decide) (hts _ L_174) (fun _ h9 => h9) rfl d_Pa_withStatement_4 ?_
  refine lv_if_eq (tgt := 18) hx hb d_Pa_withStatement_7 (by decide) (fun c_1 => ?_) (fun c_1 => ?_)
  · refine lv_aload_n hx hb d_Pa_withStatement_18 rfl (lv_at hl 0 rfl) ?_
    refine va_get (D := (dC, dI)) (ci := 2) (v := .ref ht) (C := R_Pa) (T := T_Pa) (N := 7) hx hb hts u_Pa hown hK hP 0 rfl rfl 0 (by decide) (hts _ L_208) (fun _ h9 => h9) rfl d_Pa_withStatement_19 ?_
    refine lv_bipush (v := 14) hx hb d_Pa_withStatement_22 (by decide) ?_
    refine lv_iconst (v := 0) hx hb d_Pa_withStatement_24 (by decide) ?_
    refine lv_aload_n hx hb d_Pa_withStatement_25 rfl (lv_at hl 0 rfl) ?_
    refine va_get (D := (dC, dI)) (ci := 2) (v := .int (sAt st)) (C := R_Pa) (T := T_Pa) (N := 7) hx hb hts u_Pa hown hK hP 0 rfl rfl 4 (by decide) (hts _ L_215) (fun x9 h9 => u_same (hts _ L_216) x9 h9) rfl d_Pa_withStatement_26 ?_
    have hn_2 : (p_open st 14 0 (sAt st)) ≠ none := (fun z => hg (by unfold f_Pa_withStatement; rw [if_pos c_1, bnd_n z]))
    refine pT_i (g := (p_open st 14 0 (sAt st))) (st := st) (As := [.int 14, .int 0, .int (sAt st)]) (rest := []) ⟨hx, hb, hml, hown, hts0⟩ (m_Tr_open l dC dI cI cZ sa rk ht ad (sTr st) hst.2.1 _ 14 0 (sAt st) (p_open_c hn_2).1 (p_open_c hn_2).2.1) hP hD hK hS hA hC hZ L_416 L_417 L_418 L_85 L_419 ⟨rfl, k_Tr_open⟩ ⟨(by show _ ≤ fr0 + 8; omega), (by show _ ≤ lo0 + 323; omega)⟩ rfl rfl hl.1 (Nat.le_of_ble_eq_true rfl) d_Pa_withStatement_29 rfl hcl hsl (p_open_c hn_2).2.2.1 (p_open_c hn_2).2.2.2 hst (t_open_ok 14 0 (sAt st) hst.2.1 (p_open_c hn_2).1 (p_open_c hn_2).2.1) (p_open_e hn_2) (fun r_2 ad_2 st_2 H locs w_2 ok_2 e1_2 e2_2 hP hD hS => ?_)
    have hcl := cl_next hcl e1_2
    have hsl := cl_next hsl e2_2
    refine lv_istore_n (lv' := [(2, .int r_2), (0, .ref hp), (1, .int depth)]) hx hb d_Pa_withStatement_32 rfl hl (by decide) rfl (fun ls hl => ?_)
    refine lv_aload_n hx hb d_Pa_withStatement_33 rfl (lv_at hl 1 rfl) ?_
    refine lv_dup hx hb d_Pa_withStatement_34 rfl ?_
    refine va_get (D := (dC, dI)) (ci := 2) (v := .int (sAt st_2)) (C := R_Pa) (T := T_Pa) (N := 7) hx hb hts u_Pa hown hK hP 0 rfl rfl 4 (by decide) (hts _ L_215) (fun x9 h9 => u_same (hts _ L_216) x9 h9) rfl d_Pa_withStatement_35 ?_
    refine lv_iconst (v := 1) hx hb d_Pa_withStatement_38 (by decide) ?_
    refine lv_iadd hx hb d_Pa_withStatement_39 ?_
    refine va_put (D := (dC, dI)) (ci := 2) (v := .int ((sAt st_2) + 1)) (ty := .int) (C := R_Pa) (T := T_Pa) (N := 7) hx hb hts u_Pa ty_Pa tk_Pa nm_Pa hown hK hP hD hS 0 rfl rfl 4 (by decide) (hts _ L_215) (fun x9 h9 => u_same (hts _ L_216) x9 h9) rfl (by decide +kernel) rfl rfl (Nat.le_of_ble_eq_true rfl) d_Pa_withStatement_40 (fun H locs hP hD hS => ?_)
    have hP : va_P (dC, dI) cls (wQ cI cZ hp hc h a1 a2 a3 a4 ht hq n1 n2 (ad_2, (setAt st_2 ((sAt st_2) + 1)))) H := hP
    have hD : va_D A (wQ cI cZ hp hc h a1 a2 a3 a4 ht hq n1 n2 (ad_2, (setAt st_2 ((sAt st_2) + 1)))) := hD
    refine lv_aload_n hx hb d_Pa_withStatement_43 rfl (lv_at hl 1 rfl) ?_
    refine lv_bipush (v := 60) hx hb d_Pa_withStatement_44 (by decide) ?_
    refine mx_Uv (xm := ⟨"SyntaxTree$Parser", "expect", "(I)V"⟩) (owner := R_Cu) (As := [.int 60]) (rest := []) ⟨hx, hb, hml, hown, hts0⟩ (m_Cu_expect l hlt dC dI cI cZ sa rk hp hc h a1 a2 a3 a4 ht hq n1 n2 ad_2 (setAt st_2 ((sAt st_2) + 1)) (show okSt (setAt st_2 ((sAt st_2) + 1)) from ⟨ok_2.1, ok_2.2.1, ok_2.2.2.1, ok_2.2.2.2⟩) _ 60 (fun z => hg (by unfold f_Pa_withStatement; rw [if_pos c_1, bnd_r w_2, bnd_n z]))) hP hD hK hS hA hC hZ hnt hlocks L_510 L_511 L_513 L_514 L_86 L_515 rfl k_Cu_expect ⟨(by show _ ≤ fr0 + 8; omega), (by show _ ≤ lo0 + 323; omega)⟩ rfl rfl hl.1 (Nat.le_of_ble_eq_true rfl) d_Pa_withStatement_46 rfl (fun q z => by unfold f_Pa_withStatement; rw [if_pos c_1, bnd_r w_2, bnd_l z]) hcl hsl (fun ad_3 st_3 H locs w_3 ok_3 e1_3 e2_3 hP hD hS => ?_)
    have hcl := cl_next hcl e1_3
    have hsl := cl_next hsl e2_3
    refine lv_aload_n hx hb d_Pa_withStatement_49 rfl (lv_at hl 1 rfl) ?_
    refine lv_iconst (v := (-1)) hx hb d_Pa_withStatement_50 (by decide) ?_
    refine lv_iload_n hx hb d_Pa_withStatement_51 rfl (lv_at hl 2 rfl) ?_
    refine lv_iconst (v := 1) hx hb d_Pa_withStatement_52 (by decide) ?_
    refine lv_iadd hx hb d_Pa_withStatement_53 ?_
    refine lv_iconst (v := 1) hx hb d_Pa_withStatement_54 (by decide) ?_
    refine mx_Vv (As := [.int (-1), .int (depth + 1), .int 1]) (rest := []) ⟨hx, hb, hml, hown, hts0⟩ (hRE hc ad_3 st_3 ok_3 _ (-1) (depth + 1) 1 (fun z => hg (by unfold f_Pa_withStatement; rw [if_pos c_1, bnd_r w_2, bnd_r w_3, bnd_n z]))) hP hD hK hS hA hC hZ hnt hlocks L_569 L_571 L_12 L_87 L_572 k_Pa_expression ⟨(by show _ ≤ fr0 + 8; omega), (by show _ ≤ lo0 + 323; omega)⟩ rfl rfl hl.1 (Nat.le_of_ble_eq_true rfl) d_Pa_withStatement_55 rfl (fun q z => by unfold f_Pa_withStatement; rw [if_pos c_1, bnd_r w_2, bnd_r w_3, bnd_l z]) hcl hsl (fun ad_4 st_4 H locs w_4 ok_4 e1_4 e2_4 hP hD hS => ?_)
    have hcl := cl_next hcl e1_4
    have hsl := cl_next hsl e2_4
    refine lv_aload_n hx hb d_Pa_withStatement_58 rfl (lv_at hl 1 rfl) ?_
    refine lv_bipush (v := 61) hx hb d_Pa_withStatement_59 (by decide) ?_
    refine mx_Uv (xm := ⟨"SyntaxTree$Parser", "expect", "(I)V"⟩) (owner := R_Cu) (As := [.int 61]) (rest := []) ⟨hx, hb, hml, hown, hts0⟩ (m_Cu_expect l hlt dC dI cI cZ sa rk hp hc h a1 a2 a3 a4 ht hq n1 n2 ad_4 st_4 ok_4 _ 61 (fun z => hg (by unfold f_Pa_withStatement; rw [if_pos c_1, bnd_r w_2, bnd_r w_3, bnd_r w_4, bnd_n z]))) hP hD hK hS hA hC hZ hnt hlocks L_510 L_511 L_513 L_514 L_86 L_515 rfl k_Cu_expect ⟨(by show _ ≤ fr0 + 8; omega), (by show _ ≤ lo0 + 323; omega)⟩ rfl rfl hl.1 (Nat.le_of_ble_eq_true rfl) d_Pa_withStatement_61 rfl (fun q z => by unfold f_Pa_withStatement; rw [if_pos c_1, bnd_r w_2, bnd_r w_3, bnd_r w_4, bnd_l z]) hcl hsl (fun ad_5 st_5 H locs w_5 ok_5 e1_5 e2_5 hP hD hS => ?_)
    have hcl := cl_next hcl e1_5
    have hsl := cl_next hsl e2_5
    refine lv_aload_n hx hb d_Pa_withStatement_64 rfl (lv_at hl 1 rfl) ?_
    refine lv_iload_n hx hb d_Pa_withStatement_65 rfl (lv_at hl 2 rfl) ?_
    refine lv_iconst (v := 1) hx hb d_Pa_withStatement_66 (by decide) ?_
    refine lv_iadd hx hb d_Pa_withStatement_67 ?_
    refine lv_aload_n hx hb d_Pa_withStatement_68 rfl (lv_at hl 1 rfl) ?_
    refine va_get (D := (dC, dI)) (ci := 2) (v := .ref hq) (C := R_Pa) (T := T_Pa) (N := 7) hx hb hts u_Pa hown hK hP 0 rfl rfl 1 (by decide) (hts _ L_209) (fun _ h9 => h9) rfl d_Pa_withStatement_69 ?_
    refine rd_V (v := (f_La_count (sLb st_5))) (As := []) (rest := [.int (depth + 1), .ref hp]) ⟨hx, hb, hml, hown, hts0⟩ (m_La_count l dC dI cI cZ hq n1 n2 (sLb st_5) ok_5.2.2.1 ) hP hK [12, 13, 14] rfl [0, 1] rfl 0 1 rfl rfl L_552 L_553 L_554 L_89 L_555 ⟨rfl, k_La_count⟩ ⟨(by show _ ≤ fr0 + 8; omega), (by show _ ≤ lo0 + 323; omega)⟩ hl.1 ⟨Nat.le_trans (Nat.le_add_right _ _) hcl, Nat.le_trans (Nat.le_add_right _ _) hsl⟩ (Nat.le_of_ble_eq_true rfl) d_Pa_withStatement_72 rfl ?_
    refine mx_Vv (As := [.int (depth + 1), .int (f_La_count (sLb st_5))]) (rest := []) ⟨hx, hb, hml, hown, hts0⟩ (hRS hc ad_5 st_5 ok_5 _ (depth + 1) (f_La_count (sLb st_5)) (fun z => hg (by unfold f_Pa_withStatement; rw [if_pos c_1, bnd_r w_2, bnd_r w_3, bnd_r w_4, bnd_r w_5, bnd_n z]))) hP hD hK hS hA hC hZ hnt hlocks L_560 L_562 L_10 L_87 L_563 k_Pa_statement ⟨(by show _ ≤ fr0 + 8; omega), (by show _ ≤ lo0 + 323; omega)⟩ rfl rfl hl.1 (Nat.le_of_ble_eq_true rfl) d_Pa_withStatement_75 rfl (fun q z => by unfold f_Pa_withStatement; rw [if_pos c_1, bnd_r w_2, bnd_r w_3, bnd_r w_4, bnd_r w_5, bnd_l z]) hcl hsl (fun ad_6 st_6 H locs w_6 ok_6 e1_6 e2_6 hP hD hS => ?_)
    have hcl := cl_next hcl e1_6
    have hsl := cl_next hsl e2_6
    refine lv_aload_n hx hb d_Pa_withStatement_78 rfl (lv_at hl 1 rfl) ?_
    refine va_get (D := (dC, dI)) (ci := 2) (v := .ref ht) (C := R_Pa) (T := T_Pa) (N := 7) hx hb hts u_Pa hown hK hP 0 rfl rfl 0 (by decide) (hts _ L_208) (fun _ h9 => h9) rfl d_Pa_withStatement_79 ?_
    refine lv_iload_n hx hb d_Pa_withStatement_82 rfl (lv_at hl 0 rfl) ?_
    refine pT_v (g := (p_close st_6 r_2)) (st := st_6) (As := [.int r_2]) (rest := []) ⟨hx, hb, hml, hown, hts0⟩ (m_Tr_close l dC dI cI cZ sa rk ht ad_6 (sTr st_6) ok_6.2.1 _ r_2) hP hD hK hS hA hC hZ L_582 L_583 L_584 L_85 L_585 ⟨rfl, k_Tr_close⟩ ⟨(by show _ ≤ fr0 + 8; omega), (by show _ ≤ lo0 + 323; omega)⟩ rfl rfl hl.1 (Nat.le_of_ble_eq_true rfl) d_Pa_withStatement_83 rfl hcl hsl (Nat.zero_le _) (Nat.zero_le _) ok_6 (t_close_ok r_2 ok_6.2.1) rfl (fun ad_7 st_7 H locs w_7 ok_7 e1_7 e2_7 hP hD hS => ?_)
    have hcl := cl_next hcl e1_7
    have hsl := cl_next hsl e2_7
    exact mx_vret (stF := st_7) hx hb hr hlocks hK hP hD hS hcl hsl (by unfold f_Pa_withStatement; rw [if_pos c_1, bnd_r w_2, bnd_r w_3, bnd_r w_4, bnd_r w_5, bnd_r w_6, bnd_r w_7]) ok_7 d_Pa_withStatement_86
  · refine lv_aload_n hx hb d_Pa_withStatement_10 rfl (lv_at hl 0 rfl) ?_
    refine lv_aload_n hx hb d_Pa_withStatement_11 rfl (lv_at hl 0 rfl) ?_
    refine va_get (D := (dC, dI)) (ci := 2) (v := .int (sAt st)) (C := R_Pa) (T := T_Pa) (N := 7) hx hb hts u_Pa hown hK hP 0 rfl rfl 4 (by decide) (hts _ L_215) (fun x9 h9 => u_same (hts _ L_216) x9 h9) rfl d_Pa_withStatement_12 ?_
    refine mx_Uv (xm := ⟨"SyntaxTree$Parser", "refuse", "(I)V"⟩) (owner := R_Cu) (As := [.int (sAt st)]) (rest := []) ⟨hx, hb, hml, hown, hts0⟩ (m_Cu_refuse l hlt dC dI cI cZ sa rk hp hc h a1 a2 a3 a4 ht hq n1 n2 ad st hst _ (sAt st) (fun z => hg (by unfold f_Pa_withStatement; rw [if_neg c_1, bnd_n z]))) hP hD hK hS hA hC hZ hnt hlocks L_536 L_537 L_539 L_460 L_86 L_463 rfl k_Cu_refuse ⟨(by show _ ≤ fr0 + 8; omega), (by show _ ≤ lo0 + 323; omega)⟩ rfl rfl hl.1 (Nat.le_of_ble_eq_true rfl) d_Pa_withStatement_15 rfl (fun q z => by unfold f_Pa_withStatement; rw [if_neg c_1, bnd_l z]) hcl hsl (fun ad_8 st_8 H locs w_8 ok_8 e1_8 e2_8 hP hD hS => ?_)
    have hcl := cl_next hcl e1_8
    have hsl := cl_next hsl e2_8
    refine lv_aload_n hx hb d_Pa_withStatement_18 rfl (lv_at hl 0 rfl) ?_
    refine va_get (D := (dC, dI)) (ci := 2) (v := .ref ht) (C := R_Pa) (T := T_Pa) (N := 7) hx hb hts u_Pa hown hK hP 0 rfl rfl 0 (by decide) (hts _ L_208) (fun _ h9 => h9) rfl d_Pa_withStatement_19 ?_
    refine lv_bipush (v := 14) hx hb d_Pa_withStatement_22 (by decide) ?_
    refine lv_iconst (v := 0) hx hb d_Pa_withStatement_24 (by decide) ?_
    refine lv_aload_n hx hb d_Pa_withStatement_25 rfl (lv_at hl 0 rfl) ?_
    refine va_get (D := (dC, dI)) (ci := 2) (v := .int (sAt st_8)) (C := R_Pa) (T := T_Pa) (N := 7) hx hb hts u_Pa hown hK hP 0 rfl rfl 4 (by decide) (hts _ L_215) (fun x9 h9 => u_same (hts _ L_216) x9 h9) rfl d_Pa_withStatement_26 ?_
    have hn_9 : (p_open st_8 14 0 (sAt st_8)) ≠ none := (fun z => hg (by unfold f_Pa_withStatement; rw [if_neg c_1, bnd_r w_8, bnd_n z]))
    refine pT_i (g := (p_open st_8 14 0 (sAt st_8))) (st := st_8) (As := [.int 14, .int 0, .int (sAt st_8)]) (rest := []) ⟨hx, hb, hml, hown, hts0⟩ (m_Tr_open l dC dI cI cZ sa rk ht ad_8 (sTr st_8) ok_8.2.1 _ 14 0 (sAt st_8) (p_open_c hn_9).1 (p_open_c hn_9).2.1) hP hD hK hS hA hC hZ L_416 L_417 L_418 L_85 L_419 ⟨rfl, k_Tr_open⟩ ⟨(by show _ ≤ fr0 + 8; omega), (by show _ ≤ lo0 + 323; omega)⟩ rfl rfl hl.1 (Nat.le_of_ble_eq_true rfl) d_Pa_withStatement_29 rfl hcl hsl (p_open_c hn_9).2.2.1 (p_open_c hn_9).2.2.2 ok_8 (t_open_ok 14 0 (sAt st_8) ok_8.2.1 (p_open_c hn_9).1 (p_open_c hn_9).2.1) (p_open_e hn_9) (fun r_9 ad_9 st_9 H locs w_9 ok_9 e1_9 e2_9 hP hD hS => ?_)
    have hcl := cl_next hcl e1_9
    have hsl := cl_next hsl e2_9
    refine lv_istore_n (lv' := [(2, .int r_9), (0, .ref hp), (1, .int depth)]) hx hb d_Pa_withStatement_32 rfl hl (by decide) rfl (fun ls hl => ?_)
    refine lv_aload_n hx hb d_Pa_withStatement_33 rfl (lv_at hl 1 rfl) ?_
    refine lv_dup hx hb d_Pa_withStatement_34 rfl ?_
    refine va_get (D := (dC, dI)) (ci := 2) (v := .int (sAt st_9)) (C := R_Pa) (T := T_Pa) (N := 7) hx hb hts u_Pa hown hK hP 0 rfl rfl 4 (by decide) (hts _ L_215) (fun x9 h9 => u_same (hts _ L_216) x9 h9) rfl d_Pa_withStatement_35 ?_
    refine lv_iconst (v := 1) hx hb d_Pa_withStatement_38 (by decide) ?_
    refine lv_iadd hx hb d_Pa_withStatement_39 ?_
    refine va_put (D := (dC, dI)) (ci := 2) (v := .int ((sAt st_9) + 1)) (ty := .int) (C := R_Pa) (T := T_Pa) (N := 7) hx hb hts u_Pa ty_Pa tk_Pa nm_Pa hown hK hP hD hS 0 rfl rfl 4 (by decide) (hts _ L_215) (fun x9 h9 => u_same (hts _ L_216) x9 h9) rfl (by decide +kernel) rfl rfl (Nat.le_of_ble_eq_true rfl) d_Pa_withStatement_40 (fun H locs hP hD hS => ?_)
    have hP : va_P (dC, dI) cls (wQ cI cZ hp hc h a1 a2 a3 a4 ht hq n1 n2 (ad_9, (setAt st_9 ((sAt st_9) + 1)))) H := hP
    have hD : va_D A (wQ cI cZ hp hc h a1 a2 a3 a4 ht hq n1 n2 (ad_9, (setAt st_9 ((sAt st_9) + 1)))) := hD
    refine lv_aload_n hx hb d_Pa_withStatement_43 rfl (lv_at hl 1 rfl) ?_
    refine lv_bipush (v := 60) hx hb d_Pa_withStatement_44 (by decide) ?_
    refine mx_Uv (xm := ⟨"SyntaxTree$Parser", "expect", "(I)V"⟩) (owner := R_Cu) (As := [.int 60]) (rest := []) ⟨hx, hb, hml, hown, hts0⟩ (m_Cu_expect l hlt dC dI cI cZ sa rk hp hc h a1 a2 a3 a4 ht hq n1 n2 ad_9 (setAt st_9 ((sAt st_9) + 1)) (show okSt (setAt st_9 ((sAt st_9) + 1)) from ⟨ok_9.1, ok_9.2.1, ok_9.2.2.1, ok_9.2.2.2⟩) _ 60 (fun z => hg (by unfold f_Pa_withStatement; rw [if_neg c_1, bnd_r w_8, bnd_r w_9, bnd_n z]))) hP hD hK hS hA hC hZ hnt hlocks L_510 L_511 L_513 L_514 L_86 L_515 rfl k_Cu_expect ⟨(by show _ ≤ fr0 + 8; omega), (by show _ ≤ lo0 + 323; omega)⟩ rfl rfl hl.1 (Nat.le_of_ble_eq_true rfl) d_Pa_withStatement_46 rfl (fun q z => by unfold f_Pa_withStatement; rw [if_neg c_1, bnd_r w_8, bnd_r w_9, bnd_l z]) hcl hsl (fun ad_10 st_10 H locs w_10 ok_10 e1_10 e2_10 hP hD hS => ?_)
    have hcl := cl_next hcl e1_10
    have hsl := cl_next hsl e2_10
    refine lv_aload_n hx hb d_Pa_withStatement_49 rfl (lv_at hl 1 rfl) ?_
    refine lv_iconst (v := (-1)) hx hb d_Pa_withStatement_50 (by decide) ?_
    refine lv_iload_n hx hb d_Pa_withStatement_51 rfl (lv_at hl 2 rfl) ?_
    refine lv_iconst (v := 1) hx hb d_Pa_withStatement_52 (by decide) ?_
    refine lv_iadd hx hb d_Pa_withStatement_53 ?_
    refine lv_iconst (v := 1) hx hb d_Pa_withStatement_54 (by decide) ?_
    refine mx_Vv (As := [.int (-1), .int (depth + 1), .int 1]) (rest := []) ⟨hx, hb, hml, hown, hts0⟩ (hRE hc ad_10 st_10 ok_10 _ (-1) (depth + 1) 1 (fun z => hg (by unfold f_Pa_withStatement; rw [if_neg c_1, bnd_r w_8, bnd_r w_9, bnd_r w_10, bnd_n z]))) hP hD hK hS hA hC hZ hnt hlocks L_569 L_571 L_12 L_87 L_572 k_Pa_expression ⟨(by show _ ≤ fr0 + 8; omega), (by show _ ≤ lo0 + 323; omega)⟩ rfl rfl hl.1 (Nat.le_of_ble_eq_true rfl) d_Pa_withStatement_55 rfl (fun q z => by unfold f_Pa_withStatement; rw [if_neg c_1, bnd_r w_8, bnd_r w_9, bnd_r w_10, bnd_l z]) hcl hsl (fun ad_11 st_11 H locs w_11 ok_11 e1_11 e2_11 hP hD hS => ?_)
    have hcl := cl_next hcl e1_11
    have hsl := cl_next hsl e2_11
    refine lv_aload_n hx hb d_Pa_withStatement_58 rfl (lv_at hl 1 rfl) ?_
    refine lv_bipush (v := 61) hx hb d_Pa_withStatement_59 (by decide) ?_
    refine mx_Uv (xm := ⟨"SyntaxTree$Parser", "expect", "(I)V"⟩) (owner := R_Cu) (As := [.int 61]) (rest := []) ⟨hx, hb, hml, hown, hts0⟩ (m_Cu_expect l hlt dC dI cI cZ sa rk hp hc h a1 a2 a3 a4 ht hq n1 n2 ad_11 st_11 ok_11 _ 61 (fun z => hg (by unfold f_Pa_withStatement; rw [if_neg c_1, bnd_r w_8, bnd_r w_9, bnd_r w_10, bnd_r w_11, bnd_n z]))) hP hD hK hS hA hC hZ hnt hlocks L_510 L_511 L_513 L_514 L_86 L_515 rfl k_Cu_expect ⟨(by show _ ≤ fr0 + 8; omega), (by show _ ≤ lo0 + 323; omega)⟩ rfl rfl hl.1 (Nat.le_of_ble_eq_true rfl) d_Pa_withStatement_61 rfl (fun q z => by unfold f_Pa_withStatement; rw [if_neg c_1, bnd_r w_8, bnd_r w_9, bnd_r w_10, bnd_r w_11, bnd_l z]) hcl hsl (fun ad_12 st_12 H locs w_12 ok_12 e1_12 e2_12 hP hD hS => ?_)
    have hcl := cl_next hcl e1_12
    have hsl := cl_next hsl e2_12
    refine lv_aload_n hx hb d_Pa_withStatement_64 rfl (lv_at hl 1 rfl) ?_
    refine lv_iload_n hx hb d_Pa_withStatement_65 rfl (lv_at hl 2 rfl) ?_
    refine lv_iconst (v := 1) hx hb d_Pa_withStatement_66 (by decide) ?_
    refine lv_iadd hx hb d_Pa_withStatement_67 ?_
    refine lv_aload_n hx hb d_Pa_withStatement_68 rfl (lv_at hl 1 rfl) ?_
    refine va_get (D := (dC, dI)) (ci := 2) (v := .ref hq) (C := R_Pa) (T := T_Pa) (N := 7) hx hb hts u_Pa hown hK hP 0 rfl rfl 1 (by decide) (hts _ L_209) (fun _ h9 => h9) rfl d_Pa_withStatement_69 ?_
    refine rd_V (v := (f_La_count (sLb st_12))) (As := []) (rest := [.int (depth + 1), .ref hp]) ⟨hx, hb, hml, hown, hts0⟩ (m_La_count l dC dI cI cZ hq n1 n2 (sLb st_12) ok_12.2.2.1 ) hP hK [12, 13, 14] rfl [0, 1] rfl 0 1 rfl rfl L_552 L_553 L_554 L_89 L_555 ⟨rfl, k_La_count⟩ ⟨(by show _ ≤ fr0 + 8; omega), (by show _ ≤ lo0 + 323; omega)⟩ hl.1 ⟨Nat.le_trans (Nat.le_add_right _ _) hcl, Nat.le_trans (Nat.le_add_right _ _) hsl⟩ (Nat.le_of_ble_eq_true rfl) d_Pa_withStatement_72 rfl ?_
    refine mx_Vv (As := [.int (depth + 1), .int (f_La_count (sLb st_12))]) (rest := []) ⟨hx, hb, hml, hown, hts0⟩ (hRS hc ad_12 st_12 ok_12 _ (depth + 1) (f_La_count (sLb st_12)) (fun z => hg (by unfold f_Pa_withStatement; rw [if_neg c_1, bnd_r w_8, bnd_r w_9, bnd_r w_10, bnd_r w_11, bnd_r w_12, bnd_n z]))) hP hD hK hS hA hC hZ hnt hlocks L_560 L_562 L_10 L_87 L_563 k_Pa_statement ⟨(by show _ ≤ fr0 + 8; omega), (by show _ ≤ lo0 + 323; omega)⟩ rfl rfl hl.1 (Nat.le_of_ble_eq_true rfl) d_Pa_withStatement_75 rfl (fun q z => by unfold f_Pa_withStatement; rw [if_neg c_1, bnd_r w_8, bnd_r w_9, bnd_r w_10, bnd_r w_11, bnd_r w_12, bnd_l z]) hcl hsl (fun ad_13 st_13 H locs w_13 ok_13 e1_13 e2_13 hP hD hS => ?_)
    have hcl := cl_next hcl e1_13
    have hsl := cl_next hsl e2_13
    refine lv_aload_n hx hb d_Pa_withStatement_78 rfl (lv_at hl 1 rfl) ?_
    refine va_get (D := (dC, dI)) (ci := 2) (v := .ref ht) (C := R_Pa) (T := T_Pa) (N := 7) hx hb hts u_Pa hown hK hP 0 rfl rfl 0 (by decide) (hts _ L_208) (fun _ h9 => h9) rfl d_Pa_withStatement_79 ?_
    refine lv_iload_n hx hb d_Pa_withStatement_82 rfl (lv_at hl 0 rfl) ?_
    refine pT_v (g := (p_close st_13 r_9)) (st := st_13) (As := [.int r_9]) (rest := []) ⟨hx, hb, hml, hown, hts0⟩ (m_Tr_close l dC dI cI cZ sa rk ht ad_13 (sTr st_13) ok_13.2.1 _ r_9) hP hD hK hS hA hC hZ L_582 L_583 L_584 L_85 L_585 ⟨rfl, k_Tr_close⟩ ⟨(by show _ ≤ fr0 + 8; omega), (by show _ ≤ lo0 + 323; omega)⟩ rfl rfl hl.1 (Nat.le_of_ble_eq_true rfl) d_Pa_withStatement_83 rfl hcl hsl (Nat.zero_le _) (Nat.zero_le _) ok_13 (t_close_ok r_9 ok_13.2.1) rfl (fun ad_14 st_14 H locs w_14 ok_14 e1_14 e2_14 hP hD hS => ?_)
    have hcl := cl_next hcl e1_14
    have hsl := cl_next hsl e2_14
    exact mx_vret (stF := st_14) hx hb hr hlocks hK hP hD hS hcl hsl (by unfold f_Pa_withStatement; rw [if_neg c_1, bnd_r w_8, bnd_r w_9, bnd_r w_10, bnd_r w_11, bnd_r w_12, bnd_r w_13, bnd_r w_14]) ok_14 d_Pa_withStatement_86
def f_Pa_throwStatement (E : Int32 → Int32 → Int32 → ST → Rz) (S : Int32 → Int32 → ST → Rz) (F : Int32 → Int32 → ST → Rz) (st : ST) (depth : Int32) : Rz := (bnd (p_open st 19 0 (sAt st)) (fun r_1 st_1 => (if (f_Tk_line (sTk st_1) ((sAt st_1) + 1)) = 0 then (bnd (E (-1) (depth + 1) 1 (setAt st_1 ((sAt st_1) + 1))) (fun _ st_3 => (bnd (f_Cu_semicolon st_3) (fun _ st_4 => (bnd (p_close st_4 r_1) (fun _ st_5 => (some (.inr (0, st_5))))))))) else (bnd (f_Cu_refuse (setAt st_1 ((sAt st_1) + 1)) ((sAt st_1) + 1)) (fun _ st_6 => (bnd (E (-1) (depth + 1) 1 st_6) (fun _ st_7 => (bnd (f_Cu_semicolon st_7) (fun _ st_8 => (bnd (p_close st_8 r_1) (fun _ st_9 => (some (.inr (0, st_9))))))))))))))
set_option maxRecDepth 100000 in
set_option maxHeartbeats 4000000 in
theorem m_Pa_throwStatement (l : Launch) (hlt : l.stackTraces = false) (dC : Nat → ClassId) (dI : Nat → Nat → Nat) (cI cZ : ClassId) (sa rk hp h a1 a2 a3 a4 ht hq n1 n2 : Nat) (fr0 lo0 : Nat) (E : Int32 → Int32 → Int32 → ST → Rz) (S : Int32 → Int32 → ST → Rz) (F : Int32 → Int32 → ST → Rz) (hRE : ∀ (hc : Nat) (ad : AD) (st : ST), okSt st → ∀ (sz : Nat) (level depth inn : Int32), E level depth inn st ≠ none → cPv l y_Pa_expression c_Pa_expression 6 fr0 lo0 (dC, dI) cI cZ sa rk hp hc h a1 a2 a3 a4 ht hq n1 n2 ad st sz [.ref hp, .int level, .int depth, .int inn] (E level depth inn st)) (hRS : ∀ (hc : Nat) (ad : AD) (st : ST), okSt st → ∀ (sz : Nat) (depth first : Int32), S depth first st ≠ none → cPv l y_Pa_statement c_Pa_statement 4 fr0 lo0 (dC, dI) cI cZ sa rk hp hc h a1 a2 a3 a4 ht hq n1 n2 ad st sz [.ref hp, .int depth, .int first] (S depth first st)) (hRF : ∀ (hc : Nat) (ad : AD) (st : ST), okSt st → ∀ (sz : Nat) (form depth : Int32), F form depth st ≠ none → cPv l y_Pa_function c_Pa_function 10 fr0 lo0 (dC, dI) cI cZ sa rk hp hc h a1 a2 a3 a4 ht hq n1 n2 ad st sz [.ref hp, .int form, .int depth] (F form depth st)) (hc : Nat) (ad : AD) (st : ST) (hst : okSt st) (sz : Nat) (depth : Int32) (hg : f_Pa_throwStatement E S F st depth ≠ none) : cPv l y_Pa_throwStatement c_Pa_throwStatement 3 (fr0 + 8) (lo0 + 323) (dC, dI) cI cZ sa rk hp hc h a1 a2 a3 a4 ht hq n1 n2 ad st sz [.ref hp, .int depth] (f_Pa_throwStatement E S F st depth) := by
  refine vx_ofW (cc := c_Pa_throwStatement) (maxL := 3) (ret := none) (by decide) rfl ?_
  intro p e s m args below meth c s₁ B hml hnt hv
  obtain ⟨rfl, hsz, hP, hK, hD0, hC, hZ⟩ := hv
  have hx := B.exec
  have hb := B.bytes
  have hr := B.returns
  have hts0 := atoms_spec (ws := wy y_Pa_throwStatement c_Pa_throwStatement 3 none) B.pre
  have hts := htsL hts0
  have hown : s.vm.findClass R_Pa = some m.cls := findClass_of_methodNamed B.named
  have hlocks := B.notSynchronized
  subst hsz
  have hD := hD0.self (sz := s.heap.size)
  generalize hAe : va_A (wQ cI cZ hp hc h a1 a2 a3 a4 ht hq n1 n2 (ad, st)) s.heap.size = A at hD hZ ⊢
  have hA : ∀ q : Nat, s.heap.size ≤ q → A q := fun q h => by rw [← hAe]; exact Or.inr h
  have hS : va_S A s.heap s.heap [] := va_S.rf
  have hcl : 0 + bC st ≤ bC st := Nat.le_of_eq (Nat.zero_add _)
  have hsl : 0 + bS st ≤ bS st := Nat.le_of_eq (Nat.zero_add _)
  have hl := lv_entry ([.ref hp, .int depth]) (n := 3) (Nat.le_of_ble_eq_true rfl)
  rw [lg_entry_eq]
  generalize (lg_sl ([.ref hp, .int depth]) ++ List.replicate (3 - (lg_sl ([.ref hp, .int depth])).length) Slot.unset).toArray = ls at hl ⊢
  have hl : lv_has ls 3 [(0, .ref hp), (1, .int depth)] := hl
  refine lv_aload_n hx hb d_Pa_throwStatement_0 rfl (lv_at hl 0 rfl) ?_
  refine va_get (D := (dC, dI)) (ci := 2) (v := .ref ht) (C := R_Pa) (T := T_Pa) (N := 7) hx hb hts u_Pa hown hK hP 0 rfl rfl 0 (by decide) (hts _ L_208) (fun _ h9 => h9) rfl d_Pa_throwStatement_1 ?_
  refine lv_bipush (v := 19) hx hb d_Pa_throwStatement_4 (by decide) ?_
  refine lv_iconst (v := 0) hx hb d_Pa_throwStatement_6 (by decide) ?_
  refine lv_aload_n hx hb d_Pa_throwStatement_7 rfl (lv_at hl 0 rfl) ?_
  refine va_get (D := (dC, dI)) (ci := 2) (v := .int (sAt st)) (C := R_Pa) (T := T_Pa) (N := 7) hx hb hts u_Pa hown hK hP 0 rfl rfl 4 (by decide) (hts _ L_215) (fun x9 h9 => u_same (hts _ L_216) x9 h9) rfl d_Pa_throwStatement_8 ?_
  have hn_1 : (p_open st 19 0 (sAt st)) ≠ none := (fun z => hg (by unfold f_Pa_throwStatement; rw [bnd_n z]))
  refine pT_i (g := (p_open st 19 0 (sAt st))) (st := st) (As := [.int 19, .int 0, .int (sAt st)]) (rest := []) ⟨hx, hb, hml, hown, hts0⟩ (m_Tr_open l dC dI cI cZ sa rk ht ad (sTr st) hst.2.1 _ 19 0 (sAt st) (p_open_c hn_1).1 (p_open_c hn_1).2.1) hP hD hK hS hA hC hZ L_416 L_417 L_418 L_85 L_419 ⟨rfl, k_Tr_open⟩ ⟨(by show _ ≤ fr0 + 8; omega), (by show _ ≤ lo0 + 323; omega)⟩ rfl rfl hl.1 (Nat.le_of_ble_eq_true rfl) d_Pa_throwStatement_11 rfl hcl hsl (p_open_c hn_1).2.2.1 (p_open_c hn_1).2.2.2 hst (t_open_ok 19 0 (sAt st) hst.2.1 (p_open_c hn_1).1 (p_open_c hn_1).2.1) (p_open_e hn_1) (fun r_1 ad_1 st_1 H locs w_1 ok_1 e1_1 e2_1 hP hD hS => ?_)
  have hcl := cl_next hcl e1_1
  have hsl := cl_next hsl e2_1
  refine lv_istore_n (lv' := [(2, .int r_1), (0, .ref hp), (1, .int depth)]) hx hb d_Pa_throwStatement_14 rfl hl (by decide) rfl (fun ls hl => ?_)
  refine lv_aload_n hx hb d_Pa_throwStatement_15 rfl (lv_at hl 1 rfl) ?_
  refine lv_dup hx hb d_Pa_throwStatement_16 rfl ?_
  refine va_get (D := (dC, dI)) (ci := 2) (v := .int (sAt st_1)) (C := R_Pa) (T := T_Pa) (N := 7) hx hb hts u_Pa hown hK hP 0 rfl rfl 4 (by decide) (hts _ L_215) (fun x9 h9 => u_same (hts _ L_216) x9 h9) rfl d_Pa_throwStatement_17 ?_
  refine lv_iconst (v := 1) hx hb d_Pa_throwStatement_20 (by decide) ?_
  refine lv_iadd hx hb d_Pa_throwStatement_21 ?_
  refine va_put (D := (dC, dI)) (ci := 2) (v := .int ((sAt st_1) + 1)) (ty := .int) (C := R_Pa) (T := T_Pa) (N := 7) hx hb hts u_Pa ty_Pa tk_Pa nm_Pa hown hK hP hD hS 0 rfl rfl 4 (by decide) (hts _ L_215) (fun x9 h9 => u_same (hts _ L_216) x9 h9) rfl (by decide +kernel) rfl rfl (Nat.le_of_ble_eq_true rfl) d_Pa_throwStatement_22 (fun H locs hP hD hS => ?_)
  have hP : va_P (dC, dI) cls (wQ cI cZ hp hc h a1 a2 a3 a4 ht hq n1 n2 (ad_1, (setAt st_1 ((sAt st_1) + 1)))) H := hP
  have hD : va_D A (wQ cI cZ hp hc h a1 a2 a3 a4 ht hq n1 n2 (ad_1, (setAt st_1 ((sAt st_1) + 1)))) := hD
  refine lv_aload_n hx hb d_Pa_throwStatement_25 rfl (lv_at hl 1 rfl) ?_
  refine va_get (D := (dC, dI)) (ci := 2) (v := .ref h) (C := R_Pa) (T := T_Pa) (N := 7) hx hb hts u_Pa hown hK hP 0 rfl rfl 3 (by decide) (hts _ L_212) (fun x9 h9 => u_same (hts _ L_213) x9 h9) rfl d_Pa_throwStatement_26 ?_
  refine lv_aload_n hx hb d_Pa_throwStatement_29 rfl (lv_at hl 1 rfl) ?_
  refine va_get (D := (dC, dI)) (ci := 2) (v := .int ((sAt st_1) + 1)) (C := R_Pa) (T := T_Pa) (N := 7) hx hb hts u_Pa hown hK hP 0 rfl rfl 4 (by decide) (hts _ L_215) (fun x9 h9 => u_same (hts _ L_216) x9 h9) rfl d_Pa_throwStatement_30 ?_
  refine rd_V (v := (f_Tk_line (sTk st_1) ((sAt st_1) + 1))) (As := [.int ((sAt st_1) + 1)]) (rest := []) ⟨hx, hb, hml, hown, hts0⟩ (m_Tk_line l dC dI cI cZ h a1 a2 a3 a4 (sTk st_1) ok_1.1 ((sAt st_1) + 1)) hP hK [2, 3, 4, 5, 6] rfl [0, 1] rfl 0 3 rfl rfl L_678 L_679 L_680 L_84 L_681 ⟨rfl, k_Tk_line⟩ ⟨(by show _ ≤ fr0 + 8; omega), (by show _ ≤ lo0 + 323; omega)⟩ hl.1 ⟨Nat.le_trans (Nat.le_add_right _ _) hcl, Nat.le_trans (Nat.le_add_right _ _) hsl⟩ (Nat.le_of_ble_eq_true rfl) d_Pa_throwStatement_33 rfl ?_
  refine lv_if_eq (tgt := 47) hx hb d_Pa_throwStatement_36 (by decide) (fun c_2 => ?_) (fun c_2 => ?_)
  · refine lv_aload_n hx hb d_Pa_throwStatement_47 rfl (lv_at hl 1 rfl) ?_
    refine lv_iconst (v := (-1)) hx hb d_Pa_throwStatement_48 (by decide) ?_
    refine lv_iload_n hx hb d_Pa_throwStatement_49 rfl (lv_at hl 2 rfl) ?_
    refine lv_iconst (v := 1) hx hb d_Pa_throwStatement_50 (by decide) ?_
    refine lv_iadd hx hb d_Pa_throwStatement_51 ?_
    refine lv_iconst (v := 1) hx hb d_Pa_throwStatement_52 (by decide) ?_
    refine mx_Vv (As := [.int (-1), .int (depth + 1), .int 1]) (rest := []) ⟨hx, hb, hml, hown, hts0⟩ (hRE hc ad_1 (setAt st_1 ((sAt st_1) + 1)) (show okSt (setAt st_1 ((sAt st_1) + 1)) from ⟨ok_1.1, ok_1.2.1, ok_1.2.2.1, ok_1.2.2.2⟩) _ (-1) (depth + 1) 1 (fun z => hg (by unfold f_Pa_throwStatement; rw [bnd_r w_1, if_pos c_2, bnd_n z]))) hP hD hK hS hA hC hZ hnt hlocks L_569 L_571 L_12 L_87 L_572 k_Pa_expression ⟨(by show _ ≤ fr0 + 8; omega), (by show _ ≤ lo0 + 323; omega)⟩ rfl rfl hl.1 (Nat.le_of_ble_eq_true rfl) d_Pa_throwStatement_53 rfl (fun q z => by unfold f_Pa_throwStatement; rw [bnd_r w_1, if_pos c_2, bnd_l z]) hcl hsl (fun ad_3 st_3 H locs w_3 ok_3 e1_3 e2_3 hP hD hS => ?_)
    have hcl := cl_next hcl e1_3
    have hsl := cl_next hsl e2_3
    refine lv_aload_n hx hb d_Pa_throwStatement_56 rfl (lv_at hl 1 rfl) ?_
    refine mx_Uv (xm := ⟨"SyntaxTree$Parser", "semicolon", "()V"⟩) (owner := R_Cu) (As := []) (rest := []) ⟨hx, hb, hml, hown, hts0⟩ (m_Cu_semicolon l hlt dC dI cI cZ sa rk hp hc h a1 a2 a3 a4 ht hq n1 n2 ad_3 st_3 ok_3 _  (fun z => hg (by unfold f_Pa_throwStatement; rw [bnd_r w_1, if_pos c_2, bnd_r w_3, bnd_n z]))) hP hD hK hS hA hC hZ hnt hlocks L_711 L_712 L_714 L_715 L_86 L_716 rfl k_Cu_semicolon ⟨(by show _ ≤ fr0 + 8; omega), (by show _ ≤ lo0 + 323; omega)⟩ rfl rfl hl.1 (Nat.le_of_ble_eq_true rfl) d_Pa_throwStatement_57 rfl (fun q z => by unfold f_Pa_throwStatement; rw [bnd_r w_1, if_pos c_2, bnd_r w_3, bnd_l z]) hcl hsl (fun ad_4 st_4 H locs w_4 ok_4 e1_4 e2_4 hP hD hS => ?_)
    have hcl := cl_next hcl e1_4
    have hsl := cl_next hsl e2_4
    refine lv_aload_n hx hb d_Pa_throwStatement_60 rfl (lv_at hl 1 rfl) ?_
    refine va_get (D := (dC, dI)) (ci := 2) (v := .ref ht) (C := R_Pa) (T := T_Pa) (N := 7) hx hb hts u_Pa hown hK hP 0 rfl rfl 0 (by decide) (hts _ L_208) (fun _ h9 => h9) rfl d_Pa_throwStatement_61 ?_
    refine lv_iload_n hx hb d_Pa_throwStatement_64 rfl (lv_at hl 0 rfl) ?_
    refine pT_v (g := (p_close st_4 r_1)) (st := st_4) (As := [.int r_1]) (rest := []) ⟨hx, hb, hml, hown, hts0⟩ (m_Tr_close l dC dI cI cZ sa rk ht ad_4 (sTr st_4) ok_4.2.1 _ r_1) hP hD hK hS hA hC hZ L_582 L_583 L_584 L_85 L_585 ⟨rfl, k_Tr_close⟩ ⟨(by show _ ≤ fr0 + 8; omega), (by show _ ≤ lo0 + 323; omega)⟩ rfl rfl hl.1 (Nat.le_of_ble_eq_true rfl) d_Pa_throwStatement_65 rfl hcl hsl (Nat.zero_le _) (Nat.zero_le _) ok_4 (t_close_ok r_1 ok_4.2.1) rfl (fun ad_5 st_5 H locs w_5 ok_5 e1_5 e2_5 hP hD hS => ?_)
    have hcl := cl_next hcl e1_5
    have hsl := cl_next hsl e2_5
    exact mx_vret (stF := st_5) hx hb hr hlocks hK hP hD hS hcl hsl (by unfold f_Pa_throwStatement; rw [bnd_r w_1, if_pos c_2, bnd_r w_3, bnd_r w_4, bnd_r w_5]) ok_5 d_Pa_throwStatement_68
  · refine lv_aload_n hx hb d_Pa_throwStatement_39 rfl (lv_at hl 1 rfl) ?_
    refine lv_aload_n hx hb d_Pa_throwStatement_40 rfl (lv_at hl 1 rfl) ?_
    refine va_get (D := (dC, dI)) (ci := 2) (v := .int ((sAt st_1) + 1)) (C := R_Pa) (T := T_Pa) (N := 7) hx hb hts u_Pa hown hK hP 0 rfl rfl 4 (by decide) (hts _ L_215) (fun x9 h9 => u_same (hts _ L_216) x9 h9) rfl d_Pa_throwStatement_41 ?_
    refine mx_Uv (xm := ⟨"SyntaxTree$Parser", "refuse", "(I)V"⟩) (owner := R_Cu) (As := [.int ((sAt st_1) + 1)]) (rest := []) ⟨hx, hb, hml, hown, hts0⟩ (m_Cu_refuse l hlt dC dI cI cZ sa rk hp hc h a1 a2 a3 a4 ht hq n1 n2 ad_1 (setAt st_1 ((sAt st_1) + 1)) (show okSt (setAt st_1 ((sAt st_1) + 1)) from ⟨ok_1.1, ok_1.2.1, ok_1.2.2.1, ok_1.2.2.2⟩) _ ((sAt st_1) + 1) (fun z => hg (by unfold f_Pa_throwStatement; rw [bnd_r w_1, if_neg c_2, bnd_n z]))) hP hD hK hS hA hC hZ hnt hlocks L_536 L_537 L_539 L_460 L_86 L_463 rfl k_Cu_refuse ⟨(by show _ ≤ fr0 + 8; omega), (by show _ ≤ lo0 + 323; omega)⟩ rfl rfl hl.1 (Nat.le_of_ble_eq_true rfl) d_Pa_throwStatement_44 rfl (fun q z => by unfold f_Pa_throwStatement; rw [bnd_r w_1, if_neg c_2, bnd_l z]) hcl hsl (fun ad_6 st_6 H locs w_6 ok_6 e1_6 e2_6 hP hD hS => ?_)
    have hcl := cl_next hcl e1_6
    have hsl := cl_next hsl e2_6
    refine lv_aload_n hx hb d_Pa_throwStatement_47 rfl (lv_at hl 1 rfl) ?_
    refine lv_iconst (v := (-1)) hx hb d_Pa_throwStatement_48 (by decide) ?_
    refine lv_iload_n hx hb d_Pa_throwStatement_49 rfl (lv_at hl 2 rfl) ?_
    refine lv_iconst (v := 1) hx hb d_Pa_throwStatement_50 (by decide) ?_
    refine lv_iadd hx hb d_Pa_throwStatement_51 ?_
    refine lv_iconst (v := 1) hx hb d_Pa_throwStatement_52 (by decide) ?_
    refine mx_Vv (As := [.int (-1), .int (depth + 1), .int 1]) (rest := []) ⟨hx, hb, hml, hown, hts0⟩ (hRE hc ad_6 st_6 ok_6 _ (-1) (depth + 1) 1 (fun z => hg (by unfold f_Pa_throwStatement; rw [bnd_r w_1, if_neg c_2, bnd_r w_6, bnd_n z]))) hP hD hK hS hA hC hZ hnt hlocks L_569 L_571 L_12 L_87 L_572 k_Pa_expression ⟨(by show _ ≤ fr0 + 8; omega), (by show _ ≤ lo0 + 323; omega)⟩ rfl rfl hl.1 (Nat.le_of_ble_eq_true rfl) d_Pa_throwStatement_53 rfl (fun q z => by unfold f_Pa_throwStatement; rw [bnd_r w_1, if_neg c_2, bnd_r w_6, bnd_l z]) hcl hsl (fun ad_7 st_7 H locs w_7 ok_7 e1_7 e2_7 hP hD hS => ?_)
    have hcl := cl_next hcl e1_7
    have hsl := cl_next hsl e2_7
    refine lv_aload_n hx hb d_Pa_throwStatement_56 rfl (lv_at hl 1 rfl) ?_
    refine mx_Uv (xm := ⟨"SyntaxTree$Parser", "semicolon", "()V"⟩) (owner := R_Cu) (As := []) (rest := []) ⟨hx, hb, hml, hown, hts0⟩ (m_Cu_semicolon l hlt dC dI cI cZ sa rk hp hc h a1 a2 a3 a4 ht hq n1 n2 ad_7 st_7 ok_7 _  (fun z => hg (by unfold f_Pa_throwStatement; rw [bnd_r w_1, if_neg c_2, bnd_r w_6, bnd_r w_7, bnd_n z]))) hP hD hK hS hA hC hZ hnt hlocks L_711 L_712 L_714 L_715 L_86 L_716 rfl k_Cu_semicolon ⟨(by show _ ≤ fr0 + 8; omega), (by show _ ≤ lo0 + 323; omega)⟩ rfl rfl hl.1 (Nat.le_of_ble_eq_true rfl) d_Pa_throwStatement_57 rfl (fun q z => by unfold f_Pa_throwStatement; rw [bnd_r w_1, if_neg c_2, bnd_r w_6, bnd_r w_7, bnd_l z]) hcl hsl (fun ad_8 st_8 H locs w_8 ok_8 e1_8 e2_8 hP hD hS => ?_)
    have hcl := cl_next hcl e1_8
    have hsl := cl_next hsl e2_8
    refine lv_aload_n hx hb d_Pa_throwStatement_60 rfl (lv_at hl 1 rfl) ?_
    refine va_get (D := (dC, dI)) (ci := 2) (v := .ref ht) (C := R_Pa) (T := T_Pa) (N := 7) hx hb hts u_Pa hown hK hP 0 rfl rfl 0 (by decide) (hts _ L_208) (fun _ h9 => h9) rfl d_Pa_throwStatement_61 ?_
    refine lv_iload_n hx hb d_Pa_throwStatement_64 rfl (lv_at hl 0 rfl) ?_
    refine pT_v (g := (p_close st_8 r_1)) (st := st_8) (As := [.int r_1]) (rest := []) ⟨hx, hb, hml, hown, hts0⟩ (m_Tr_close l dC dI cI cZ sa rk ht ad_8 (sTr st_8) ok_8.2.1 _ r_1) hP hD hK hS hA hC hZ L_582 L_583 L_584 L_85 L_585 ⟨rfl, k_Tr_close⟩ ⟨(by show _ ≤ fr0 + 8; omega), (by show _ ≤ lo0 + 323; omega)⟩ rfl rfl hl.1 (Nat.le_of_ble_eq_true rfl) d_Pa_throwStatement_65 rfl hcl hsl (Nat.zero_le _) (Nat.zero_le _) ok_8 (t_close_ok r_1 ok_8.2.1) rfl (fun ad_9 st_9 H locs w_9 ok_9 e1_9 e2_9 hP hD hS => ?_)
    have hcl := cl_next hcl e1_9
    have hsl := cl_next hsl e2_9
    exact mx_vret (stF := st_9) hx hb hr hlocks hK hP hD hS hcl hsl (by unfold f_Pa_throwStatement; rw [bnd_r w_1, if_neg c_2, bnd_r w_6, bnd_r w_7, bnd_r w_8, bnd_r w_9]) ok_9 d_Pa_throwStatement_68
def f_Pa_returnStatement (E : Int32 → Int32 → Int32 → ST → Rz) (S : Int32 → Int32 → ST → Rz) (F : Int32 → Int32 → ST → Rz) (st : ST) (depth : Int32) : Rz := (if (coF st) = 0 then (bnd (f_Cu_refuse st (sAt st)) (fun _ st_9 => (bnd (p_open st_9 13 0 (sAt st_9)) (fun r_10 st_10 => (if (f_Cu_statementEnds (setAt st_10 ((sAt st_10) + 1))) = 0 then (bnd (E (-1) (depth + 1) 1 (setAt st_10 ((sAt st_10) + 1))) (fun _ st_14 => (bnd (f_Cu_semicolon st_14) (fun _ st_15 => (bnd (p_close st_15 r_10) (fun _ st_16 => (some (.inr (0, st_16))))))))) else (bnd (f_Cu_semicolon (setAt st_10 ((sAt st_10) + 1))) (fun _ st_12 => (bnd (p_close st_12 r_10) (fun _ st_13 => (some (.inr (0, st_13)))))))))))) else (bnd (p_open st 13 0 (sAt st)) (fun r_2 st_2 => (if (f_Cu_statementEnds (setAt st_2 ((sAt st_2) + 1))) = 0 then (bnd (E (-1) (depth + 1) 1 (setAt st_2 ((sAt st_2) + 1))) (fun _ st_6 => (bnd (f_Cu_semicolon st_6) (fun _ st_7 => (bnd (p_close st_7 r_2) (fun _ st_8 => (some (.inr (0, st_8))))))))) else (bnd (f_Cu_semicolon (setAt st_2 ((sAt st_2) + 1))) (fun _ st_4 => (bnd (p_close st_4 r_2) (fun _ st_5 => (some (.inr (0, st_5)))))))))))
set_option maxRecDepth 100000 in
set_option maxHeartbeats 4000000 in
theorem m_Pa_returnStatement (l : Launch) (hlt : l.stackTraces = false) (dC : Nat → ClassId) (dI : Nat → Nat → Nat) (cI cZ : ClassId) (sa rk hp h a1 a2 a3 a4 ht hq n1 n2 : Nat) (fr0 lo0 : Nat) (E : Int32 → Int32 → Int32 → ST → Rz) (S : Int32 → Int32 → ST → Rz) (F : Int32 → Int32 → ST → Rz) (hRE : ∀ (hc : Nat) (ad : AD) (st : ST), okSt st → ∀ (sz : Nat) (level depth inn : Int32), E level depth inn st ≠ none → cPv l y_Pa_expression c_Pa_expression 6 fr0 lo0 (dC, dI) cI cZ sa rk hp hc h a1 a2 a3 a4 ht hq n1 n2 ad st sz [.ref hp, .int level, .int depth, .int inn] (E level depth inn st)) (hRS : ∀ (hc : Nat) (ad : AD) (st : ST), okSt st → ∀ (sz : Nat) (depth first : Int32), S depth first st ≠ none → cPv l y_Pa_statement c_Pa_statement 4 fr0 lo0 (dC, dI) cI cZ sa rk hp hc h a1 a2 a3 a4 ht hq n1 n2 ad st sz [.ref hp, .int depth, .int first] (S depth first st)) (hRF : ∀ (hc : Nat) (ad : AD) (st : ST), okSt st → ∀ (sz : Nat) (form depth : Int32), F form depth st ≠ none → cPv l y_Pa_function c_Pa_function 10 fr0 lo0 (dC, dI) cI cZ sa rk hp hc h a1 a2 a3 a4 ht hq n1 n2 ad st sz [.ref hp, .int form, .int depth] (F form depth st)) (hc : Nat) (ad : AD) (st : ST) (hst : okSt st) (sz : Nat) (depth : Int32) (hg : f_Pa_returnStatement E S F st depth ≠ none) : cPv l y_Pa_returnStatement c_Pa_returnStatement 3 (fr0 + 8) (lo0 + 323) (dC, dI) cI cZ sa rk hp hc h a1 a2 a3 a4 ht hq n1 n2 ad st sz [.ref hp, .int depth] (f_Pa_returnStatement E S F st depth) := by
  refine vx_ofW (cc := c_Pa_returnStatement) (maxL := 3) (ret := none) (by decide) rfl ?_
  intro p e s m args below meth c s₁ B hml hnt hv
  obtain ⟨rfl, hsz, hP, hK, hD0, hC, hZ⟩ := hv
  have hx := B.exec
  have hb := B.bytes
  have hr := B.returns
  have hts0 := atoms_spec (ws := wy y_Pa_returnStatement c_Pa_returnStatement 3 none) B.pre
  have hts := htsL hts0
  have hown : s.vm.findClass R_Pa = some m.cls := findClass_of_methodNamed B.named
  have hlocks := B.notSynchronized
  subst hsz
  have hD := hD0.self (sz := s.heap.size)
  generalize hAe : va_A (wQ cI cZ hp hc h a1 a2 a3 a4 ht hq n1 n2 (ad, st)) s.heap.size = A at hD hZ ⊢
  have hA : ∀ q : Nat, s.heap.size ≤ q → A q := fun q h => by rw [← hAe]; exact Or.inr h
  have hS : va_S A s.heap s.heap [] := va_S.rf
  have hcl : 0 + bC st ≤ bC st := Nat.le_of_eq (Nat.zero_add _)
  have hsl : 0 + bS st ≤ bS st := Nat.le_of_eq (Nat.zero_add _)
  have hl := lv_entry ([.ref hp, .int depth]) (n := 3) (Nat.le_of_ble_eq_true rfl)
  rw [lg_entry_eq]
  generalize (lg_sl ([.ref hp, .int depth]) ++ List.replicate (3 - (lg_sl ([.ref hp, .int depth])).length) Slot.unset).toArray = ls at hl ⊢
  have hl : lv_has ls 3 [(0, .ref hp), (1, .int depth)] := hl
  refine lv_aload_n hx hb d_Pa_returnStatement_0 rfl (lv_at hl 0 rfl) ?_
  refine va_get (D := (dC, dI)) (ci := 2) (v := .ref hc) (C := R_Pa) (T := T_Pa) (N := 7) hx hb hts u_Pa hown hK hP 0 rfl rfl 6 (by decide) (hts _ L_221) (fun x9 h9 => u_same (hts _ L_222) x9 h9) rfl d_Pa_returnStatement_1 ?_
  refine va_get (D := (dC, dI)) (ci := 0) (v := .int (coF st)) (C := R_Co) (T := T_Co) (N := 5) hx hb hts u_Co hown hK hP 1 rfl rfl 0 (by decide) (hts _ L_170) (fun _ h9 => h9) rfl d_Pa_returnStatement_4 ?_
  refine lv_if_ne (tgt := 18) hx hb d_Pa_returnStatement_7 (by decide) (fun c_1 => ?_) (fun c_1 => ?_)
  · refine lv_aload_n hx hb d_Pa_returnStatement_18 rfl (lv_at hl 0 rfl) ?_
    refine va_get (D := (dC, dI)) (ci := 2) (v := .ref ht) (C := R_Pa) (T := T_Pa) (N := 7) hx hb hts u_Pa hown hK hP 0 rfl rfl 0 (by decide) (hts _ L_208) (fun _ h9 => h9) rfl d_Pa_returnStatement_19 ?_
    refine lv_bipush (v := 13) hx hb d_Pa_returnStatement_22 (by decide) ?_
    refine lv_iconst (v := 0) hx hb d_Pa_returnStatement_24 (by decide) ?_
    refine lv_aload_n hx hb d_Pa_returnStatement_25 rfl (lv_at hl 0 rfl) ?_
    refine va_get (D := (dC, dI)) (ci := 2) (v := .int (sAt st)) (C := R_Pa) (T := T_Pa) (N := 7) hx hb hts u_Pa hown hK hP 0 rfl rfl 4 (by decide) (hts _ L_215) (fun x9 h9 => u_same (hts _ L_216) x9 h9) rfl d_Pa_returnStatement_26 ?_
    have hn_2 : (p_open st 13 0 (sAt st)) ≠ none := (fun z => hg (by unfold f_Pa_returnStatement; rw [if_neg c_1, bnd_n z]))
    refine pT_i (g := (p_open st 13 0 (sAt st))) (st := st) (As := [.int 13, .int 0, .int (sAt st)]) (rest := []) ⟨hx, hb, hml, hown, hts0⟩ (m_Tr_open l dC dI cI cZ sa rk ht ad (sTr st) hst.2.1 _ 13 0 (sAt st) (p_open_c hn_2).1 (p_open_c hn_2).2.1) hP hD hK hS hA hC hZ L_416 L_417 L_418 L_85 L_419 ⟨rfl, k_Tr_open⟩ ⟨(by show _ ≤ fr0 + 8; omega), (by show _ ≤ lo0 + 323; omega)⟩ rfl rfl hl.1 (Nat.le_of_ble_eq_true rfl) d_Pa_returnStatement_29 rfl hcl hsl (p_open_c hn_2).2.2.1 (p_open_c hn_2).2.2.2 hst (t_open_ok 13 0 (sAt st) hst.2.1 (p_open_c hn_2).1 (p_open_c hn_2).2.1) (p_open_e hn_2) (fun r_2 ad_2 st_2 H locs w_2 ok_2 e1_2 e2_2 hP hD hS => ?_)
    have hcl := cl_next hcl e1_2
    have hsl := cl_next hsl e2_2
    refine lv_istore_n (lv' := [(2, .int r_2), (0, .ref hp), (1, .int depth)]) hx hb d_Pa_returnStatement_32 rfl hl (by decide) rfl (fun ls hl => ?_)
    refine lv_aload_n hx hb d_Pa_returnStatement_33 rfl (lv_at hl 1 rfl) ?_
    refine lv_dup hx hb d_Pa_returnStatement_34 rfl ?_
    refine va_get (D := (dC, dI)) (ci := 2) (v := .int (sAt st_2)) (C := R_Pa) (T := T_Pa) (N := 7) hx hb hts u_Pa hown hK hP 0 rfl rfl 4 (by decide) (hts _ L_215) (fun x9 h9 => u_same (hts _ L_216) x9 h9) rfl d_Pa_returnStatement_35 ?_
    refine lv_iconst (v := 1) hx hb d_Pa_returnStatement_38 (by decide) ?_
    refine lv_iadd hx hb d_Pa_returnStatement_39 ?_
    refine va_put (D := (dC, dI)) (ci := 2) (v := .int ((sAt st_2) + 1)) (ty := .int) (C := R_Pa) (T := T_Pa) (N := 7) hx hb hts u_Pa ty_Pa tk_Pa nm_Pa hown hK hP hD hS 0 rfl rfl 4 (by decide) (hts _ L_215) (fun x9 h9 => u_same (hts _ L_216) x9 h9) rfl (by decide +kernel) rfl rfl (Nat.le_of_ble_eq_true rfl) d_Pa_returnStatement_40 (fun H locs hP hD hS => ?_)
    have hP : va_P (dC, dI) cls (wQ cI cZ hp hc h a1 a2 a3 a4 ht hq n1 n2 (ad_2, (setAt st_2 ((sAt st_2) + 1)))) H := hP
    have hD : va_D A (wQ cI cZ hp hc h a1 a2 a3 a4 ht hq n1 n2 (ad_2, (setAt st_2 ((sAt st_2) + 1)))) := hD
    refine lv_aload_n hx hb d_Pa_returnStatement_43 rfl (lv_at hl 1 rfl) ?_
    refine rd_U (xm := ⟨"SyntaxTree$Parser", "statementEnds", "()Z"⟩) (owner := R_Cu) (v := (f_Cu_statementEnds (setAt st_2 ((sAt st_2) + 1)))) (As := []) (rest := []) ⟨hx, hb, hml, hown, hts0⟩ (m_Cu_statementEnds l dC dI cI cZ hp hc h a1 a2 a3 a4 ht ad_2.1 ad_2.2.1 ad_2.2.2.1 ad_2.2.2.2 hq n1 n2 (setAt st_2 ((sAt st_2) + 1)) (show okSt (setAt st_2 ((sAt st_2) + 1)) from ⟨ok_2.1, ok_2.2.1, ok_2.2.2.1, ok_2.2.2.2⟩) ) hP hK [0, 1, 2, 3, 4, 5, 6, 7, 8, 9, 10, 11, 12, 13, 14] rfl [0, 1] rfl 0 2 rfl rfl L_787 L_788 L_790 L_718 L_86 L_721 rfl k_Cu_statementEnds ⟨(by show _ ≤ fr0 + 8; omega), (by show _ ≤ lo0 + 323; omega)⟩ hl.1 ⟨Nat.le_trans (Nat.le_add_right _ _) hcl, Nat.le_trans (Nat.le_add_right _ _) hsl⟩ (Nat.le_of_ble_eq_true rfl) d_Pa_returnStatement_44 rfl ?_
    refine lv_if_ne (tgt := 59) hx hb d_Pa_returnStatement_47 (by decide) (fun c_3 => ?_) (fun c_3 => ?_)
    · refine lv_aload_n hx hb d_Pa_returnStatement_59 rfl (lv_at hl 1 rfl) ?_
      refine mx_Uv (xm := ⟨"SyntaxTree$Parser", "semicolon", "()V"⟩) (owner := R_Cu) (As := []) (rest := []) ⟨hx, hb, hml, hown, hts0⟩ (m_Cu_semicolon l hlt dC dI cI cZ sa rk hp hc h a1 a2 a3 a4 ht hq n1 n2 ad_2 (setAt st_2 ((sAt st_2) + 1)) (show okSt (setAt st_2 ((sAt st_2) + 1)) from ⟨ok_2.1, ok_2.2.1, ok_2.2.2.1, ok_2.2.2.2⟩) _  (fun z => hg (by unfold f_Pa_returnStatement; rw [if_neg c_1, bnd_r w_2, if_neg c_3, bnd_n z]))) hP hD hK hS hA hC hZ hnt hlocks L_711 L_712 L_714 L_715 L_86 L_716 rfl k_Cu_semicolon ⟨(by show _ ≤ fr0 + 8; omega), (by show _ ≤ lo0 + 323; omega)⟩ rfl rfl hl.1 (Nat.le_of_ble_eq_true rfl) d_Pa_returnStatement_60 rfl (fun q z => by unfold f_Pa_returnStatement; rw [if_neg c_1, bnd_r w_2, if_neg c_3, bnd_l z]) hcl hsl (fun ad_4 st_4 H locs w_4 ok_4 e1_4 e2_4 hP hD hS => ?_)
      have hcl := cl_next hcl e1_4
      have hsl := cl_next hsl e2_4
      refine lv_aload_n hx hb d_Pa_returnStatement_63 rfl (lv_at hl 1 rfl) ?_
      refine va_get (D := (dC, dI)) (ci := 2) (v := .ref ht) (C := R_Pa) (T := T_Pa) (N := 7) hx hb hts u_Pa hown hK hP 0 rfl rfl 0 (by decide) (hts _ L_208) (fun _ h9 => h9) rfl d_Pa_returnStatement_64 ?_
      refine lv_iload_n hx hb d_Pa_returnStatement_67 rfl (lv_at hl 0 rfl) ?_
      refine pT_v (g := (p_close st_4 r_2)) (st := st_4) (As := [.int r_2]) (rest := []) ⟨hx, hb, hml, hown, hts0⟩ (m_Tr_close l dC dI cI cZ sa rk ht ad_4 (sTr st_4) ok_4.2.1 _ r_2) hP hD hK hS hA hC hZ L_582 L_583 L_584 L_85 L_585 ⟨rfl, k_Tr_close⟩ ⟨(by show _ ≤ fr0 + 8; omega), (by show _ ≤ lo0 + 323; omega)⟩ rfl rfl hl.1 (Nat.le_of_ble_eq_true rfl) d_Pa_returnStatement_68 rfl hcl hsl (Nat.zero_le _) (Nat.zero_le _) ok_4 (t_close_ok r_2 ok_4.2.1) rfl (fun ad_5 st_5 H locs w_5 ok_5 e1_5 e2_5 hP hD hS => ?_)
      have hcl := cl_next hcl e1_5
      have hsl := cl_next hsl e2_5
      exact mx_vret (stF := st_5) hx hb hr hlocks hK hP hD hS hcl hsl (by unfold f_Pa_returnStatement; rw [if_neg c_1, bnd_r w_2, if_neg c_3, bnd_r w_4, bnd_r w_5]) ok_5 d_Pa_returnStatement_71
    · refine lv_aload_n hx hb d_Pa_returnStatement_50 rfl (lv_at hl 1 rfl) ?_
      refine lv_iconst (v := (-1)) hx hb d_Pa_returnStatement_51 (by decide) ?_
      refine lv_iload_n hx hb d_Pa_returnStatement_52 rfl (lv_at hl 2 rfl) ?_
      refine lv_iconst (v := 1) hx hb d_Pa_returnStatement_53 (by decide) ?_
      refine lv_iadd hx hb d_Pa_returnStatement_54 ?_
      refine lv_iconst (v := 1) hx hb d_Pa_returnStatement_55 (by decide) ?_
      refine mx_Vv (As := [.int (-1), .int (depth + 1), .int 1]) (rest := []) ⟨hx, hb, hml, hown, hts0⟩ (hRE hc ad_2 (setAt st_2 ((sAt st_2) + 1)) (show okSt (setAt st_2 ((sAt st_2) + 1)) from ⟨ok_2.1, ok_2.2.1, ok_2.2.2.1, ok_2.2.2.2⟩) _ (-1) (depth + 1) 1 (fun z => hg (by unfold f_Pa_returnStatement; rw [if_neg c_1, bnd_r w_2, if_pos c_3, bnd_n z]))) hP hD hK hS hA hC hZ hnt hlocks L_569 L_571 L_12 L_87 L_572 k_Pa_expression ⟨(by show _ ≤ fr0 + 8; omega), (by show _ ≤ lo0 + 323; omega)⟩ rfl rfl hl.1 (Nat.le_of_ble_eq_true rfl) d_Pa_returnStatement_56 rfl (fun q z => by unfold f_Pa_returnStatement; rw [if_neg c_1, bnd_r w_2, if_pos c_3, bnd_l z]) hcl hsl (fun ad_6 st_6 H locs w_6 ok_6 e1_6 e2_6 hP hD hS => ?_)
      have hcl := cl_next hcl e1_6
      have hsl := cl_next hsl e2_6
      refine lv_aload_n hx hb d_Pa_returnStatement_59 rfl (lv_at hl 1 rfl) ?_
      refine mx_Uv (xm := ⟨"SyntaxTree$Parser", "semicolon", "()V"⟩) (owner := R_Cu) (As := []) (rest := []) ⟨hx, hb, hml, hown, hts0⟩ (m_Cu_semicolon l hlt dC dI cI cZ sa rk hp hc h a1 a2 a3 a4 ht hq n1 n2 ad_6 st_6 ok_6 _  (fun z => hg (by unfold f_Pa_returnStatement; rw [if_neg c_1, bnd_r w_2, if_pos c_3, bnd_r w_6, bnd_n z]))) hP hD hK hS hA hC hZ hnt hlocks L_711 L_712 L_714 L_715 L_86 L_716 rfl k_Cu_semicolon ⟨(by show _ ≤ fr0 + 8; omega), (by show _ ≤ lo0 + 323; omega)⟩ rfl rfl hl.1 (Nat.le_of_ble_eq_true rfl) d_Pa_returnStatement_60 rfl (fun q z => by unfold f_Pa_returnStatement; rw [if_neg c_1, bnd_r w_2, if_pos c_3, bnd_r w_6, bnd_l z]) hcl hsl (fun ad_7 st_7 H locs w_7 ok_7 e1_7 e2_7 hP hD hS => ?_)
      have hcl := cl_next hcl e1_7
      have hsl := cl_next hsl e2_7
      refine lv_aload_n hx hb d_Pa_returnStatement_63 rfl (lv_at hl 1 rfl) ?_
      refine va_get (D := (dC, dI)) (ci := 2) (v := .ref ht) (C := R_Pa) (T := T_Pa) (N := 7) hx hb hts u_Pa hown hK hP 0 rfl rfl 0 (by decide) (hts _ L_208) (fun _ h9 => h9) rfl d_Pa_returnStatement_64 ?_
      refine lv_iload_n hx hb d_Pa_returnStatement_67 rfl (lv_at hl 0 rfl) ?_
      refine pT_v (g := (p_close st_7 r_2)) (st := st_7) (As := [.int r_2]) (rest := []) ⟨hx, hb, hml, hown, hts0⟩ (m_Tr_close l dC dI cI cZ sa rk ht ad_7 (sTr st_7) ok_7.2.1 _ r_2) hP hD hK hS hA hC hZ L_582 L_583 L_584 L_85 L_585 ⟨rfl, k_Tr_close⟩ ⟨(by show _ ≤ fr0 + 8; omega), (by show _ ≤ lo0 + 323; omega)⟩ rfl rfl hl.1 (Nat.le_of_ble_eq_true rfl) d_Pa_returnStatement_68 rfl hcl hsl (Nat.zero_le _) (Nat.zero_le _) ok_7 (t_close_ok r_2 ok_7.2.1) rfl (fun ad_8 st_8 H locs w_8 ok_8 e1_8 e2_8 hP hD hS => ?_)
      have hcl := cl_next hcl e1_8
      have hsl := cl_next hsl e2_8
      exact mx_vret (stF := st_8) hx hb hr hlocks hK hP hD hS hcl hsl (by unfold f_Pa_returnStatement; rw [if_neg c_1, bnd_r w_2, if_pos c_3, bnd_r w_6, bnd_r w_7, bnd_r w_8]) ok_8 d_Pa_returnStatement_71
  · refine lv_aload_n hx hb d_Pa_returnStatement_10 rfl (lv_at hl 0 rfl) ?_
    refine lv_aload_n hx hb d_Pa_returnStatement_11 rfl (lv_at hl 0 rfl) ?_
    refine va_get (D := (dC, dI)) (ci := 2) (v := .int (sAt st)) (C := R_Pa) (T := T_Pa) (N := 7) hx hb hts u_Pa hown hK hP 0 rfl rfl 4 (by decide) (hts _ L_215) (fun x9 h9 => u_same (hts _ L_216) x9 h9) rfl d_Pa_returnStatement_12 ?_
    refine mx_Uv (xm := ⟨"SyntaxTree$Parser", "refuse", "(I)V"⟩) (owner := R_Cu) (As := [.int (sAt st)]) (rest := []) ⟨hx, hb, hml, hown, hts0⟩ (m_Cu_refuse l hlt dC dI cI cZ sa rk hp hc h a1 a2 a3 a4 ht hq n1 n2 ad st hst _ (sAt st) (fun z => hg (by unfold f_Pa_returnStatement; rw [if_pos c_1, bnd_n z]))) hP hD hK hS hA hC hZ hnt hlocks L_536 L_537 L_539 L_460 L_86 L_463 rfl k_Cu_refuse ⟨(by show _ ≤ fr0 + 8; omega), (by show _ ≤ lo0 + 323; omega)⟩ rfl rfl hl.1 (Nat.le_of_ble_eq_true rfl) d_Pa_returnStatement_15 rfl (fun q z => by unfold f_Pa_returnStatement; rw [if_pos c_1, bnd_l z]) hcl hsl (fun ad_9 st_9 H locs w_9 ok_9 e1_9 e2_9 hP hD hS => ?_)
    have hcl := cl_next hcl e1_9
    have hsl := cl_next hsl e2_9
    refine lv_aload_n hx hb d_Pa_returnStatement_18 rfl (lv_at hl 0 rfl) ?_
    refine va_get (D := (dC, dI)) (ci := 2) (v := .ref ht) (C := R_Pa) (T := T_Pa) (N := 7) hx hb hts u_Pa hown hK hP 0 rfl rfl 0 (by decide) (hts _ L_208) (fun _ h9 => h9) rfl d_Pa_returnStatement_19 ?_
    refine lv_bipush (v := 13) hx hb d_Pa_returnStatement_22 (by decide) ?_
    refine lv_iconst (v := 0) hx hb d_Pa_returnStatement_24 (by decide) ?_
    refine lv_aload_n hx hb d_Pa_returnStatement_25 rfl (lv_at hl 0 rfl) ?_
    refine va_get (D := (dC, dI)) (ci := 2) (v := .int (sAt st_9)) (C := R_Pa) (T := T_Pa) (N := 7) hx hb hts u_Pa hown hK hP 0 rfl rfl 4 (by decide) (hts _ L_215) (fun x9 h9 => u_same (hts _ L_216) x9 h9) rfl d_Pa_returnStatement_26 ?_
    have hn_10 : (p_open st_9 13 0 (sAt st_9)) ≠ none := (fun z => hg (by unfold f_Pa_returnStatement; rw [if_pos c_1, bnd_r w_9, bnd_n z]))
    refine pT_i (g := (p_open st_9 13 0 (sAt st_9))) (st := st_9) (As := [.int 13, .int 0, .int (sAt st_9)]) (rest := []) ⟨hx, hb, hml, hown, hts0⟩ (m_Tr_open l dC dI cI cZ sa rk ht ad_9 (sTr st_9) ok_9.2.1 _ 13 0 (sAt st_9) (p_open_c hn_10).1 (p_open_c hn_10).2.1) hP hD hK hS hA hC hZ L_416 L_417 L_418 L_85 L_419 ⟨rfl, k_Tr_open⟩ ⟨(by show _ ≤ fr0 + 8; omega), (by show _ ≤ lo0 + 323; omega)⟩ rfl rfl hl.1 (Nat.le_of_ble_eq_true rfl) d_Pa_returnStatement_29 rfl hcl hsl (p_open_c hn_10).2.2.1 (p_open_c hn_10).2.2.2 ok_9 (t_open_ok 13 0 (sAt st_9) ok_9.2.1 (p_open_c hn_10).1 (p_open_c hn_10).2.1) (p_open_e hn_10) (fun r_10 ad_10 st_10 H locs w_10 ok_10 e1_10 e2_10 hP hD hS => ?_)
    have hcl := cl_next hcl e1_10
    have hsl := cl_next hsl e2_10
    refine lv_istore_n (lv' := [(2, .int r_10), (0, .ref hp), (1, .int depth)]) hx hb d_Pa_returnStatement_32 rfl hl (by decide) rfl (fun ls hl => ?_)
    refine lv_aload_n hx hb d_Pa_returnStatement_33 rfl (lv_at hl 1 rfl) ?_
    refine lv_dup hx hb d_Pa_returnStatement_34 rfl ?_
    refine va_get (D := (dC, dI)) (ci := 2) (v := .int (sAt st_10)) (C := R_Pa) (T := T_Pa) (N := 7) hx hb hts u_Pa hown hK hP 0 rfl rfl 4 (by decide) (hts _ L_215) (fun x9 h9 => u_same (hts _ L_216) x9 h9) rfl d_Pa_returnStatement_35 ?_
    refine lv_iconst (v := 1) hx hb d_Pa_returnStatement_38 (by decide) ?_
    refine lv_iadd hx hb d_Pa_returnStatement_39 ?_
    refine va_put (D := (dC, dI)) (ci := 2) (v := .int ((sAt st_10) + 1)) (ty := .int) (C := R_Pa) (T := T_Pa) (N := 7) hx hb hts u_Pa ty_Pa tk_Pa nm_Pa hown hK hP hD hS 0 rfl rfl 4 (by decide) (hts _ L_215) (fun x9 h9 => u_same (hts _ L_216) x9 h9) rfl (by decide +kernel) rfl rfl (Nat.le_of_ble_eq_true rfl) d_Pa_returnStatement_40 (fun H locs hP hD hS => ?_)
    have hP : va_P (dC, dI) cls (wQ cI cZ hp hc h a1 a2 a3 a4 ht hq n1 n2 (ad_10, (setAt st_10 ((sAt st_10) + 1)))) H := hP
    have hD : va_D A (wQ cI cZ hp hc h a1 a2 a3 a4 ht hq n1 n2 (ad_10, (setAt st_10 ((sAt st_10) + 1)))) := hD
    refine lv_aload_n hx hb d_Pa_returnStatement_43 rfl (lv_at hl 1 rfl) ?_
    refine rd_U (xm := ⟨"SyntaxTree$Parser", "statementEnds", "()Z"⟩) (owner := R_Cu) (v := (f_Cu_statementEnds (setAt st_10 ((sAt st_10) + 1)))) (As := []) (rest := []) ⟨hx, hb, hml, hown, hts0⟩ (m_Cu_statementEnds l dC dI cI cZ hp hc h a1 a2 a3 a4 ht ad_10.1 ad_10.2.1 ad_10.2.2.1 ad_10.2.2.2 hq n1 n2 (setAt st_10 ((sAt st_10) + 1)) (show okSt (setAt st_10 ((sAt st_10) + 1)) from ⟨ok_10.1, ok_10.2.1, ok_10.2.2.1, ok_10.2.2.2⟩) ) hP hK [0, 1, 2, 3, 4, 5, 6, 7, 8, 9, 10, 11, 12, 13, 14] rfl [0, 1] rfl 0 2 rfl rfl L_787 L_788 L_790 L_718 L_86 L_721 rfl k_Cu_statementEnds ⟨(by show _ ≤ fr0 + 8; omega), (by show _ ≤ lo0 + 323; omega)⟩ hl.1 ⟨Nat.le_trans (Nat.le_add_right _ _) hcl, Nat.le_trans (Nat.le_add_right _ _) hsl⟩ (Nat.le_of_ble_eq_true rfl) d_Pa_returnStatement_44 rfl ?_
    refine lv_if_ne (tgt := 59) hx hb d_Pa_returnStatement_47 (by decide) (fun c_11 => ?_) (fun c_11 => ?_)
    · refine lv_aload_n hx hb d_Pa_returnStatement_59 rfl (lv_at hl 1 rfl) ?_
      refine mx_Uv (xm := ⟨"SyntaxTree$Parser", "semicolon", "()V"⟩) (owner := R_Cu) (As := []) (rest := []) ⟨hx, hb, hml, hown, hts0⟩ (m_Cu_semicolon l hlt dC dI cI cZ sa rk hp hc h a1 a2 a3 a4 ht hq n1 n2 ad_10 (setAt st_10 ((sAt st_10) + 1)) (show okSt (setAt st_10 ((sAt st_10) + 1)) from ⟨ok_10.1, ok_10.2.1, ok_10.2.2.1, ok_10.2.2.2⟩) _  (fun z => hg (by unfold f_Pa_returnStatement; rw [if_pos c_1, bnd_r w_9, bnd_r w_10, if_neg c_11, bnd_n z]))) hP hD hK hS hA hC hZ hnt hlocks L_711 L_712 L_714 L_715 L_86 L_716 rfl k_Cu_semicolon ⟨(by show _ ≤ fr0 + 8; omega), (by show _ ≤ lo0 + 323; omega)⟩ rfl rfl hl.1 (Nat.le_of_ble_eq_true rfl) d_Pa_returnStatement_60 rfl (fun q z => by unfold f_Pa_returnStatement; rw [if_pos c_1, bnd_r w_9, bnd_r w_10, if_neg c_11, bnd_l z]) hcl hsl (fun ad_12 st_12 H locs w_12 ok_12 e1_12 e2_12 hP hD hS => ?_)
      have hcl := cl_next hcl e1_12
      have hsl := cl_next hsl e2_12
      refine lv_aload_n hx hb d_Pa_returnStatement_63 rfl (lv_at hl 1 rfl) ?_
      refine va_get (D := (dC, dI)) (ci := 2) (v := .ref ht) (C := R_Pa) (T := T_Pa) (N := 7) hx hb hts u_Pa hown hK hP 0 rfl rfl 0 (by decide) (hts _ L_208) (fun _ h9 => h9) rfl d_Pa_returnStatement_64 ?_
      refine lv_iload_n hx hb d_Pa_returnStatement_67 rfl (lv_at hl 0 rfl) ?_
      refine pT_v (g := (p_close st_12 r_10)) (st := st_12) (As := [.int r_10]) (rest := []) ⟨hx, hb, hml, hown, hts0⟩ (m_Tr_close l dC dI cI cZ sa rk ht ad_12 (sTr st_12) ok_12.2.1 _ r_10) hP hD hK hS hA hC hZ L_582 L_583 L_584 L_85 L_585 ⟨rfl, k_Tr_close⟩ ⟨(by show _ ≤ fr0 + 8; omega), (by show _ ≤ lo0 + 323; omega)⟩ rfl rfl hl.1 (Nat.le_of_ble_eq_true rfl) d_Pa_returnStatement_68 rfl hcl hsl (Nat.zero_le _) (Nat.zero_le _) ok_12 (t_close_ok r_10 ok_12.2.1) rfl (fun ad_13 st_13 H locs w_13 ok_13 e1_13 e2_13 hP hD hS => ?_)
      have hcl := cl_next hcl e1_13
      have hsl := cl_next hsl e2_13
      exact mx_vret (stF := st_13) hx hb hr hlocks hK hP hD hS hcl hsl (by unfold f_Pa_returnStatement; rw [if_pos c_1, bnd_r w_9, bnd_r w_10, if_neg c_11, bnd_r w_12, bnd_r w_13]) ok_13 d_Pa_returnStatement_71
    · refine lv_aload_n hx hb d_Pa_returnStatement_50 rfl (lv_at hl 1 rfl) ?_
      refine lv_iconst (v := (-1)) hx hb d_Pa_returnStatement_51 (by decide) ?_
      refine lv_iload_n hx hb d_Pa_returnStatement_52 rfl (lv_at hl 2 rfl) ?_
      refine lv_iconst (v := 1) hx hb d_Pa_returnStatement_53 (by decide) ?_
      refine lv_iadd hx hb d_Pa_returnStatement_54 ?_
      refine lv_iconst (v := 1) hx hb d_Pa_returnStatement_55 (by decide) ?_
      refine mx_Vv (As := [.int (-1), .int (depth + 1), .int 1]) (rest := []) ⟨hx, hb, hml, hown, hts0⟩ (hRE hc ad_10 (setAt st_10 ((sAt st_10) + 1)) (show okSt (setAt st_10 ((sAt st_10) + 1)) from ⟨ok_10.1, ok_10.2.1, ok_10.2.2.1, ok_10.2.2.2⟩) _ (-1) (depth + 1) 1 (fun z => hg (by unfold f_Pa_returnStatement; rw [if_pos c_1, bnd_r w_9, bnd_r w_10, if_pos c_11, bnd_n z]))) hP hD hK hS hA hC hZ hnt hlocks L_569 L_571 L_12 L_87 L_572 k_Pa_expression ⟨(by show _ ≤ fr0 + 8; omega), (by show _ ≤ lo0 + 323; omega)⟩ rfl rfl hl.1 (Nat.le_of_ble_eq_true rfl) d_Pa_returnStatement_56 rfl (fun q z => by unfold f_Pa_returnStatement; rw [if_pos c_1, bnd_r w_9, bnd_r w_10, if_pos c_11, bnd_l z]) hcl hsl (fun ad_14 st_14 H locs w_14 ok_14 e1_14 e2_14 hP hD hS => ?_)
      have hcl := cl_next hcl e1_14
      have hsl := cl_next hsl e2_14
      refine lv_aload_n hx hb d_Pa_returnStatement_59 rfl (lv_at hl 1 rfl) ?_
      refine mx_Uv (xm := ⟨"SyntaxTree$Parser", "semicolon", "()V"⟩) (owner := R_Cu) (As := []) (rest := []) ⟨hx, hb, hml, hown, hts0⟩ (m_Cu_semicolon l hlt dC dI cI cZ sa rk hp hc h a1 a2 a3 a4 ht hq n1 n2 ad_14 st_14 ok_14 _  (fun z => hg (by unfold f_Pa_returnStatement; rw [if_pos c_1, bnd_r w_9, bnd_r w_10, if_pos c_11, bnd_r w_14, bnd_n z]))) hP hD hK hS hA hC hZ hnt hlocks L_711 L_712 L_714 L_715 L_86 L_716 rfl k_Cu_semicolon ⟨(by show _ ≤ fr0 + 8; omega), (by show _ ≤ lo0 + 323; omega)⟩ rfl rfl hl.1 (Nat.le_of_ble_eq_true rfl) d_Pa_returnStatement_60 rfl (fun q z => by unfold f_Pa_returnStatement; rw [if_pos c_1, bnd_r w_9, bnd_r w_10, if_pos c_11, bnd_r w_14, bnd_l z]) hcl hsl (fun ad_15 st_15 H locs w_15 ok_15 e1_15 e2_15 hP hD hS => ?_)
      have hcl := cl_next hcl e1_15
      have hsl := cl_next hsl e2_15
      refine lv_aload_n hx hb d_Pa_returnStatement_63 rfl (lv_at hl 1 rfl) ?_
      refine va_get (D := (dC, dI)) (ci := 2) (v := .ref ht) (C := R_Pa) (T := T_Pa) (N := 7) hx hb hts u_Pa hown hK hP 0 rfl rfl 0 (by decide) (hts _ L_208) (fun _ h9 => h9) rfl d_Pa_returnStatement_64 ?_
      refine lv_iload_n hx hb d_Pa_returnStatement_67 rfl (lv_at hl 0 rfl) ?_
      refine pT_v (g := (p_close st_15 r_10)) (st := st_15) (As := [.int r_10]) (rest := []) ⟨hx, hb, hml, hown, hts0⟩ (m_Tr_close l dC dI cI cZ sa rk ht ad_15 (sTr st_15) ok_15.2.1 _ r_10) hP hD hK hS hA hC hZ L_582 L_583 L_584 L_85 L_585 ⟨rfl, k_Tr_close⟩ ⟨(by show _ ≤ fr0 + 8; omega), (by show _ ≤ lo0 + 323; omega)⟩ rfl rfl hl.1 (Nat.le_of_ble_eq_true rfl) d_Pa_returnStatement_68 rfl hcl hsl (Nat.zero_le _) (Nat.zero_le _) ok_15 (t_close_ok r_10 ok_15.2.1) rfl (fun ad_16 st_16 H locs w_16 ok_16 e1_16 e2_16 hP hD hS => ?_)
      have hcl := cl_next hcl e1_16
      have hsl := cl_next hsl e2_16
      exact mx_vret (stF := st_16) hx hb hr hlocks hK hP hD hS hcl hsl (by unfold f_Pa_returnStatement; rw [if_pos c_1, bnd_r w_9, bnd_r w_10, if_pos c_11, bnd_r w_14, bnd_r w_15, bnd_r w_16]) ok_16 d_Pa_returnStatement_71
def f_Pa_forInitial (E : Int32 → Int32 → Int32 → ST → Rz) (S : Int32 → Int32 → ST → Rz) (F : Int32 → Int32 → ST → Rz) (st : ST) (depth : Int32) : Rz := (if (f_Cu_atSign st 67) = 0 then (bnd (E (-1) (depth + 1) 0 st) (fun _ st_2 => (some (.inr (0, st_2))))) else (bnd (p_open st 59 0 (sAt st)) (fun r_3 st_3 => (some (.inr (0, st_3))))))
set_option maxRecDepth 100000 in
set_option maxHeartbeats 4000000 in
theorem m_Pa_forInitial (l : Launch) (hlt : l.stackTraces = false) (dC : Nat → ClassId) (dI : Nat → Nat → Nat) (cI cZ : ClassId) (sa rk hp h a1 a2 a3 a4 ht hq n1 n2 : Nat) (fr0 lo0 : Nat) (E : Int32 → Int32 → Int32 → ST → Rz) (S : Int32 → Int32 → ST → Rz) (F : Int32 → Int32 → ST → Rz) (hRE : ∀ (hc : Nat) (ad : AD) (st : ST), okSt st → ∀ (sz : Nat) (level depth inn : Int32), E level depth inn st ≠ none → cPv l y_Pa_expression c_Pa_expression 6 fr0 lo0 (dC, dI) cI cZ sa rk hp hc h a1 a2 a3 a4 ht hq n1 n2 ad st sz [.ref hp, .int level, .int depth, .int inn] (E level depth inn st)) (hRS : ∀ (hc : Nat) (ad : AD) (st : ST), okSt st → ∀ (sz : Nat) (depth first : Int32), S depth first st ≠ none → cPv l y_Pa_statement c_Pa_statement 4 fr0 lo0 (dC, dI) cI cZ sa rk hp hc h a1 a2 a3 a4 ht hq n1 n2 ad st sz [.ref hp, .int depth, .int first] (S depth first st)) (hRF : ∀ (hc : Nat) (ad : AD) (st : ST), okSt st → ∀ (sz : Nat) (form depth : Int32), F form depth st ≠ none → cPv l y_Pa_function c_Pa_function 10 fr0 lo0 (dC, dI) cI cZ sa rk hp hc h a1 a2 a3 a4 ht hq n1 n2 ad st sz [.ref hp, .int form, .int depth] (F form depth st)) (hc : Nat) (ad : AD) (st : ST) (hst : okSt st) (sz : Nat) (depth : Int32) (hg : f_Pa_forInitial E S F st depth ≠ none) : cPv l y_Pa_forInitial c_Pa_forInitial 2 (fr0 + 4) (lo0 + 323) (dC, dI) cI cZ sa rk hp hc h a1 a2 a3 a4 ht hq n1 n2 ad st sz [.ref hp, .int depth] (f_Pa_forInitial E S F st depth) := by
  refine vx_ofW (cc := c_Pa_forInitial) (maxL := 2) (ret := none) (by decide) rfl ?_
  intro p e s m args below meth c s₁ B hml hnt hv
  obtain ⟨rfl, hsz, hP, hK, hD0, hC, hZ⟩ := hv
  have hx := B.exec
  have hb := B.bytes
  have hr := B.returns
  have hts0 := atoms_spec (ws := wy y_Pa_forInitial c_Pa_forInitial 2 none) B.pre
  have hts := htsL hts0
  have hown : s.vm.findClass R_Pa = some m.cls := findClass_of_methodNamed B.named
  have hlocks := B.notSynchronized
  subst hsz
  have hD := hD0.self (sz := s.heap.size)
  generalize hAe : va_A (wQ cI cZ hp hc h a1 a2 a3 a4 ht hq n1 n2 (ad, st)) s.heap.size = A at hD hZ ⊢
  have hA : ∀ q : Nat, s.heap.size ≤ q → A q := fun q h => by rw [← hAe]; exact Or.inr h
  have hS : va_S A s.heap s.heap [] := va_S.rf
  have hcl : 0 + bC st ≤ bC st := Nat.le_of_eq (Nat.zero_add _)
  have hsl : 0 + bS st ≤ bS st := Nat.le_of_eq (Nat.zero_add _)
  have hl := lv_entry ([.ref hp, .int depth]) (n := 2) (Nat.le_of_ble_eq_true rfl)
  rw [lg_entry_eq]
  generalize (lg_sl ([.ref hp, .int depth]) ++ List.replicate (2 - (lg_sl ([.ref hp, .int depth])).length) Slot.unset).toArray = ls at hl ⊢
  have hl : lv_has ls 2 [(0, .ref hp), (1, .int depth)] := hl
  refine lv_aload_n hx hb d_Pa_forInitial_0 rfl (lv_at hl 0 rfl) ?_
  refine lv_bipush (v := 67) hx hb d_Pa_forInitial_1 (by decide) ?_
  refine rd_U (xm := ⟨"SyntaxTree$Parser", "atSign", "(I)Z"⟩) (owner := R_Cu) (v := (f_Cu_atSign st 67)) (As := [.int 67]) (rest := []) ⟨hx, hb, hml, hown, hts0⟩ (m_Cu_atSign l dC dI cI cZ hp hc h a1 a2 a3 a4 ht ad.1 ad.2.1 ad.2.2.1 ad.2.2.2 hq n1 n2 st hst 67) hP hK [0, 1, 2, 3, 4, 5, 6, 7, 8, 9, 10, 11, 12, 13, 14] rfl [0, 1] rfl 0 2 rfl rfl L_496 L_497 L_499 L_500 L_86 L_501 rfl k_Cu_atSign ⟨(by show _ ≤ fr0 + 4; omega), (by show _ ≤ lo0 + 323; omega)⟩ hl.1 ⟨Nat.le_trans (Nat.le_add_right _ _) hcl, Nat.le_trans (Nat.le_add_right _ _) hsl⟩ (Nat.le_of_ble_eq_true rfl) d_Pa_forInitial_3 rfl ?_
  refine lv_if_eq (tgt := 27) hx hb d_Pa_forInitial_6 (by decide) (fun c_1 => ?_) (fun c_1 => ?_)
  · refine lv_aload_n hx hb d_Pa_forInitial_27 rfl (lv_at hl 0 rfl) ?_
    refine lv_iconst (v := (-1)) hx hb d_Pa_forInitial_28 (by decide) ?_
    refine lv_iload_n hx hb d_Pa_forInitial_29 rfl (lv_at hl 1 rfl) ?_
    refine lv_iconst (v := 1) hx hb d_Pa_forInitial_30 (by decide) ?_
    refine lv_iadd hx hb d_Pa_forInitial_31 ?_
    refine lv_iconst (v := 0) hx hb d_Pa_forInitial_32 (by decide) ?_
    refine mx_Vv (As := [.int (-1), .int (depth + 1), .int 0]) (rest := []) ⟨hx, hb, hml, hown, hts0⟩ (hRE hc ad st hst _ (-1) (depth + 1) 0 (fun z => hg (by unfold f_Pa_forInitial; rw [if_pos c_1, bnd_n z]))) hP hD hK hS hA hC hZ hnt hlocks L_569 L_571 L_12 L_87 L_572 k_Pa_expression ⟨(by show _ ≤ fr0 + 4; omega), (by show _ ≤ lo0 + 323; omega)⟩ rfl rfl hl.1 (Nat.le_of_ble_eq_true rfl) d_Pa_forInitial_33 rfl (fun q z => by unfold f_Pa_forInitial; rw [if_pos c_1, bnd_l z]) hcl hsl (fun ad_2 st_2 H locs w_2 ok_2 e1_2 e2_2 hP hD hS => ?_)
    have hcl := cl_next hcl e1_2
    have hsl := cl_next hsl e2_2
    exact mx_vret (stF := st_2) hx hb hr hlocks hK hP hD hS hcl hsl (by unfold f_Pa_forInitial; rw [if_pos c_1, bnd_r w_2]) ok_2 d_Pa_forInitial_36
  · refine lv_aload_n hx hb d_Pa_forInitial_9 rfl (lv_at hl 0 rfl) ?_
    refine va_get (D := (dC, dI)) (ci := 2) (v := .ref ht) (C := R_Pa) (T := T_Pa) (N := 7) hx hb hts u_Pa hown hK hP 0 rfl rfl 0 (by decide) (hts _ L_208) (fun _ h9 => h9) rfl d_Pa_forInitial_10 ?_
    refine lv_bipush (v := 59) hx hb d_Pa_forInitial_13 (by decide) ?_
    refine lv_iconst (v := 0) hx hb d_Pa_forInitial_15 (by decide) ?_
    refine lv_aload_n hx hb d_Pa_forInitial_16 rfl (lv_at hl 0 rfl) ?_
    refine va_get (D := (dC, dI)) (ci := 2) (v := .int (sAt st)) (C := R_Pa) (T := T_Pa) (N := 7) hx hb hts u_Pa hown hK hP 0 rfl rfl 4 (by decide) (hts _ L_215) (fun x9 h9 => u_same (hts _ L_216) x9 h9) rfl d_Pa_forInitial_17 ?_
    have hn_3 : (p_open st 59 0 (sAt st)) ≠ none := (fun z => hg (by unfold f_Pa_forInitial; rw [if_neg c_1, bnd_n z]))
    refine pT_i (g := (p_open st 59 0 (sAt st))) (st := st) (As := [.int 59, .int 0, .int (sAt st)]) (rest := []) ⟨hx, hb, hml, hown, hts0⟩ (m_Tr_open l dC dI cI cZ sa rk ht ad (sTr st) hst.2.1 _ 59 0 (sAt st) (p_open_c hn_3).1 (p_open_c hn_3).2.1) hP hD hK hS hA hC hZ L_416 L_417 L_418 L_85 L_419 ⟨rfl, k_Tr_open⟩ ⟨(by show _ ≤ fr0 + 4; omega), (by show _ ≤ lo0 + 323; omega)⟩ rfl rfl hl.1 (Nat.le_of_ble_eq_true rfl) d_Pa_forInitial_20 rfl hcl hsl (p_open_c hn_3).2.2.1 (p_open_c hn_3).2.2.2 hst (t_open_ok 59 0 (sAt st) hst.2.1 (p_open_c hn_3).1 (p_open_c hn_3).2.1) (p_open_e hn_3) (fun r_3 ad_3 st_3 H locs w_3 ok_3 e1_3 e2_3 hP hD hS => ?_)
    have hcl := cl_next hcl e1_3
    have hsl := cl_next hsl e2_3
    refine lv_pop hx hb d_Pa_forInitial_23 rfl ?_
    refine lv_goto (tgt := 36) hx hb d_Pa_forInitial_24 (by decide) ?_
    exact mx_vret (stF := st_3) hx hb hr hlocks hK hP hD hS hcl hsl (by unfold f_Pa_forInitial; rw [if_neg c_1, bnd_r w_3]) ok_3 d_Pa_forInitial_36
