def f_Pa_function_L79 (E : Int32 → Int32 → Int32 → ST → Rz) (S : Int32 → Int32 → ST → Rz) (F : Int32 → Int32 → ST → Rz) (form : Int32) (depth : Int32) (e3 : Int32) (e5 : Int32) : Nat → Int32 → Int32 → ST → Rz
  | 0, _, _, _ => none
  | fu_7 + 1, x7, x8, sx_7 => (if 1000 < x8 then (some (.inr (0, sx_7))) else (bnd (f_Cu_accept sx_7 65) (fun r_16 st_16 => (if r_16 = 0 then (if (f_Cu_atWord st_16 11) = 0 then (bnd (S (depth + 1) (f_La_count (sLb st_16)) st_16) (fun _ st_26 => (if x7 = 0 then (f_Pa_function_L79 E S F form depth e3 e5 fu_7 0 (x8 + 1) st_26) else (if (f_Cu_wasTextAlone st_26 (sAt st_16)) = 0 then (f_Pa_function_L79 E S F form depth e3 e5 fu_7 0 (x8 + 1) st_26) else (if (f_Tk_asksForStrict (sTk st_26) (sAt st_16)) = 0 then (f_Pa_function_L79 E S F form depth e3 e5 fu_7 1 (x8 + 1) st_26) else (bnd (f_Pa_makeStrict st_26 e3 e5) (fun _ st_30 => (f_Pa_function_L79 E S F form depth e3 e5 fu_7 1 (x8 + 1) st_30)))))))) else (bnd (F 24 (depth + 1) st_16) (fun _ st_31 => (if x7 = 0 then (f_Pa_function_L79 E S F form depth e3 e5 fu_7 0 (x8 + 1) st_31) else (if (f_Cu_wasTextAlone st_31 (sAt st_16)) = 0 then (f_Pa_function_L79 E S F form depth e3 e5 fu_7 0 (x8 + 1) st_31) else (if (f_Tk_asksForStrict (sTk st_31) (sAt st_16)) = 0 then (f_Pa_function_L79 E S F form depth e3 e5 fu_7 1 (x8 + 1) st_31) else (bnd (f_Pa_makeStrict st_31 e3 e5) (fun _ st_35 => (f_Pa_function_L79 E S F form depth e3 e5 fu_7 1 (x8 + 1) st_35))))))))) else (some (.inr (0, st_16)))))))
def f_Pa_function (E : Int32 → Int32 → Int32 → ST → Rz) (S : Int32 → Int32 → ST → Rz) (F : Int32 → Int32 → ST → Rz) (st : ST) (form : Int32) (depth : Int32) : Rz := (bnd (f_Cu_guard st depth) (fun _ st_1 => (bnd (f_Pa_functionName st_1 form) (fun r_2 st_2 => (bnd (f_Pa_parameters st_2 r_2 form) (fun _ st_3 => (bnd (f_Cu_expect st_3 64) (fun _ st_4 => (bnd (p_open st_4 26 0 (sAt st_3)) (fun r_5 st_5 => (if bC st_5 < 1 ∨ bS st_5 < 5 then none else (bnd (f_Pa_function_L79 E S F form depth r_2 r_5 5000 1 0 (setB (setCo st_5 (1, (f_La_count (sLb st_5)), (coS st_5), 0, 0)) (bC st_5 - 1) (bS st_5 - 5))) (fun _ sx_7 => (if (coS sx_7) = 0 then (bnd (p_setValue sx_7 r_5 0) (fun _ st_10 => (bnd (p_close (setCo st_10 ((coF st_5), (coL st_5), (coS st_5), (coP st_5), (coW st_5))) r_5) (fun _ st_11 => (bnd (p_close st_11 r_2) (fun _ st_12 => (some (.inr (0, st_12))))))))) else (bnd (p_setValue sx_7 r_5 1) (fun _ st_13 => (bnd (p_close (setCo st_13 ((coF st_5), (coL st_5), (coS st_5), (coP st_5), (coW st_5))) r_5) (fun _ st_14 => (bnd (p_close st_14 r_2) (fun _ st_15 => (some (.inr (0, st_15)))))))))))))))))))))))
set_option maxRecDepth 100000 in
set_option maxHeartbeats 4000000 in
theorem m_Pa_function (l : Launch) (hlt : l.stackTraces = false) (dC : Nat → ClassId) (dI : Nat → Nat → Nat) (cI cZ : ClassId) (sa rk hp h a1 a2 a3 a4 ht hq n1 n2 : Nat) (fr0 lo0 : Nat) (E : Int32 → Int32 → Int32 → ST → Rz) (S : Int32 → Int32 → ST → Rz) (F : Int32 → Int32 → ST → Rz) (hRE : ∀ (hc : Nat) (ad : AD) (st : ST), okSt st → ∀ (sz : Nat) (level depth inn : Int32), E level depth inn st ≠ none → cPv l y_Pa_expression c_Pa_expression 6 fr0 lo0 (dC, dI) cI cZ sa rk hp hc h a1 a2 a3 a4 ht hq n1 n2 ad st sz [.ref hp, .int level, .int depth, .int inn] (E level depth inn st)) (hRS : ∀ (hc : Nat) (ad : AD) (st : ST), okSt st → ∀ (sz : Nat) (depth first : Int32), S depth first st ≠ none → cPv l y_Pa_statement c_Pa_statement 4 fr0 lo0 (dC, dI) cI cZ sa rk hp hc h a1 a2 a3 a4 ht hq n1 n2 ad st sz [.ref hp, .int depth, .int first] (S depth first st)) (hRF : ∀ (hc : Nat) (ad : AD) (st : ST), okSt st → ∀ (sz : Nat) (form depth : Int32), F form depth st ≠ none → cPv l y_Pa_function c_Pa_function 10 fr0 lo0 (dC, dI) cI cZ sa rk hp hc h a1 a2 a3 a4 ht hq n1 n2 ad st sz [.ref hp, .int form, .int depth] (F form depth st)) (hc : Nat) (ad : AD) (st : ST) (hst : okSt st) (sz : Nat) (form : Int32) (depth : Int32) (hg : f_Pa_function E S F st form depth ≠ none) : cPv l y_Pa_function c_Pa_function 10 (fr0 + 10) (lo0 + 369) (dC, dI) cI cZ sa rk hp hc h a1 a2 a3 a4 ht hq n1 n2 ad st sz [.ref hp, .int form, .int depth] (f_Pa_function E S F st form depth) := by
  refine vx_ofW (cc := c_Pa_function) (maxL := 10) (ret := none) (by decide) rfl ?_
  intro p e s m args below meth c s₁ B hml hnt hv
  obtain ⟨rfl, hsz, hP, hK, hD0, hC, hZ⟩ := hv
  have hx := B.exec
  have hb := B.bytes
  have hr := B.returns
  have hts0 := atoms_spec (ws := wy y_Pa_function c_Pa_function 10 none) B.pre
  have hts := htsL hts0
  have hown : s.vm.findClass R_Pa = some m.cls := findClass_of_methodNamed B.named
  have hlocks := B.notSynchronized
  subst hsz
  have hD := hD0.self (sz := s.heap.size)
  generalize hAe : va_A (wQ cI cZ hp hc h a1 a2 a3 a4 ht hq n1 n2 (ad, st)) s.heap.size = A at hD hZ ⊢
  have hA : ∀ q : Nat, s.heap.size ≤ q → A q := fun q h => by rw [← hAe]; exact Or.inr h
  have hS : va_S A s.heap s.heap [] := va_S.rf
  have hcl : 0 + bC st ≤ bC st := Nat.le_of_eq (Nat.zero_add _)
  have hsl : 0 + bS st ≤ bS st := Nat.le_of_eq (Nat.zero_add _)
  have hl := lv_entry ([.ref hp, .int form, .int depth]) (n := 10) (Nat.le_of_ble_eq_true rfl)
  rw [lg_entry_eq]
  generalize (lg_sl ([.ref hp, .int form, .int depth]) ++ List.replicate (10 - (lg_sl ([.ref hp, .int form, .int depth])).length) Slot.unset).toArray = ls at hl ⊢
  have hl : lv_has ls 10 [(0, .ref hp), (1, .int form), (2, .int depth)] := hl
  refine lv_aload_n hx hb d_Pa_function_0 rfl (lv_at hl 0 rfl) ?_
  refine lv_iload_n hx hb d_Pa_function_1 rfl (lv_at hl 2 rfl) ?_
  refine mx_Uv (xm := ⟨"SyntaxTree$Parser", "guard", "(I)V"⟩) (owner := R_Cu) (As := [.int depth]) (rest := []) ⟨hx, hb, hml, hown, hts0⟩ (m_Cu_guard l hlt dC dI cI cZ sa rk hp hc h a1 a2 a3 a4 ht hq n1 n2 ad st hst _ depth (fun z => hg (by unfold f_Pa_function; rw [bnd_n z]))) hP hD hK hS hA hC hZ hnt hlocks L_453 L_454 L_456 L_457 L_86 L_458 rfl k_Cu_guard ⟨(by show _ ≤ fr0 + 10; omega), (by show _ ≤ lo0 + 369; omega)⟩ rfl rfl hl.1 (Nat.le_of_ble_eq_true rfl) d_Pa_function_2 rfl (fun q z => by unfold f_Pa_function; rw [bnd_l z]) hcl hsl (fun ad_1 st_1 H locs w_1 ok_1 e1_1 e2_1 hP hD hS => ?_)
  have hcl := cl_next hcl e1_1
  have hsl := cl_next hsl e2_1
  refine lv_aload_n hx hb d_Pa_function_5 rfl (lv_at hl 0 rfl) ?_
  refine lv_iload_n hx hb d_Pa_function_6 rfl (lv_at hl 1 rfl) ?_
  refine mx_Vi (As := [.int form]) (rest := []) ⟨hx, hb, hml, hown, hts0⟩ (m_Pa_functionName l hlt dC dI cI cZ sa rk hp hc h a1 a2 a3 a4 ht hq n1 n2 ad_1 st_1 ok_1 _ form (fun z => hg (by unfold f_Pa_function; rw [bnd_r w_1, bnd_n z]))) hP hD hK hS hA hC hZ hnt hlocks L_467 L_469 L_6 L_87 L_470 k_Pa_functionName ⟨(by show _ ≤ fr0 + 10; omega), (by show _ ≤ lo0 + 369; omega)⟩ rfl rfl hl.1 (Nat.le_of_ble_eq_true rfl) d_Pa_function_7 rfl (fun q z => by unfold f_Pa_function; rw [bnd_r w_1, bnd_l z]) hcl hsl (fun r_2 ad_2 st_2 H locs w_2 ok_2 e1_2 e2_2 hP hD hS => ?_)
  have hcl := cl_next hcl e1_2
  have hsl := cl_next hsl e2_2
  refine lv_istore_n (lv' := [(3, .int r_2), (0, .ref hp), (1, .int form), (2, .int depth)]) hx hb d_Pa_function_10 rfl hl (by decide) rfl (fun ls hl => ?_)
  refine lv_aload_n hx hb d_Pa_function_11 rfl (lv_at hl 1 rfl) ?_
  refine lv_iload_n hx hb d_Pa_function_12 rfl (lv_at hl 0 rfl) ?_
  refine lv_iload_n hx hb d_Pa_function_13 rfl (lv_at hl 2 rfl) ?_
  refine mx_Vv (As := [.int r_2, .int form]) (rest := []) ⟨hx, hb, hml, hown, hts0⟩ (m_Pa_parameters l hlt dC dI cI cZ sa rk hp hc h a1 a2 a3 a4 ht hq n1 n2 ad_2 st_2 ok_2 _ r_2 form (fun z => hg (by unfold f_Pa_function; rw [bnd_r w_1, bnd_r w_2, bnd_n z]))) hP hD hK hS hA hC hZ hnt hlocks L_506 L_508 L_7 L_87 L_509 k_Pa_parameters ⟨(by show _ ≤ fr0 + 10; omega), (by show _ ≤ lo0 + 369; omega)⟩ rfl rfl hl.1 (Nat.le_of_ble_eq_true rfl) d_Pa_function_14 rfl (fun q z => by unfold f_Pa_function; rw [bnd_r w_1, bnd_r w_2, bnd_l z]) hcl hsl (fun ad_3 st_3 H locs w_3 ok_3 e1_3 e2_3 hP hD hS => ?_)
  have hcl := cl_next hcl e1_3
  have hsl := cl_next hsl e2_3
  refine lv_aload_n hx hb d_Pa_function_17 rfl (lv_at hl 1 rfl) ?_
  refine va_get (D := (dC, dI)) (ci := 2) (v := .int (sAt st_3)) (C := R_Pa) (T := T_Pa) (N := 7) hx hb hts u_Pa hown hK hP 0 rfl rfl 4 (by decide) (hts _ L_215) (fun x9 h9 => u_same (hts _ L_216) x9 h9) rfl d_Pa_function_18 ?_
  refine lv_istore (lv' := [(4, .int (sAt st_3)), (3, .int r_2), (0, .ref hp), (1, .int form), (2, .int depth)]) hx hb d_Pa_function_21 hl (by decide) rfl (fun ls hl => ?_)
  refine lv_aload_n hx hb d_Pa_function_23 rfl (lv_at hl 2 rfl) ?_
  refine lv_bipush (v := 64) hx hb d_Pa_function_24 (by decide) ?_
  refine mx_Uv (xm := ⟨"SyntaxTree$Parser", "expect", "(I)V"⟩) (owner := R_Cu) (As := [.int 64]) (rest := []) ⟨hx, hb, hml, hown, hts0⟩ (m_Cu_expect l hlt dC dI cI cZ sa rk hp hc h a1 a2 a3 a4 ht hq n1 n2 ad_3 st_3 ok_3 _ 64 (fun z => hg (by unfold f_Pa_function; rw [bnd_r w_1, bnd_r w_2, bnd_r w_3, bnd_n z]))) hP hD hK hS hA hC hZ hnt hlocks L_510 L_511 L_513 L_514 L_86 L_515 rfl k_Cu_expect ⟨(by show _ ≤ fr0 + 10; omega), (by show _ ≤ lo0 + 369; omega)⟩ rfl rfl hl.1 (Nat.le_of_ble_eq_true rfl) d_Pa_function_26 rfl (fun q z => by unfold f_Pa_function; rw [bnd_r w_1, bnd_r w_2, bnd_r w_3, bnd_l z]) hcl hsl (fun ad_4 st_4 H locs w_4 ok_4 e1_4 e2_4 hP hD hS => ?_)
  have hcl := cl_next hcl e1_4
  have hsl := cl_next hsl e2_4
  refine lv_aload_n hx hb d_Pa_function_29 rfl (lv_at hl 2 rfl) ?_
  refine va_get (D := (dC, dI)) (ci := 2) (v := .ref ht) (C := R_Pa) (T := T_Pa) (N := 7) hx hb hts u_Pa hown hK hP 0 rfl rfl 0 (by decide) (hts _ L_208) (fun _ h9 => h9) rfl d_Pa_function_30 ?_
  refine lv_bipush (v := 26) hx hb d_Pa_function_33 (by decide) ?_
  refine lv_iconst (v := 0) hx hb d_Pa_function_35 (by decide) ?_
  refine lv_iload hx hb d_Pa_function_36 (lv_at hl 0 rfl) ?_
  have hn_5 : (p_open st_4 26 0 (sAt st_3)) ≠ none := (fun z => hg (by unfold f_Pa_function; rw [bnd_r w_1, bnd_r w_2, bnd_r w_3, bnd_r w_4, bnd_n z]))
  refine pT_i (g := (p_open st_4 26 0 (sAt st_3))) (st := st_4) (As := [.int 26, .int 0, .int (sAt st_3)]) (rest := []) ⟨hx, hb, hml, hown, hts0⟩ (m_Tr_open l dC dI cI cZ sa rk ht ad_4 (sTr st_4) ok_4.2.1 _ 26 0 (sAt st_3) (p_open_c hn_5).1 (p_open_c hn_5).2.1) hP hD hK hS hA hC hZ L_416 L_417 L_418 L_85 L_419 ⟨rfl, k_Tr_open⟩ ⟨(by show _ ≤ fr0 + 10; omega), (by show _ ≤ lo0 + 369; omega)⟩ rfl rfl hl.1 (Nat.le_of_ble_eq_true rfl) d_Pa_function_38 rfl hcl hsl (p_open_c hn_5).2.2.1 (p_open_c hn_5).2.2.2 ok_4 (t_open_ok 26 0 (sAt st_3) ok_4.2.1 (p_open_c hn_5).1 (p_open_c hn_5).2.1) (p_open_e hn_5) (fun r_5 ad_5 st_5 H locs w_5 ok_5 e1_5 e2_5 hP hD hS => ?_)
  have hcl := cl_next hcl e1_5
  have hsl := cl_next hsl e2_5
  refine lv_istore (lv' := [(5, .int r_5), (4, .int (sAt st_3)), (3, .int r_2), (0, .ref hp), (1, .int form), (2, .int depth)]) hx hb d_Pa_function_41 hl (by decide) rfl (fun ls hl => ?_)
  refine lv_aload_n hx hb d_Pa_function_43 rfl (lv_at hl 3 rfl) ?_
  refine va_get (D := (dC, dI)) (ci := 2) (v := .ref hc) (C := R_Pa) (T := T_Pa) (N := 7) hx hb hts u_Pa hown hK hP 0 rfl rfl 6 (by decide) (hts _ L_221) (fun x9 h9 => u_same (hts _ L_222) x9 h9) rfl d_Pa_function_44 ?_
  refine lv_astore (lv' := [(6, .ref hc), (5, .int r_5), (4, .int (sAt st_3)), (3, .int r_2), (0, .ref hp), (1, .int form), (2, .int depth)]) hx hb d_Pa_function_47 hl (by decide) rfl (fun ls hl => ?_)
  refine lv_aload_n hx hb d_Pa_function_49 rfl (lv_at hl 4 rfl) ?_
  by_cases cb_6 : bC st_5 < 1 ∨ bS st_5 < 5
  case pos => exact absurd (by unfold f_Pa_function; rw [bnd_r w_1, bnd_r w_2, bnd_r w_3, bnd_r w_4, bnd_r w_5, if_pos cb_6]) hg
  refine va_new (ci := 0) (fs := [.int 0, .int 0, .int 0, .int 0, .int 0]) (C := R_Co) (T := T_Co) (N := 5) hx hb hts u_Co ty_Co tk_Co hown (hts _ L_402) (hts _ L_164) (hts _ L_88) hK hP hD hS hA rfl (fun j hj => by rcases (show j = 0 ∨ j = 1 ∨ j = 2 ∨ j = 3 ∨ j = 4 by omega) with rfl | rfl | rfl | rfl | rfl <;> rfl) (by show _ + 1 ≤ bC st; omega) (by show _ + 5 ≤ bS st; omega) d_Pa_function_50 (fun hcn H hP hD hS => ?_)
  have hP : va_P (dC, dI) cls ((hcn, .inr (0, [.int 0, .int 0, .int 0, .int 0, .int 0])) :: (wQ cI cZ hp hc h a1 a2 a3 a4 ht hq n1 n2 (ad_5, (setB st_5 (bC st_5 - 1) (bS st_5 - 5))))) H := hP.sub [15, 0, 1, 2, 3, 4, 5, 6, 7, 8, 9, 10, 11, 12, 13, 14] rfl
  have hD : va_D A ((hcn, .inr (0, [.int 0, .int 0, .int 0, .int 0, .int 0])) :: (wQ cI cZ hp hc h a1 a2 a3 a4 ht hq n1 n2 (ad_5, (setB st_5 (bC st_5 - 1) (bS st_5 - 5))))) := hD.sub [15, 0, 1, 2, 3, 4, 5, 6, 7, 8, 9, 10, 11, 12, 13, 14] (by decide) rfl
  have hcl := cl_newC (y := (bS st_5 - 5)) hcl cb_6
  have hsl := cl_newS (y := (bC st_5 - 1)) hsl cb_6
  refine lv_dup hx hb d_Pa_function_53 rfl ?_
  refine lv_iconst (v := 1) hx hb d_Pa_function_54 (by decide) ?_
  refine lv_aload hx hb d_Pa_function_55 (lv_at hl 0 rfl) ?_
  refine va_get (D := (dC, dI)) (ci := 0) (v := .int (coS st_5)) (C := R_Co) (T := T_Co) (N := 5) hx hb hts u_Co hown hK hP 2 rfl rfl 2 (by decide) (hts _ L_174) (fun _ h9 => h9) rfl d_Pa_function_57 ?_
  refine lv_aload_n hx hb d_Pa_function_60 rfl (lv_at hl 4 rfl) ?_
  refine va_get (D := (dC, dI)) (ci := 2) (v := .ref hq) (C := R_Pa) (T := T_Pa) (N := 7) hx hb hts u_Pa hown hK hP 1 rfl rfl 1 (by decide) (hts _ L_209) (fun _ h9 => h9) rfl d_Pa_function_61 ?_
  refine rd_V (v := (f_La_count (sLb st_5))) (As := []) (rest := [.int (coS st_5), .int 1, .ref hcn, .ref hcn, .ref hp]) ⟨hx, hb, hml, hown, hts0⟩ (m_La_count l dC dI cI cZ hq n1 n2 (sLb st_5) ok_5.2.2.1 ) hP hK [13, 14, 15] rfl [0, 1] rfl 0 1 rfl rfl L_552 L_553 L_554 L_89 L_555 ⟨rfl, k_La_count⟩ ⟨(by show _ ≤ fr0 + 10; omega), (by show _ ≤ lo0 + 369; omega)⟩ hl.1 ⟨Nat.le_trans (Nat.le_add_right _ _) hcl, Nat.le_trans (Nat.le_add_right _ _) hsl⟩ (Nat.le_of_ble_eq_true rfl) d_Pa_function_64 rfl ?_
  refine co_I (fl := (f_La_count (sLb st_5))) (s9 := (coS st_5)) (f := 1) (rest := [.ref hcn, .ref hp]) ⟨hx, hb, hml, hown, hts0⟩ (Or.inr rfl) ok_5.2.2.2 hP hD hK hS hA hC hZ L_403 L_166 L_88 L_167 ⟨(by show _ ≤ fr0 + 10; omega), (by show _ ≤ lo0 + 369; omega)⟩ hl.1 ⟨Nat.le_trans (Nat.le_add_right _ _) hcl, Nat.le_trans (Nat.le_add_right _ _) hsl⟩ (Nat.le_of_ble_eq_true rfl) d_Pa_function_67 (fun H locs hP hD hS => ?_)
  refine va_put (D := (dC, dI)) (ci := 2) (v := .ref hcn) (ty := .object "SyntaxTree$Code") (C := R_Pa) (T := T_Pa) (N := 7) hx hb hts u_Pa ty_Pa tk_Pa nm_Pa hown hK hP hD hS 1 rfl rfl 6 (by decide) (hts _ L_221) (fun x9 h9 => u_same (hts _ L_222) x9 h9) rfl (by decide +kernel) rfl rfl (Nat.le_of_ble_eq_true rfl) d_Pa_function_70 (fun H locs hP hD hS => ?_)
  have hP : va_P (dC, dI) cls ((hc, .inr (0, [.int (coF st_5), .int (coL st_5), .int (coS st_5), .int (coP st_5), .int (coW st_5)])) :: (wQ cI cZ hp hcn h a1 a2 a3 a4 ht hq n1 n2 (ad_5, (setB (setCo st_5 (1, (f_La_count (sLb st_5)), (coS st_5), 0, 0)) (bC st_5 - 1) (bS st_5 - 5))))) H := hP.sub [2, 1, 0, 3, 4, 5, 6, 7, 8, 9, 10, 11, 12, 13, 14, 15] rfl
  have hD : va_D A ((hc, .inr (0, [.int (coF st_5), .int (coL st_5), .int (coS st_5), .int (coP st_5), .int (coW st_5)])) :: (wQ cI cZ hp hcn h a1 a2 a3 a4 ht hq n1 n2 (ad_5, (setB (setCo st_5 (1, (f_La_count (sLb st_5)), (coS st_5), 0, 0)) (bC st_5 - 1) (bS st_5 - 5))))) := hD.sub [2, 1, 0, 3, 4, 5, 6, 7, 8, 9, 10, 11, 12, 13, 14, 15] (by decide) rfl
  refine lv_iconst (v := 1) hx hb d_Pa_function_73 (by decide) ?_
  refine lv_istore (lv' := [(7, .int 1), (6, .ref hc), (5, .int r_5), (4, .int (sAt st_3)), (3, .int r_2), (0, .ref hp), (1, .int form), (2, .int depth)]) hx hb d_Pa_function_74 hl (by decide) rfl (fun ls hl => ?_)
  refine lv_iconst (v := 0) hx hb d_Pa_function_76 (by decide) ?_
  refine lv_istore (lv' := [(8, .int 0), (7, .int 1), (6, .ref hc), (5, .int r_5), (4, .int (sAt st_3)), (3, .int r_2), (0, .ref hp), (1, .int form), (2, .int depth)]) hx hb d_Pa_function_77 hl (by decide) rfl (fun ls hl => ?_)
  obtain ⟨x_7, hx_7⟩ : ∃ z, f_Pa_function_L79 E S F form depth r_2 r_5 5000 1 0 (setB (setCo st_5 (1, (f_La_count (sLb st_5)), (coS st_5), 0, 0)) (bC st_5 - 1) (bS st_5 - 5)) = z := ⟨_, rfl⟩
  have hn_7 : x_7 ≠ none := (fun z => hg (by unfold f_Pa_function; rw [bnd_r w_1, bnd_r w_2, bnd_r w_3, bnd_r w_4, bnd_r w_5, if_neg cb_6, bnd_n (hx_7.trans z)]))
  have hX_7 : ∀ q, x_7 = some (.inl q) → (f_Pa_function E S F st form depth) = some (.inl q) := (fun q z => by unfold f_Pa_function; rw [bnd_r w_1, bnd_r w_2, bnd_r w_3, bnd_r w_4, bnd_r w_5, if_neg cb_6, bnd_l (hx_7.trans z)])
  have lp_7 : ∀ (fu : Nat) (x7 x8 : Int32) (ax_7 : AD) (sx_7 : ST) (okx_7 : okSt sx_7) (H : Heap) (locs : List Loc) (ls : Array Slot) (cells slots : Nat), va_P (dC, dI) cls ((hc, .inr (0, [.int (coF st_5), .int (coL st_5), .int (coS st_5), .int (coP st_5), .int (coW st_5)])) :: (wQ cI cZ hp hcn h a1 a2 a3 a4 ht hq n1 n2 (ax_7, sx_7))) H → va_D A ((hc, .inr (0, [.int (coF st_5), .int (coL st_5), .int (coS st_5), .int (coP st_5), .int (coW st_5)])) :: (wQ cI cZ hp hcn h a1 a2 a3 a4 ht hq n1 n2 (ax_7, sx_7))) → va_S A s.heap H locs → lv_has ls 10 [(0, .ref hp), (1, .int form), (2, .int depth), (3, .int r_2), (4, .int (sAt st_3)), (5, .int r_5), (6, .ref hc), (7, .int x7), (8, .int x8)] → cells + bC sx_7 ≤ bC st → slots + bS sx_7 ≤ bS st → x_7 = f_Pa_function_L79 E S F form depth r_2 r_5 fu x7 x8 sx_7 → W p l e (headSpec (wy y_Pa_function c_Pa_function 10 none) { frames := (fr0 + 10), cells := bC st, slots := bS st, locals := (lo0 + 369) }).room s m [.ref hp, .int form, .int depth].toArray below meth c H locs cells slots (vx_MQ below (va_Qv (poN (f_Pa_function E S F st form depth) st 0) (wB (dC, dI) cI cZ A (wQ cI cZ hp hc h a1 a2 a3 a4 ht hq n1 n2)) A) (xP (dC, dI) cI cZ hp h a1 a2 a3 a4 ht hq n1 n2 (f_Pa_function E S F st form depth) st A) [.ref hp, .int form, .int depth].toArray s (mcO st (f_Pa_function E S F st form depth)) (msO st (f_Pa_function E S F st form depth)) A) (F0 m 79 ls []) := by
    intro fu
    induction fu with
    | zero => intro x7 x8 ax_7 sx_7 okx_7 H locs ls cells slots hP hD hS hl hcl hsl hL_7; exact absurd (hL_7.trans rfl) hn_7
    | succ fu_7 ih_7 =>
      intro x7 x8 ax_7 sx_7 okx_7 H locs ls cells slots hP hD hS hl hcl hsl hL_7
      rw [f_Pa_function_L79] at hL_7
      refine lv_iload hx hb d_Pa_function_79 (lv_at hl 8 rfl) ?_
      refine lv_sipush (v := 1000) hx hb d_Pa_function_81 (by decide) ?_
      refine lv_icmp_gt (tgt := 188) hx hb d_Pa_function_84 (by decide) (fun c_8 => ?_) (fun c_8 => ?_)
      · rw [if_pos c_8] at hL_7
        have we_7 : f_Pa_function_L79 E S F form depth r_2 r_5 5000 1 0 (setB (setCo st_5 (1, (f_La_count (sLb st_5)), (coS st_5), 0, 0)) (bC st_5 - 1) (bS st_5 - 5)) = some (.inr (0, sx_7)) := hx_7.trans hL_7
        have hl := lv_sub hl (l' := [(0, .ref hp), (1, .int form), (2, .int depth), (3, .int r_2), (4, .int (sAt st_3)), (5, .int r_5), (6, .ref hc)]) [0, 1, 2, 3, 4, 5, 6] rfl
        refine lv_aload_n hx hb d_Pa_function_188 rfl (lv_at hl 0 rfl) ?_
        refine va_get (D := (dC, dI)) (ci := 2) (v := .ref ht) (C := R_Pa) (T := T_Pa) (N := 7) hx hb hts u_Pa hown hK hP 1 rfl rfl 0 (by decide) (hts _ L_208) (fun _ h9 => h9) rfl d_Pa_function_189 ?_
        refine lv_iload hx hb d_Pa_function_192 (lv_at hl 5 rfl) ?_
        refine lv_aload_n hx hb d_Pa_function_194 rfl (lv_at hl 0 rfl) ?_
        refine va_get (D := (dC, dI)) (ci := 2) (v := .ref hcn) (C := R_Pa) (T := T_Pa) (N := 7) hx hb hts u_Pa hown hK hP 1 rfl rfl 6 (by decide) (hts _ L_221) (fun x9 h9 => u_same (hts _ L_222) x9 h9) rfl d_Pa_function_195 ?_
        refine va_get (D := (dC, dI)) (ci := 0) (v := .int (coS sx_7)) (C := R_Co) (T := T_Co) (N := 5) hx hb hts u_Co hown hK hP 2 rfl rfl 2 (by decide) (hts _ L_174) (fun _ h9 => h9) rfl d_Pa_function_198 ?_
        refine lv_if_eq (tgt := 208) hx hb d_Pa_function_201 (by decide) (fun c_9 => ?_) (fun c_9 => ?_)
        · refine lv_iconst (v := 0) hx hb d_Pa_function_208 (by decide) ?_
          refine pT_vF (g := (p_setValue sx_7 r_5 0)) (st := sx_7) (As := [.int r_5, .int 0]) (rest := []) ⟨hx, hb, hml, hown, hts0⟩ (m_Tr_setValue l dC dI cI cZ sa rk ht ax_7 (sTr sx_7) okx_7.2.1 _ r_5 0) hP hD hK hS hA hC hZ L_488 L_489 L_490 L_85 L_491 ⟨rfl, k_Tr_setValue⟩ ⟨(by show _ ≤ fr0 + 10; omega), (by show _ ≤ lo0 + 369; omega)⟩ rfl rfl hl.1 (Nat.le_of_ble_eq_true rfl) d_Pa_function_209 rfl hcl hsl (Nat.zero_le _) (Nat.zero_le _) okx_7 (t_setValue_ok r_5 0 okx_7.2.1) rfl (fun ad_10 st_10 H locs w_10 ok_10 e1_10 e2_10 hP hD hS => ?_)
          have hcl := cl_next hcl e1_10
          have hsl := cl_next hsl e2_10
          refine lv_aload_n hx hb d_Pa_function_212 rfl (lv_at hl 0 rfl) ?_
          refine lv_aload hx hb d_Pa_function_213 (lv_at hl 6 rfl) ?_
          refine va_put (D := (dC, dI)) (ci := 2) (v := .ref hc) (ty := .object "SyntaxTree$Code") (C := R_Pa) (T := T_Pa) (N := 7) hx hb hts u_Pa ty_Pa tk_Pa nm_Pa hown hK hP hD hS 1 rfl rfl 6 (by decide) (hts _ L_221) (fun x9 h9 => u_same (hts _ L_222) x9 h9) rfl (by decide +kernel) rfl rfl (Nat.le_of_ble_eq_true rfl) d_Pa_function_215 (fun H locs hP hD hS => ?_)
          have hP : va_P (dC, dI) cls (wQ cI cZ hp hc h a1 a2 a3 a4 ht hq n1 n2 (ad_10, (setCo st_10 ((coF st_5), (coL st_5), (coS st_5), (coP st_5), (coW st_5))))) H := hP.sub [1, 0, 3, 4, 5, 6, 7, 8, 9, 10, 11, 12, 13, 14, 15] rfl
          have hD : va_D A (wQ cI cZ hp hc h a1 a2 a3 a4 ht hq n1 n2 (ad_10, (setCo st_10 ((coF st_5), (coL st_5), (coS st_5), (coP st_5), (coW st_5))))) := hD.sub [1, 0, 3, 4, 5, 6, 7, 8, 9, 10, 11, 12, 13, 14, 15] (by decide) rfl
          refine lv_aload_n hx hb d_Pa_function_218 rfl (lv_at hl 0 rfl) ?_
          refine va_get (D := (dC, dI)) (ci := 2) (v := .ref ht) (C := R_Pa) (T := T_Pa) (N := 7) hx hb hts u_Pa hown hK hP 0 rfl rfl 0 (by decide) (hts _ L_208) (fun _ h9 => h9) rfl d_Pa_function_219 ?_
          refine lv_iload hx hb d_Pa_function_222 (lv_at hl 5 rfl) ?_
          refine pT_v (g := (p_close (setCo st_10 ((coF st_5), (coL st_5), (coS st_5), (coP st_5), (coW st_5))) r_5)) (st := (setCo st_10 ((coF st_5), (coL st_5), (coS st_5), (coP st_5), (coW st_5)))) (As := [.int r_5]) (rest := []) ⟨hx, hb, hml, hown, hts0⟩ (m_Tr_close l dC dI cI cZ sa rk ht ad_10 (sTr st_10) ok_10.2.1 _ r_5) hP hD hK hS hA hC hZ L_582 L_583 L_584 L_85 L_585 ⟨rfl, k_Tr_close⟩ ⟨(by show _ ≤ fr0 + 10; omega), (by show _ ≤ lo0 + 369; omega)⟩ rfl rfl hl.1 (Nat.le_of_ble_eq_true rfl) d_Pa_function_224 rfl hcl hsl (Nat.zero_le _) (Nat.zero_le _) (show okSt (setCo st_10 ((coF st_5), (coL st_5), (coS st_5), (coP st_5), (coW st_5))) from ⟨ok_10.1, ok_10.2.1, ok_10.2.2.1, ok_5.2.2.2⟩) (t_close_ok r_5 ok_10.2.1) rfl (fun ad_11 st_11 H locs w_11 ok_11 e1_11 e2_11 hP hD hS => ?_)
          have hcl := cl_next hcl e1_11
          have hsl := cl_next hsl e2_11
          refine lv_aload_n hx hb d_Pa_function_227 rfl (lv_at hl 0 rfl) ?_
          refine va_get (D := (dC, dI)) (ci := 2) (v := .ref ht) (C := R_Pa) (T := T_Pa) (N := 7) hx hb hts u_Pa hown hK hP 0 rfl rfl 0 (by decide) (hts _ L_208) (fun _ h9 => h9) rfl d_Pa_function_228 ?_
          refine lv_iload_n hx hb d_Pa_function_231 rfl (lv_at hl 3 rfl) ?_
          refine pT_v (g := (p_close st_11 r_2)) (st := st_11) (As := [.int r_2]) (rest := []) ⟨hx, hb, hml, hown, hts0⟩ (m_Tr_close l dC dI cI cZ sa rk ht ad_11 (sTr st_11) ok_11.2.1 _ r_2) hP hD hK hS hA hC hZ L_582 L_583 L_584 L_85 L_585 ⟨rfl, k_Tr_close⟩ ⟨(by show _ ≤ fr0 + 10; omega), (by show _ ≤ lo0 + 369; omega)⟩ rfl rfl hl.1 (Nat.le_of_ble_eq_true rfl) d_Pa_function_232 rfl hcl hsl (Nat.zero_le _) (Nat.zero_le _) ok_11 (t_close_ok r_2 ok_11.2.1) rfl (fun ad_12 st_12 H locs w_12 ok_12 e1_12 e2_12 hP hD hS => ?_)
          have hcl := cl_next hcl e1_12
          have hsl := cl_next hsl e2_12
          exact mx_vret (stF := st_12) hx hb hr hlocks hK hP hD hS hcl hsl (by unfold f_Pa_function; rw [bnd_r w_1, bnd_r w_2, bnd_r w_3, bnd_r w_4, bnd_r w_5, if_neg cb_6, bnd_r we_7, if_pos c_9, bnd_r w_10, bnd_r w_11, bnd_r w_12]) ok_12 d_Pa_function_235
        · refine lv_iconst (v := 1) hx hb d_Pa_function_204 (by decide) ?_
          refine lv_goto (tgt := 209) hx hb d_Pa_function_205 (by decide) ?_
          refine pT_vF (g := (p_setValue sx_7 r_5 1)) (st := sx_7) (As := [.int r_5, .int 1]) (rest := []) ⟨hx, hb, hml, hown, hts0⟩ (m_Tr_setValue l dC dI cI cZ sa rk ht ax_7 (sTr sx_7) okx_7.2.1 _ r_5 1) hP hD hK hS hA hC hZ L_488 L_489 L_490 L_85 L_491 ⟨rfl, k_Tr_setValue⟩ ⟨(by show _ ≤ fr0 + 10; omega), (by show _ ≤ lo0 + 369; omega)⟩ rfl rfl hl.1 (Nat.le_of_ble_eq_true rfl) d_Pa_function_209 rfl hcl hsl (Nat.zero_le _) (Nat.zero_le _) okx_7 (t_setValue_ok r_5 1 okx_7.2.1) rfl (fun ad_13 st_13 H locs w_13 ok_13 e1_13 e2_13 hP hD hS => ?_)
          have hcl := cl_next hcl e1_13
          have hsl := cl_next hsl e2_13
          refine lv_aload_n hx hb d_Pa_function_212 rfl (lv_at hl 0 rfl) ?_
          refine lv_aload hx hb d_Pa_function_213 (lv_at hl 6 rfl) ?_
          refine va_put (D := (dC, dI)) (ci := 2) (v := .ref hc) (ty := .object "SyntaxTree$Code") (C := R_Pa) (T := T_Pa) (N := 7) hx hb hts u_Pa ty_Pa tk_Pa nm_Pa hown hK hP hD hS 1 rfl rfl 6 (by decide) (hts _ L_221) (fun x9 h9 => u_same (hts _ L_222) x9 h9) rfl (by decide +kernel) rfl rfl (Nat.le_of_ble_eq_true rfl) d_Pa_function_215 (fun H locs hP hD hS => ?_)
          have hP : va_P (dC, dI) cls (wQ cI cZ hp hc h a1 a2 a3 a4 ht hq n1 n2 (ad_13, (setCo st_13 ((coF st_5), (coL st_5), (coS st_5), (coP st_5), (coW st_5))))) H := hP.sub [1, 0, 3, 4, 5, 6, 7, 8, 9, 10, 11, 12, 13, 14, 15] rfl
          have hD : va_D A (wQ cI cZ hp hc h a1 a2 a3 a4 ht hq n1 n2 (ad_13, (setCo st_13 ((coF st_5), (coL st_5), (coS st_5), (coP st_5), (coW st_5))))) := hD.sub [1, 0, 3, 4, 5, 6, 7, 8, 9, 10, 11, 12, 13, 14, 15] (by decide) rfl
          refine lv_aload_n hx hb d_Pa_function_218 rfl (lv_at hl 0 rfl) ?_
          refine va_get (D := (dC, dI)) (ci := 2) (v := .ref ht) (C := R_Pa) (T := T_Pa) (N := 7) hx hb hts u_Pa hown hK hP 0 rfl rfl 0 (by decide) (hts _ L_208) (fun _ h9 => h9) rfl d_Pa_function_219 ?_
          refine lv_iload hx hb d_Pa_function_222 (lv_at hl 5 rfl) ?_
          refine pT_v (g := (p_close (setCo st_13 ((coF st_5), (coL st_5), (coS st_5), (coP st_5), (coW st_5))) r_5)) (st := (setCo st_13 ((coF st_5), (coL st_5), (coS st_5), (coP st_5), (coW st_5)))) (As := [.int r_5]) (rest := []) ⟨hx, hb, hml, hown, hts0⟩ (m_Tr_close l dC dI cI cZ sa rk ht ad_13 (sTr st_13) ok_13.2.1 _ r_5) hP hD hK hS hA hC hZ L_582 L_583 L_584 L_85 L_585 ⟨rfl, k_Tr_close⟩ ⟨(by show _ ≤ fr0 + 10; omega), (by show _ ≤ lo0 + 369; omega)⟩ rfl rfl hl.1 (Nat.le_of_ble_eq_true rfl) d_Pa_function_224 rfl hcl hsl (Nat.zero_le _) (Nat.zero_le _) (show okSt (setCo st_13 ((coF st_5), (coL st_5), (coS st_5), (coP st_5), (coW st_5))) from ⟨ok_13.1, ok_13.2.1, ok_13.2.2.1, ok_5.2.2.2⟩) (t_close_ok r_5 ok_13.2.1) rfl (fun ad_14 st_14 H locs w_14 ok_14 e1_14 e2_14 hP hD hS => ?_)
          have hcl := cl_next hcl e1_14
          have hsl := cl_next hsl e2_14
          refine lv_aload_n hx hb d_Pa_function_227 rfl (lv_at hl 0 rfl) ?_
          refine va_get (D := (dC, dI)) (ci := 2) (v := .ref ht) (C := R_Pa) (T := T_Pa) (N := 7) hx hb hts u_Pa hown hK hP 0 rfl rfl 0 (by decide) (hts _ L_208) (fun _ h9 => h9) rfl d_Pa_function_228 ?_
          refine lv_iload_n hx hb d_Pa_function_231 rfl (lv_at hl 3 rfl) ?_
          refine pT_v (g := (p_close st_14 r_2)) (st := st_14) (As := [.int r_2]) (rest := []) ⟨hx, hb, hml, hown, hts0⟩ (m_Tr_close l dC dI cI cZ sa rk ht ad_14 (sTr st_14) ok_14.2.1 _ r_2) hP hD hK hS hA hC hZ L_582 L_583 L_584 L_85 L_585 ⟨rfl, k_Tr_close⟩ ⟨(by show _ ≤ fr0 + 10; omega), (by show _ ≤ lo0 + 369; omega)⟩ rfl rfl hl.1 (Nat.le_of_ble_eq_true rfl) d_Pa_function_232 rfl hcl hsl (Nat.zero_le _) (Nat.zero_le _) ok_14 (t_close_ok r_2 ok_14.2.1) rfl (fun ad_15 st_15 H locs w_15 ok_15 e1_15 e2_15 hP hD hS => ?_)
          have hcl := cl_next hcl e1_15
          have hsl := cl_next hsl e2_15
          exact mx_vret (stF := st_15) hx hb hr hlocks hK hP hD hS hcl hsl (by unfold f_Pa_function; rw [bnd_r w_1, bnd_r w_2, bnd_r w_3, bnd_r w_4, bnd_r w_5, if_neg cb_6, bnd_r we_7, if_neg c_9, bnd_r w_13, bnd_r w_14, bnd_r w_15]) ok_15 d_Pa_function_235
      · rw [if_neg c_8] at hL_7
        refine lv_aload_n hx hb d_Pa_function_87 rfl (lv_at hl 0 rfl) ?_
        refine lv_bipush (v := 65) hx hb d_Pa_function_88 (by decide) ?_
        refine mx_UiF (xm := ⟨"SyntaxTree$Parser", "accept", "(I)Z"⟩) (owner := R_Cu) (As := [.int 65]) (rest := []) ⟨hx, hb, hml, hown, hts0⟩ (m_Cu_accept l hlt dC dI cI cZ sa rk hp hcn h a1 a2 a3 a4 ht hq n1 n2 ax_7 sx_7 okx_7 _ 65 (fun z => hn_7 (hL_7.trans (bnd_n z)))) hP hD hK hS hA hC hZ hnt hlocks L_556 L_557 L_559 L_547 L_86 L_550 rfl k_Cu_accept ⟨(by show _ ≤ fr0 + 10; omega), (by show _ ≤ lo0 + 369; omega)⟩ rfl rfl hl.1 (Nat.le_of_ble_eq_true rfl) d_Pa_function_90 rfl (fun q z => hX_7 q (hL_7.trans (bnd_l z))) hcl hsl (fun r_16 ad_16 st_16 H locs w_16 ok_16 e1_16 e2_16 hP hD hS => ?_)
        have hcl := cl_next hcl e1_16
        have hsl := cl_next hsl e2_16
        rw [bnd_r w_16] at hL_7
        refine lv_if_ne (tgt := 188) hx hb d_Pa_function_93 (by decide) (fun c_17 => ?_) (fun c_17 => ?_)
        · rw [if_neg c_17] at hL_7
          have we_7 : f_Pa_function_L79 E S F form depth r_2 r_5 5000 1 0 (setB (setCo st_5 (1, (f_La_count (sLb st_5)), (coS st_5), 0, 0)) (bC st_5 - 1) (bS st_5 - 5)) = some (.inr (0, st_16)) := hx_7.trans hL_7
          have hl := lv_sub hl (l' := [(0, .ref hp), (1, .int form), (2, .int depth), (3, .int r_2), (4, .int (sAt st_3)), (5, .int r_5), (6, .ref hc)]) [0, 1, 2, 3, 4, 5, 6] rfl
          refine lv_aload_n hx hb d_Pa_function_188 rfl (lv_at hl 0 rfl) ?_
          refine va_get (D := (dC, dI)) (ci := 2) (v := .ref ht) (C := R_Pa) (T := T_Pa) (N := 7) hx hb hts u_Pa hown hK hP 1 rfl rfl 0 (by decide) (hts _ L_208) (fun _ h9 => h9) rfl d_Pa_function_189 ?_
          refine lv_iload hx hb d_Pa_function_192 (lv_at hl 5 rfl) ?_
          refine lv_aload_n hx hb d_Pa_function_194 rfl (lv_at hl 0 rfl) ?_
          refine va_get (D := (dC, dI)) (ci := 2) (v := .ref hcn) (C := R_Pa) (T := T_Pa) (N := 7) hx hb hts u_Pa hown hK hP 1 rfl rfl 6 (by decide) (hts _ L_221) (fun x9 h9 => u_same (hts _ L_222) x9 h9) rfl d_Pa_function_195 ?_
          refine va_get (D := (dC, dI)) (ci := 0) (v := .int (coS st_16)) (C := R_Co) (T := T_Co) (N := 5) hx hb hts u_Co hown hK hP 2 rfl rfl 2 (by decide) (hts _ L_174) (fun _ h9 => h9) rfl d_Pa_function_198 ?_
          refine lv_if_eq (tgt := 208) hx hb d_Pa_function_201 (by decide) (fun c_18 => ?_) (fun c_18 => ?_)
          · refine lv_iconst (v := 0) hx hb d_Pa_function_208 (by decide) ?_
            refine pT_vF (g := (p_setValue st_16 r_5 0)) (st := st_16) (As := [.int r_5, .int 0]) (rest := []) ⟨hx, hb, hml, hown, hts0⟩ (m_Tr_setValue l dC dI cI cZ sa rk ht ad_16 (sTr st_16) ok_16.2.1 _ r_5 0) hP hD hK hS hA hC hZ L_488 L_489 L_490 L_85 L_491 ⟨rfl, k_Tr_setValue⟩ ⟨(by show _ ≤ fr0 + 10; omega), (by show _ ≤ lo0 + 369; omega)⟩ rfl rfl hl.1 (Nat.le_of_ble_eq_true rfl) d_Pa_function_209 rfl hcl hsl (Nat.zero_le _) (Nat.zero_le _) ok_16 (t_setValue_ok r_5 0 ok_16.2.1) rfl (fun ad_19 st_19 H locs w_19 ok_19 e1_19 e2_19 hP hD hS => ?_)
            have hcl := cl_next hcl e1_19
            have hsl := cl_next hsl e2_19
            refine lv_aload_n hx hb d_Pa_function_212 rfl (lv_at hl 0 rfl) ?_
            refine lv_aload hx hb d_Pa_function_213 (lv_at hl 6 rfl) ?_
            refine va_put (D := (dC, dI)) (ci := 2) (v := .ref hc) (ty := .object "SyntaxTree$Code") (C := R_Pa) (T := T_Pa) (N := 7) hx hb hts u_Pa ty_Pa tk_Pa nm_Pa hown hK hP hD hS 1 rfl rfl 6 (by decide) (hts _ L_221) (fun x9 h9 => u_same (hts _ L_222) x9 h9) rfl (by decide +kernel) rfl rfl (Nat.le_of_ble_eq_true rfl) d_Pa_function_215 (fun H locs hP hD hS => ?_)
            have hP : va_P (dC, dI) cls (wQ cI cZ hp hc h a1 a2 a3 a4 ht hq n1 n2 (ad_19, (setCo st_19 ((coF st_5), (coL st_5), (coS st_5), (coP st_5), (coW st_5))))) H := hP.sub [1, 0, 3, 4, 5, 6, 7, 8, 9, 10, 11, 12, 13, 14, 15] rfl
            have hD : va_D A (wQ cI cZ hp hc h a1 a2 a3 a4 ht hq n1 n2 (ad_19, (setCo st_19 ((coF st_5), (coL st_5), (coS st_5), (coP st_5), (coW st_5))))) := hD.sub [1, 0, 3, 4, 5, 6, 7, 8, 9, 10, 11, 12, 13, 14, 15] (by decide) rfl
            refine lv_aload_n hx hb d_Pa_function_218 rfl (lv_at hl 0 rfl) ?_
            refine va_get (D := (dC, dI)) (ci := 2) (v := .ref ht) (C := R_Pa) (T := T_Pa) (N := 7) hx hb hts u_Pa hown hK hP 0 rfl rfl 0 (by decide) (hts _ L_208) (fun _ h9 => h9) rfl d_Pa_function_219 ?_
            refine lv_iload hx hb d_Pa_function_222 (lv_at hl 5 rfl) ?_
            refine pT_v (g := (p_close (setCo st_19 ((coF st_5), (coL st_5), (coS st_5), (coP st_5), (coW st_5))) r_5)) (st := (setCo st_19 ((coF st_5), (coL st_5), (coS st_5), (coP st_5), (coW st_5)))) (As := [.int r_5]) (rest := []) ⟨hx, hb, hml, hown, hts0⟩ (m_Tr_close l dC dI cI cZ sa rk ht ad_19 (sTr st_19) ok_19.2.1 _ r_5) hP hD hK hS hA hC hZ L_582 L_583 L_584 L_85 L_585 ⟨rfl, k_Tr_close⟩ ⟨(by show _ ≤ fr0 + 10; omega), (by show _ ≤ lo0 + 369; omega)⟩ rfl rfl hl.1 (Nat.le_of_ble_eq_true rfl) d_Pa_function_224 rfl hcl hsl (Nat.zero_le _) (Nat.zero_le _) (show okSt (setCo st_19 ((coF st_5), (coL st_5), (coS st_5), (coP st_5), (coW st_5))) from ⟨ok_19.1, ok_19.2.1, ok_19.2.2.1, ok_5.2.2.2⟩) (t_close_ok r_5 ok_19.2.1) rfl (fun ad_20 st_20 H locs w_20 ok_20 e1_20 e2_20 hP hD hS => ?_)
            have hcl := cl_next hcl e1_20
            have hsl := cl_next hsl e2_20
            refine lv_aload_n hx hb d_Pa_function_227 rfl (lv_at hl 0 rfl) ?_
            refine va_get (D := (dC, dI)) (ci := 2) (v := .ref ht) (C := R_Pa) (T := T_Pa) (N := 7) hx hb hts u_Pa hown hK hP 0 rfl rfl 0 (by decide) (hts _ L_208) (fun _ h9 => h9) rfl d_Pa_function_228 ?_
            refine lv_iload_n hx hb d_Pa_function_231 rfl (lv_at hl 3 rfl) ?_
            refine pT_v (g := (p_close st_20 r_2)) (st := st_20) (As := [.int r_2]) (rest := []) ⟨hx, hb, hml, hown, hts0⟩ (m_Tr_close l dC dI cI cZ sa rk ht ad_20 (sTr st_20) ok_20.2.1 _ r_2) hP hD hK hS hA hC hZ L_582 L_583 L_584 L_85 L_585 ⟨rfl, k_Tr_close⟩ ⟨(by show _ ≤ fr0 + 10; omega), (by show _ ≤ lo0 + 369; omega)⟩ rfl rfl hl.1 (Nat.le_of_ble_eq_true rfl) d_Pa_function_232 rfl hcl hsl (Nat.zero_le _) (Nat.zero_le _) ok_20 (t_close_ok r_2 ok_20.2.1) rfl (fun ad_21 st_21 H locs w_21 ok_21 e1_21 e2_21 hP hD hS => ?_)
            have hcl := cl_next hcl e1_21
            have hsl := cl_next hsl e2_21
            exact mx_vret (stF := st_21) hx hb hr hlocks hK hP hD hS hcl hsl (by unfold f_Pa_function; rw [bnd_r w_1, bnd_r w_2, bnd_r w_3, bnd_r w_4, bnd_r w_5, if_neg cb_6, bnd_r we_7, if_pos c_18, bnd_r w_19, bnd_r w_20, bnd_r w_21]) ok_21 d_Pa_function_235
          · refine lv_iconst (v := 1) hx hb d_Pa_function_204 (by decide) ?_
            refine lv_goto (tgt := 209) hx hb d_Pa_function_205 (by decide) ?_
            refine pT_vF (g := (p_setValue st_16 r_5 1)) (st := st_16) (As := [.int r_5, .int 1]) (rest := []) ⟨hx, hb, hml, hown, hts0⟩ (m_Tr_setValue l dC dI cI cZ sa rk ht ad_16 (sTr st_16) ok_16.2.1 _ r_5 1) hP hD hK hS hA hC hZ L_488 L_489 L_490 L_85 L_491 ⟨rfl, k_Tr_setValue⟩ ⟨(by show _ ≤ fr0 + 10; omega), (by show _ ≤ lo0 + 369; omega)⟩ rfl rfl hl.1 (Nat.le_of_ble_eq_true rfl) d_Pa_function_209 rfl hcl hsl (Nat.zero_le _) (Nat.zero_le _) ok_16 (t_setValue_ok r_5 1 ok_16.2.1) rfl (fun ad_22 st_22 H locs w_22 ok_22 e1_22 e2_22 hP hD hS => ?_)
            have hcl := cl_next hcl e1_22
            have hsl := cl_next hsl e2_22
            refine lv_aload_n hx hb d_Pa_function_212 rfl (lv_at hl 0 rfl) ?_
            refine lv_aload hx hb d_Pa_function_213 (lv_at hl 6 rfl) ?_
            refine va_put (D := (dC, dI)) (ci := 2) (v := .ref hc) (ty := .object "SyntaxTree$Code") (C := R_Pa) (T := T_Pa) (N := 7) hx hb hts u_Pa ty_Pa tk_Pa nm_Pa hown hK hP hD hS 1 rfl rfl 6 (by decide) (hts _ L_221) (fun x9 h9 => u_same (hts _ L_222) x9 h9) rfl (by decide +kernel) rfl rfl (Nat.le_of_ble_eq_true rfl) d_Pa_function_215 (fun H locs hP hD hS => ?_)
            have hP : va_P (dC, dI) cls (wQ cI cZ hp hc h a1 a2 a3 a4 ht hq n1 n2 (ad_22, (setCo st_22 ((coF st_5), (coL st_5), (coS st_5), (coP st_5), (coW st_5))))) H := hP.sub [1, 0, 3, 4, 5, 6, 7, 8, 9, 10, 11, 12, 13, 14, 15] rfl
            have hD : va_D A (wQ cI cZ hp hc h a1 a2 a3 a4 ht hq n1 n2 (ad_22, (setCo st_22 ((coF st_5), (coL st_5), (coS st_5), (coP st_5), (coW st_5))))) := hD.sub [1, 0, 3, 4, 5, 6, 7, 8, 9, 10, 11, 12, 13, 14, 15] (by decide) rfl
            refine lv_aload_n hx hb d_Pa_function_218 rfl (lv_at hl 0 rfl) ?_
            refine va_get (D := (dC, dI)) (ci := 2) (v := .ref ht) (C := R_Pa) (T := T_Pa) (N := 7) hx hb hts u_Pa hown hK hP 0 rfl rfl 0 (by decide) (hts _ L_208) (fun _ h9 => h9) rfl d_Pa_function_219 ?_
            refine lv_iload hx hb d_Pa_function_222 (lv_at hl 5 rfl) ?_
            refine pT_v (g := (p_close (setCo st_22 ((coF st_5), (coL st_5), (coS st_5), (coP st_5), (coW st_5))) r_5)) (st := (setCo st_22 ((coF st_5), (coL st_5), (coS st_5), (coP st_5), (coW st_5)))) (As := [.int r_5]) (rest := []) ⟨hx, hb, hml, hown, hts0⟩ (m_Tr_close l dC dI cI cZ sa rk ht ad_22 (sTr st_22) ok_22.2.1 _ r_5) hP hD hK hS hA hC hZ L_582 L_583 L_584 L_85 L_585 ⟨rfl, k_Tr_close⟩ ⟨(by show _ ≤ fr0 + 10; omega), (by show _ ≤ lo0 + 369; omega)⟩ rfl rfl hl.1 (Nat.le_of_ble_eq_true rfl) d_Pa_function_224 rfl hcl hsl (Nat.zero_le _) (Nat.zero_le _) (show okSt (setCo st_22 ((coF st_5), (coL st_5), (coS st_5), (coP st_5), (coW st_5))) from ⟨ok_22.1, ok_22.2.1, ok_22.2.2.1, ok_5.2.2.2⟩) (t_close_ok r_5 ok_22.2.1) rfl (fun ad_23 st_23 H locs w_23 ok_23 e1_23 e2_23 hP hD hS => ?_)
            have hcl := cl_next hcl e1_23
            have hsl := cl_next hsl e2_23
            refine lv_aload_n hx hb d_Pa_function_227 rfl (lv_at hl 0 rfl) ?_
            refine va_get (D := (dC, dI)) (ci := 2) (v := .ref ht) (C := R_Pa) (T := T_Pa) (N := 7) hx hb hts u_Pa hown hK hP 0 rfl rfl 0 (by decide) (hts _ L_208) (fun _ h9 => h9) rfl d_Pa_function_228 ?_
            refine lv_iload_n hx hb d_Pa_function_231 rfl (lv_at hl 3 rfl) ?_
            refine pT_v (g := (p_close st_23 r_2)) (st := st_23) (As := [.int r_2]) (rest := []) ⟨hx, hb, hml, hown, hts0⟩ (m_Tr_close l dC dI cI cZ sa rk ht ad_23 (sTr st_23) ok_23.2.1 _ r_2) hP hD hK hS hA hC hZ L_582 L_583 L_584 L_85 L_585 ⟨rfl, k_Tr_close⟩ ⟨(by show _ ≤ fr0 + 10; omega), (by show _ ≤ lo0 + 369; omega)⟩ rfl rfl hl.1 (Nat.le_of_ble_eq_true rfl) d_Pa_function_232 rfl hcl hsl (Nat.zero_le _) (Nat.zero_le _) ok_23 (t_close_ok r_2 ok_23.2.1) rfl (fun ad_24 st_24 H locs w_24 ok_24 e1_24 e2_24 hP hD hS => ?_)
            have hcl := cl_next hcl e1_24
            have hsl := cl_next hsl e2_24
            exact mx_vret (stF := st_24) hx hb hr hlocks hK hP hD hS hcl hsl (by unfold f_Pa_function; rw [bnd_r w_1, bnd_r w_2, bnd_r w_3, bnd_r w_4, bnd_r w_5, if_neg cb_6, bnd_r we_7, if_neg c_18, bnd_r w_22, bnd_r w_23, bnd_r w_24]) ok_24 d_Pa_function_235
        · rw [if_pos c_17] at hL_7
          refine lv_aload_n hx hb d_Pa_function_96 rfl (lv_at hl 0 rfl) ?_
          refine va_get (D := (dC, dI)) (ci := 2) (v := .int (sAt st_16)) (C := R_Pa) (T := T_Pa) (N := 7) hx hb hts u_Pa hown hK hP 1 rfl rfl 4 (by decide) (hts _ L_215) (fun x9 h9 => u_same (hts _ L_216) x9 h9) rfl d_Pa_function_97 ?_
          refine lv_istore (lv' := [(9, .int (sAt st_16)), (0, .ref hp), (1, .int form), (2, .int depth), (3, .int r_2), (4, .int (sAt st_3)), (5, .int r_5), (6, .ref hc), (7, .int x7), (8, .int x8)]) hx hb d_Pa_function_100 hl (by decide) rfl (fun ls hl => ?_)
          refine lv_aload_n hx hb d_Pa_function_102 rfl (lv_at hl 1 rfl) ?_
          refine lv_bipush (v := 11) hx hb d_Pa_function_103 (by decide) ?_
          refine rd_U (xm := ⟨"SyntaxTree$Parser", "atWord", "(I)Z"⟩) (owner := R_Cu) (v := (f_Cu_atWord st_16 11)) (As := [.int 11]) (rest := []) ⟨hx, hb, hml, hown, hts0⟩ (m_Cu_atWord l dC dI cI cZ hp hcn h a1 a2 a3 a4 ht ad_16.1 ad_16.2.1 ad_16.2.2.1 ad_16.2.2.2 hq n1 n2 st_16 ok_16 11) hP hK [1, 2, 3, 4, 5, 6, 7, 8, 9, 10, 11, 12, 13, 14, 15] rfl [0, 1] rfl 0 2 rfl rfl L_439 L_440 L_442 L_443 L_86 L_444 rfl k_Cu_atWord ⟨(by show _ ≤ fr0 + 10; omega), (by show _ ≤ lo0 + 369; omega)⟩ hl.1 ⟨Nat.le_trans (Nat.le_add_right _ _) hcl, Nat.le_trans (Nat.le_add_right _ _) hsl⟩ (Nat.le_of_ble_eq_true rfl) d_Pa_function_105 rfl ?_
          refine lv_if_eq (tgt := 123) hx hb d_Pa_function_108 (by decide) (fun c_25 => ?_) (fun c_25 => ?_)
          · rw [if_pos c_25] at hL_7
            refine lv_aload_n hx hb d_Pa_function_123 rfl (lv_at hl 1 rfl) ?_
            refine lv_iload_n hx hb d_Pa_function_124 rfl (lv_at hl 3 rfl) ?_
            refine lv_iconst (v := 1) hx hb d_Pa_function_125 (by decide) ?_
            refine lv_iadd hx hb d_Pa_function_126 ?_
            refine lv_aload_n hx hb d_Pa_function_127 rfl (lv_at hl 1 rfl) ?_
            refine va_get (D := (dC, dI)) (ci := 2) (v := .ref hq) (C := R_Pa) (T := T_Pa) (N := 7) hx hb hts u_Pa hown hK hP 1 rfl rfl 1 (by decide) (hts _ L_209) (fun _ h9 => h9) rfl d_Pa_function_128 ?_
            refine rd_V (v := (f_La_count (sLb st_16))) (As := []) (rest := [.int (depth + 1), .ref hp]) ⟨hx, hb, hml, hown, hts0⟩ (m_La_count l dC dI cI cZ hq n1 n2 (sLb st_16) ok_16.2.2.1 ) hP hK [13, 14, 15] rfl [0, 1] rfl 0 1 rfl rfl L_552 L_553 L_554 L_89 L_555 ⟨rfl, k_La_count⟩ ⟨(by show _ ≤ fr0 + 10; omega), (by show _ ≤ lo0 + 369; omega)⟩ hl.1 ⟨Nat.le_trans (Nat.le_add_right _ _) hcl, Nat.le_trans (Nat.le_add_right _ _) hsl⟩ (Nat.le_of_ble_eq_true rfl) d_Pa_function_131 rfl ?_
            refine mx_VvF (As := [.int (depth + 1), .int (f_La_count (sLb st_16))]) (rest := []) ⟨hx, hb, hml, hown, hts0⟩ (hRS hcn ad_16 st_16 ok_16 _ (depth + 1) (f_La_count (sLb st_16)) (fun z => hn_7 (hL_7.trans (bnd_n z)))) hP hD hK hS hA hC hZ hnt hlocks L_560 L_562 L_10 L_87 L_563 k_Pa_statement ⟨(by show _ ≤ fr0 + 10; omega), (by show _ ≤ lo0 + 369; omega)⟩ rfl rfl hl.1 (Nat.le_of_ble_eq_true rfl) d_Pa_function_134 rfl (fun q z => hX_7 q (hL_7.trans (bnd_l z))) hcl hsl (fun ad_26 st_26 H locs w_26 ok_26 e1_26 e2_26 hP hD hS => ?_)
            have hcl := cl_next hcl e1_26
            have hsl := cl_next hsl e2_26
            rw [bnd_r w_26] at hL_7
            refine lv_iload hx hb d_Pa_function_137 (lv_at hl 8 rfl) ?_
            refine lv_if_eq (tgt := 155) hx hb d_Pa_function_139 (by decide) (fun c_27 => ?_) (fun c_27 => ?_)
            · rw [if_pos c_27] at hL_7
              refine lv_iconst (v := 0) hx hb d_Pa_function_155 (by decide) ?_
              refine lv_istore (lv' := [(7, .int 0), (9, .int (sAt st_16)), (0, .ref hp), (1, .int form), (2, .int depth), (3, .int r_2), (4, .int (sAt st_3)), (5, .int r_5), (6, .ref hc), (8, .int x8)]) hx hb d_Pa_function_156 hl (by decide) rfl (fun ls hl => ?_)
              refine lv_iload hx hb d_Pa_function_158 (lv_at hl 0 rfl) ?_
              refine lv_if_eq (tgt := 182) hx hb d_Pa_function_160 (by decide) (fun _ => ?_) (fun q9 => absurd q9 (by decide))
              refine lv_iinc (v := (x8 + 1)) (lv' := [(8, .int (x8 + 1)), (7, .int 0), (9, .int (sAt st_16)), (0, .ref hp), (1, .int form), (2, .int depth), (3, .int r_2), (4, .int (sAt st_3)), (5, .int r_5), (6, .ref hc)]) hx hb d_Pa_function_182 hl (k := 9) rfl rfl (by decide) rfl (fun ls hl => ?_)
              refine lv_goto (tgt := 79) hx hb d_Pa_function_185 (by decide) ?_
              exact ih_7 0 (x8 + 1) ad_26 st_26 ok_26 _ _ ls _ _ hP hD hS (lv_sub hl [3, 4, 5, 6, 7, 8, 9, 1, 0] rfl) hcl hsl hL_7
            · rw [if_neg c_27] at hL_7
              refine lv_aload_n hx hb d_Pa_function_142 rfl (lv_at hl 1 rfl) ?_
              refine lv_iload hx hb d_Pa_function_143 (lv_at hl 0 rfl) ?_
              refine rd_U (xm := ⟨"SyntaxTree$Parser", "wasTextAlone", "(I)Z"⟩) (owner := R_Cu) (v := (f_Cu_wasTextAlone st_26 (sAt st_16))) (As := [.int (sAt st_16)]) (rest := []) ⟨hx, hb, hml, hown, hts0⟩ (m_Cu_wasTextAlone l dC dI cI cZ hp hcn h a1 a2 a3 a4 ht ad_26.1 ad_26.2.1 ad_26.2.2.1 ad_26.2.2.2 hq n1 n2 st_26 ok_26 (sAt st_16)) hP hK [1, 2, 3, 4, 5, 6, 7, 8, 9, 10, 11, 12, 13, 14, 15] rfl [0, 1] rfl 0 2 rfl rfl L_843 L_844 L_846 L_847 L_86 L_848 rfl k_Cu_wasTextAlone ⟨(by show _ ≤ fr0 + 10; omega), (by show _ ≤ lo0 + 369; omega)⟩ hl.1 ⟨Nat.le_trans (Nat.le_add_right _ _) hcl, Nat.le_trans (Nat.le_add_right _ _) hsl⟩ (Nat.le_of_ble_eq_true rfl) d_Pa_function_145 rfl ?_
              refine lv_if_eq (tgt := 155) hx hb d_Pa_function_148 (by decide) (fun c_28 => ?_) (fun c_28 => ?_)
              · rw [if_pos c_28] at hL_7
                refine lv_iconst (v := 0) hx hb d_Pa_function_155 (by decide) ?_
                refine lv_istore (lv' := [(7, .int 0), (9, .int (sAt st_16)), (0, .ref hp), (1, .int form), (2, .int depth), (3, .int r_2), (4, .int (sAt st_3)), (5, .int r_5), (6, .ref hc), (8, .int x8)]) hx hb d_Pa_function_156 hl (by decide) rfl (fun ls hl => ?_)
                refine lv_iload hx hb d_Pa_function_158 (lv_at hl 0 rfl) ?_
                refine lv_if_eq (tgt := 182) hx hb d_Pa_function_160 (by decide) (fun _ => ?_) (fun q9 => absurd q9 (by decide))
                refine lv_iinc (v := (x8 + 1)) (lv' := [(8, .int (x8 + 1)), (7, .int 0), (9, .int (sAt st_16)), (0, .ref hp), (1, .int form), (2, .int depth), (3, .int r_2), (4, .int (sAt st_3)), (5, .int r_5), (6, .ref hc)]) hx hb d_Pa_function_182 hl (k := 9) rfl rfl (by decide) rfl (fun ls hl => ?_)
                refine lv_goto (tgt := 79) hx hb d_Pa_function_185 (by decide) ?_
                exact ih_7 0 (x8 + 1) ad_26 st_26 ok_26 _ _ ls _ _ hP hD hS (lv_sub hl [3, 4, 5, 6, 7, 8, 9, 1, 0] rfl) hcl hsl hL_7
              · rw [if_neg c_28] at hL_7
                refine lv_iconst (v := 1) hx hb d_Pa_function_151 (by decide) ?_
                refine lv_goto (tgt := 156) hx hb d_Pa_function_152 (by decide) ?_
                refine lv_istore (lv' := [(7, .int 1), (9, .int (sAt st_16)), (0, .ref hp), (1, .int form), (2, .int depth), (3, .int r_2), (4, .int (sAt st_3)), (5, .int r_5), (6, .ref hc), (8, .int x8)]) hx hb d_Pa_function_156 hl (by decide) rfl (fun ls hl => ?_)
                refine lv_iload hx hb d_Pa_function_158 (lv_at hl 0 rfl) ?_
                refine lv_if_eq (tgt := 182) hx hb d_Pa_function_160 (by decide) (fun q9 => absurd q9 (by decide)) (fun _ => ?_)
                refine lv_aload_n hx hb d_Pa_function_163 rfl (lv_at hl 2 rfl) ?_
                refine va_get (D := (dC, dI)) (ci := 2) (v := .ref h) (C := R_Pa) (T := T_Pa) (N := 7) hx hb hts u_Pa hown hK hP 1 rfl rfl 3 (by decide) (hts _ L_212) (fun x9 h9 => u_same (hts _ L_213) x9 h9) rfl d_Pa_function_164 ?_
                refine lv_iload hx hb d_Pa_function_167 (lv_at hl 1 rfl) ?_
                refine rd_V (v := (f_Tk_asksForStrict (sTk st_26) (sAt st_16))) (As := [.int (sAt st_16)]) (rest := []) ⟨hx, hb, hml, hown, hts0⟩ (m_Tk_asksForStrict l dC dI cI cZ h a1 a2 a3 a4 (sTk st_26) ok_26.1 (sAt st_16)) hP hK [3, 4, 5, 6, 7] rfl [0, 1] rfl 0 3 rfl rfl L_849 L_850 L_851 L_84 L_852 ⟨rfl, k_Tk_asksForStrict⟩ ⟨(by show _ ≤ fr0 + 10; omega), (by show _ ≤ lo0 + 369; omega)⟩ hl.1 ⟨Nat.le_trans (Nat.le_add_right _ _) hcl, Nat.le_trans (Nat.le_add_right _ _) hsl⟩ (Nat.le_of_ble_eq_true rfl) d_Pa_function_169 rfl ?_
                refine lv_if_eq (tgt := 182) hx hb d_Pa_function_172 (by decide) (fun c_29 => ?_) (fun c_29 => ?_)
                · rw [if_pos c_29] at hL_7
                  refine lv_iinc (v := (x8 + 1)) (lv' := [(8, .int (x8 + 1)), (7, .int 1), (9, .int (sAt st_16)), (0, .ref hp), (1, .int form), (2, .int depth), (3, .int r_2), (4, .int (sAt st_3)), (5, .int r_5), (6, .ref hc)]) hx hb d_Pa_function_182 hl (k := 9) rfl rfl (by decide) rfl (fun ls hl => ?_)
                  refine lv_goto (tgt := 79) hx hb d_Pa_function_185 (by decide) ?_
                  exact ih_7 1 (x8 + 1) ad_26 st_26 ok_26 _ _ ls _ _ hP hD hS (lv_sub hl [3, 4, 5, 6, 7, 8, 9, 1, 0] rfl) hcl hsl hL_7
                · rw [if_neg c_29] at hL_7
                  refine lv_aload_n hx hb d_Pa_function_175 rfl (lv_at hl 2 rfl) ?_
                  refine lv_iload_n hx hb d_Pa_function_176 rfl (lv_at hl 5 rfl) ?_
                  refine lv_iload hx hb d_Pa_function_177 (lv_at hl 7 rfl) ?_
                  refine mx_VvF (As := [.int r_2, .int r_5]) (rest := []) ⟨hx, hb, hml, hown, hts0⟩ (m_Pa_makeStrict l hlt dC dI cI cZ sa rk hp hcn h a1 a2 a3 a4 ht hq n1 n2 ad_26 st_26 ok_26 _ r_2 r_5 (fun z => hn_7 (hL_7.trans (bnd_n z)))) hP hD hK hS hA hC hZ hnt hlocks L_853 L_855 L_54 L_87 L_856 k_Pa_makeStrict ⟨(by show _ ≤ fr0 + 10; omega), (by show _ ≤ lo0 + 369; omega)⟩ rfl rfl hl.1 (Nat.le_of_ble_eq_true rfl) d_Pa_function_179 rfl (fun q z => hX_7 q (hL_7.trans (bnd_l z))) hcl hsl (fun ad_30 st_30 H locs w_30 ok_30 e1_30 e2_30 hP hD hS => ?_)
                  have hcl := cl_next hcl e1_30
                  have hsl := cl_next hsl e2_30
                  rw [bnd_r w_30] at hL_7
                  refine lv_iinc (v := (x8 + 1)) (lv' := [(8, .int (x8 + 1)), (7, .int 1), (9, .int (sAt st_16)), (0, .ref hp), (1, .int form), (2, .int depth), (3, .int r_2), (4, .int (sAt st_3)), (5, .int r_5), (6, .ref hc)]) hx hb d_Pa_function_182 hl (k := 9) rfl rfl (by decide) rfl (fun ls hl => ?_)
                  refine lv_goto (tgt := 79) hx hb d_Pa_function_185 (by decide) ?_
                  exact ih_7 1 (x8 + 1) ad_30 st_30 ok_30 _ _ ls _ _ hP hD hS (lv_sub hl [3, 4, 5, 6, 7, 8, 9, 1, 0] rfl) hcl hsl hL_7
          · rw [if_neg c_25] at hL_7
            refine lv_aload_n hx hb d_Pa_function_111 rfl (lv_at hl 1 rfl) ?_
            refine lv_bipush (v := 24) hx hb d_Pa_function_112 (by decide) ?_
            refine lv_iload_n hx hb d_Pa_function_114 rfl (lv_at hl 3 rfl) ?_
            refine lv_iconst (v := 1) hx hb d_Pa_function_115 (by decide) ?_
            refine lv_iadd hx hb d_Pa_function_116 ?_
            refine mx_VvF (As := [.int 24, .int (depth + 1)]) (rest := []) ⟨hx, hb, hml, hown, hts0⟩ (hRF hcn ad_16 st_16 ok_16 _ 24 (depth + 1) (fun z => hn_7 (hL_7.trans (bnd_n z)))) hP hD hK hS hA hC hZ hnt hlocks L_449 L_451 L_5 L_87 L_452 k_Pa_function ⟨(by show _ ≤ fr0 + 10; omega), (by show _ ≤ lo0 + 369; omega)⟩ rfl rfl hl.1 (Nat.le_of_ble_eq_true rfl) d_Pa_function_117 rfl (fun q z => hX_7 q (hL_7.trans (bnd_l z))) hcl hsl (fun ad_31 st_31 H locs w_31 ok_31 e1_31 e2_31 hP hD hS => ?_)
            have hcl := cl_next hcl e1_31
            have hsl := cl_next hsl e2_31
            rw [bnd_r w_31] at hL_7
            refine lv_goto (tgt := 137) hx hb d_Pa_function_120 (by decide) ?_
            refine lv_iload hx hb d_Pa_function_137 (lv_at hl 8 rfl) ?_
            refine lv_if_eq (tgt := 155) hx hb d_Pa_function_139 (by decide) (fun c_32 => ?_) (fun c_32 => ?_)
            · rw [if_pos c_32] at hL_7
              refine lv_iconst (v := 0) hx hb d_Pa_function_155 (by decide) ?_
              refine lv_istore (lv' := [(7, .int 0), (9, .int (sAt st_16)), (0, .ref hp), (1, .int form), (2, .int depth), (3, .int r_2), (4, .int (sAt st_3)), (5, .int r_5), (6, .ref hc), (8, .int x8)]) hx hb d_Pa_function_156 hl (by decide) rfl (fun ls hl => ?_)
              refine lv_iload hx hb d_Pa_function_158 (lv_at hl 0 rfl) ?_
              refine lv_if_eq (tgt := 182) hx hb d_Pa_function_160 (by decide) (fun _ => ?_) (fun q9 => absurd q9 (by decide))
              refine lv_iinc (v := (x8 + 1)) (lv' := [(8, .int (x8 + 1)), (7, .int 0), (9, .int (sAt st_16)), (0, .ref hp), (1, .int form), (2, .int depth), (3, .int r_2), (4, .int (sAt st_3)), (5, .int r_5), (6, .ref hc)]) hx hb d_Pa_function_182 hl (k := 9) rfl rfl (by decide) rfl (fun ls hl => ?_)
              refine lv_goto (tgt := 79) hx hb d_Pa_function_185 (by decide) ?_
              exact ih_7 0 (x8 + 1) ad_31 st_31 ok_31 _ _ ls _ _ hP hD hS (lv_sub hl [3, 4, 5, 6, 7, 8, 9, 1, 0] rfl) hcl hsl hL_7
            · rw [if_neg c_32] at hL_7
              refine lv_aload_n hx hb d_Pa_function_142 rfl (lv_at hl 1 rfl) ?_
              refine lv_iload hx hb d_Pa_function_143 (lv_at hl 0 rfl) ?_
              refine rd_U (xm := ⟨"SyntaxTree$Parser", "wasTextAlone", "(I)Z"⟩) (owner := R_Cu) (v := (f_Cu_wasTextAlone st_31 (sAt st_16))) (As := [.int (sAt st_16)]) (rest := []) ⟨hx, hb, hml, hown, hts0⟩ (m_Cu_wasTextAlone l dC dI cI cZ hp hcn h a1 a2 a3 a4 ht ad_31.1 ad_31.2.1 ad_31.2.2.1 ad_31.2.2.2 hq n1 n2 st_31 ok_31 (sAt st_16)) hP hK [1, 2, 3, 4, 5, 6, 7, 8, 9, 10, 11, 12, 13, 14, 15] rfl [0, 1] rfl 0 2 rfl rfl L_843 L_844 L_846 L_847 L_86 L_848 rfl k_Cu_wasTextAlone ⟨(by show _ ≤ fr0 + 10; omega), (by show _ ≤ lo0 + 369; omega)⟩ hl.1 ⟨Nat.le_trans (Nat.le_add_right _ _) hcl, Nat.le_trans (Nat.le_add_right _ _) hsl⟩ (Nat.le_of_ble_eq_true rfl) d_Pa_function_145 rfl ?_
              refine lv_if_eq (tgt := 155) hx hb d_Pa_function_148 (by decide) (fun c_33 => ?_) (fun c_33 => ?_)
              · rw [if_pos c_33] at hL_7
                refine lv_iconst (v := 0) hx hb d_Pa_function_155 (by decide) ?_
                refine lv_istore (lv' := [(7, .int 0), (9, .int (sAt st_16)), (0, .ref hp), (1, .int form), (2, .int depth), (3, .int r_2), (4, .int (sAt st_3)), (5, .int r_5), (6, .ref hc), (8, .int x8)]) hx hb d_Pa_function_156 hl (by decide) rfl (fun ls hl => ?_)
                refine lv_iload hx hb d_Pa_function_158 (lv_at hl 0 rfl) ?_
                refine lv_if_eq (tgt := 182) hx hb d_Pa_function_160 (by decide) (fun _ => ?_) (fun q9 => absurd q9 (by decide))
                refine lv_iinc (v := (x8 + 1)) (lv' := [(8, .int (x8 + 1)), (7, .int 0), (9, .int (sAt st_16)), (0, .ref hp), (1, .int form), (2, .int depth), (3, .int r_2), (4, .int (sAt st_3)), (5, .int r_5), (6, .ref hc)]) hx hb d_Pa_function_182 hl (k := 9) rfl rfl (by decide) rfl (fun ls hl => ?_)
                refine lv_goto (tgt := 79) hx hb d_Pa_function_185 (by decide) ?_
                exact ih_7 0 (x8 + 1) ad_31 st_31 ok_31 _ _ ls _ _ hP hD hS (lv_sub hl [3, 4, 5, 6, 7, 8, 9, 1, 0] rfl) hcl hsl hL_7
              · rw [if_neg c_33] at hL_7
                refine lv_iconst (v := 1) hx hb d_Pa_function_151 (by decide) ?_
                refine lv_goto (tgt := 156) hx hb d_Pa_function_152 (by decide) ?_
                refine lv_istore (lv' := [(7, .int 1), (9, .int (sAt st_16)), (0, .ref hp), (1, .int form), (2, .int depth), (3, .int r_2), (4, .int (sAt st_3)), (5, .int r_5), (6, .ref hc), (8, .int x8)]) hx hb d_Pa_function_156 hl (by decide) rfl (fun ls hl => ?_)
                refine lv_iload hx hb d_Pa_function_158 (lv_at hl 0 rfl) ?_
                refine lv_if_eq (tgt := 182) hx hb d_Pa_function_160 (by decide) (fun q9 => absurd q9 (by decide)) (fun _ => ?_)
                refine lv_aload_n hx hb d_Pa_function_163 rfl (lv_at hl 2 rfl) ?_
                refine va_get (D := (dC, dI)) (ci := 2) (v := .ref h) (C := R_Pa) (T := T_Pa) (N := 7) hx hb hts u_Pa hown hK hP 1 rfl rfl 3 (by decide) (hts _ L_212) (fun x9 h9 => u_same (hts _ L_213) x9 h9) rfl d_Pa_function_164 ?_
                refine lv_iload hx hb d_Pa_function_167 (lv_at hl 1 rfl) ?_
                refine rd_V (v := (f_Tk_asksForStrict (sTk st_31) (sAt st_16))) (As := [.int (sAt st_16)]) (rest := []) ⟨hx, hb, hml, hown, hts0⟩ (m_Tk_asksForStrict l dC dI cI cZ h a1 a2 a3 a4 (sTk st_31) ok_31.1 (sAt st_16)) hP hK [3, 4, 5, 6, 7] rfl [0, 1] rfl 0 3 rfl rfl L_849 L_850 L_851 L_84 L_852 ⟨rfl, k_Tk_asksForStrict⟩ ⟨(by show _ ≤ fr0 + 10; omega), (by show _ ≤ lo0 + 369; omega)⟩ hl.1 ⟨Nat.le_trans (Nat.le_add_right _ _) hcl, Nat.le_trans (Nat.le_add_right _ _) hsl⟩ (Nat.le_of_ble_eq_true rfl) d_Pa_function_169 rfl ?_
                refine lv_if_eq (tgt := 182) hx hb d_Pa_function_172 (by decide) (fun c_34 => ?_) (fun c_34 => ?_)
                · rw [if_pos c_34] at hL_7
                  refine lv_iinc (v := (x8 + 1)) (lv' := [(8, .int (x8 + 1)), (7, .int 1), (9, .int (sAt st_16)), (0, .ref hp), (1, .int form), (2, .int depth), (3, .int r_2), (4, .int (sAt st_3)), (5, .int r_5), (6, .ref hc)]) hx hb d_Pa_function_182 hl (k := 9) rfl rfl (by decide) rfl (fun ls hl => ?_)
                  refine lv_goto (tgt := 79) hx hb d_Pa_function_185 (by decide) ?_
                  exact ih_7 1 (x8 + 1) ad_31 st_31 ok_31 _ _ ls _ _ hP hD hS (lv_sub hl [3, 4, 5, 6, 7, 8, 9, 1, 0] rfl) hcl hsl hL_7
                · rw [if_neg c_34] at hL_7
                  refine lv_aload_n hx hb d_Pa_function_175 rfl (lv_at hl 2 rfl) ?_
                  refine lv_iload_n hx hb d_Pa_function_176 rfl (lv_at hl 5 rfl) ?_
                  refine lv_iload hx hb d_Pa_function_177 (lv_at hl 7 rfl) ?_
                  refine mx_VvF (As := [.int r_2, .int r_5]) (rest := []) ⟨hx, hb, hml, hown, hts0⟩ (m_Pa_makeStrict l hlt dC dI cI cZ sa rk hp hcn h a1 a2 a3 a4 ht hq n1 n2 ad_31 st_31 ok_31 _ r_2 r_5 (fun z => hn_7 (hL_7.trans (bnd_n z)))) hP hD hK hS hA hC hZ hnt hlocks L_853 L_855 L_54 L_87 L_856 k_Pa_makeStrict ⟨(by show _ ≤ fr0 + 10; omega), (by show _ ≤ lo0 + 369; omega)⟩ rfl rfl hl.1 (Nat.le_of_ble_eq_true rfl) d_Pa_function_179 rfl (fun q z => hX_7 q (hL_7.trans (bnd_l z))) hcl hsl (fun ad_35 st_35 H locs w_35 ok_35 e1_35 e2_35 hP hD hS => ?_)
                  have hcl := cl_next hcl e1_35
                  have hsl := cl_next hsl e2_35
                  rw [bnd_r w_35] at hL_7
                  refine lv_iinc (v := (x8 + 1)) (lv' := [(8, .int (x8 + 1)), (7, .int 1), (9, .int (sAt st_16)), (0, .ref hp), (1, .int form), (2, .int depth), (3, .int r_2), (4, .int (sAt st_3)), (5, .int r_5), (6, .ref hc)]) hx hb d_Pa_function_182 hl (k := 9) rfl rfl (by decide) rfl (fun ls hl => ?_)
                  refine lv_goto (tgt := 79) hx hb d_Pa_function_185 (by decide) ?_
                  exact ih_7 1 (x8 + 1) ad_35 st_35 ok_35 _ _ ls _ _ hP hD hS (lv_sub hl [3, 4, 5, 6, 7, 8, 9, 1, 0] rfl) hcl hsl hL_7
  exact lp_7 5000 1 0 ad_5 (setB (setCo st_5 (1, (f_La_count (sLb st_5)), (coS st_5), 0, 0)) (bC st_5 - 1) (bS st_5 - 5)) (show okSt (setB (setCo st_5 (1, (f_La_count (sLb st_5)), (coS st_5), 0, 0)) (bC st_5 - 1) (bS st_5 - 5)) from ⟨ok_5.1, ok_5.2.1, ok_5.2.2.1, ok_5.2.2.2⟩) _ _ ls _ _ hP hD hS (lv_sub hl [6, 7, 8, 5, 4, 3, 2, 1, 0] rfl) hcl hsl hx_7.symm
