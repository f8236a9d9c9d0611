def f_Pa_tryStatement (E : Int32 → Int32 → Int32 → ST → Rz) (S : Int32 → Int32 → ST → Rz) (F : Int32 → Int32 → ST → Rz) (st : ST) (depth : Int32) : Rz := (bnd (p_open st 20 0 (sAt st)) (fun r_1 st_1 => (bnd (f_Pa_block E S F (setAt st_1 ((sAt st_1) + 1)) (depth + 1)) (fun _ st_2 => (if (f_Cu_atWord st_2 2) = 0 then (if (f_Cu_atWord st_2 9) = 0 then (bnd (f_Cu_refuse st_2 (sAt st_2)) (fun _ st_22 => (if (f_Cu_atWord st_22 2) = 0 then (if (f_Cu_atWord st_22 9) = 0 then (bnd (p_close st_22 r_1) (fun _ st_25 => (some (.inr (0, st_25))))) else (bnd (p_open st_22 22 0 (sAt st_22)) (fun r_26 st_26 => (bnd (f_Pa_block E S F (setAt st_26 ((sAt st_26) + 1)) (depth + 1)) (fun _ st_27 => (bnd (p_close st_27 r_26) (fun _ st_28 => (bnd (p_close st_28 r_1) (fun _ st_29 => (some (.inr (0, st_29)))))))))))) else (bnd (p_open st_22 21 0 (sAt st_22)) (fun r_30 st_30 => (bnd (f_Cu_expect (setAt st_30 ((sAt st_30) + 1)) 60) (fun _ st_31 => (bnd (f_Cu_boundName st_31) (fun r_32 st_32 => (bnd (p_setValue st_32 r_30 r_32) (fun _ st_33 => (bnd (f_Cu_expect st_33 61) (fun _ st_34 => (bnd (f_Pa_block E S F st_34 (depth + 1)) (fun _ st_35 => (bnd (p_close st_35 r_30) (fun _ st_36 => (if (f_Cu_atWord st_36 9) = 0 then (bnd (p_close st_36 r_1) (fun _ st_38 => (some (.inr (0, st_38))))) else (bnd (p_open st_36 22 0 (sAt st_36)) (fun r_39 st_39 => (bnd (f_Pa_block E S F (setAt st_39 ((sAt st_39) + 1)) (depth + 1)) (fun _ st_40 => (bnd (p_close st_40 r_39) (fun _ st_41 => (bnd (p_close st_41 r_1) (fun _ st_42 => (some (.inr (0, st_42))))))))))))))))))))))))))))) else (bnd (p_open st_2 22 0 (sAt st_2)) (fun r_18 st_18 => (bnd (f_Pa_block E S F (setAt st_18 ((sAt st_18) + 1)) (depth + 1)) (fun _ st_19 => (bnd (p_close st_19 r_18) (fun _ st_20 => (bnd (p_close st_20 r_1) (fun _ st_21 => (some (.inr (0, st_21)))))))))))) else (bnd (p_open st_2 21 0 (sAt st_2)) (fun r_4 st_4 => (bnd (f_Cu_expect (setAt st_4 ((sAt st_4) + 1)) 60) (fun _ st_5 => (bnd (f_Cu_boundName st_5) (fun r_6 st_6 => (bnd (p_setValue st_6 r_4 r_6) (fun _ st_7 => (bnd (f_Cu_expect st_7 61) (fun _ st_8 => (bnd (f_Pa_block E S F st_8 (depth + 1)) (fun _ st_9 => (bnd (p_close st_9 r_4) (fun _ st_10 => (if (f_Cu_atWord st_10 9) = 0 then (bnd (p_close st_10 r_1) (fun _ st_12 => (some (.inr (0, st_12))))) else (bnd (p_open st_10 22 0 (sAt st_10)) (fun r_13 st_13 => (bnd (f_Pa_block E S F (setAt st_13 ((sAt st_13) + 1)) (depth + 1)) (fun _ st_14 => (bnd (p_close st_14 r_13) (fun _ st_15 => (bnd (p_close st_15 r_1) (fun _ st_16 => (some (.inr (0, st_16)))))))))))))))))))))))))))))))
set_option maxRecDepth 100000 in
set_option maxHeartbeats 4000000 in
theorem m_Pa_tryStatement (l : Launch) (hlt : l.stackTraces = false) (dC : Nat → ClassId) (dI : Nat → Nat → Nat) (cI cZ : ClassId) (sa rk hp h a1 a2 a3 a4 ht hq n1 n2 : Nat) (fr0 lo0 : Nat) (E : Int32 → Int32 → Int32 → ST → Rz) (S : Int32 → Int32 → ST → Rz) (F : Int32 → Int32 → ST → Rz) (hRE : ∀ (hc : Nat) (ad : AD) (st : ST), okSt st → ∀ (sz : Nat) (level depth inn : Int32), E level depth inn st ≠ none → cPv l y_Pa_expression c_Pa_expression 6 fr0 lo0 (dC, dI) cI cZ sa rk hp hc h a1 a2 a3 a4 ht hq n1 n2 ad st sz [.ref hp, .int level, .int depth, .int inn] (E level depth inn st)) (hRS : ∀ (hc : Nat) (ad : AD) (st : ST), okSt st → ∀ (sz : Nat) (depth first : Int32), S depth first st ≠ none → cPv l y_Pa_statement c_Pa_statement 4 fr0 lo0 (dC, dI) cI cZ sa rk hp hc h a1 a2 a3 a4 ht hq n1 n2 ad st sz [.ref hp, .int depth, .int first] (S depth first st)) (hRF : ∀ (hc : Nat) (ad : AD) (st : ST), okSt st → ∀ (sz : Nat) (form depth : Int32), F form depth st ≠ none → cPv l y_Pa_function c_Pa_function 10 fr0 lo0 (dC, dI) cI cZ sa rk hp hc h a1 a2 a3 a4 ht hq n1 n2 ad st sz [.ref hp, .int form, .int depth] (F form depth st)) (hc : Nat) (ad : AD) (st : ST) (hst : okSt st) (sz : Nat) (depth : Int32) (hg : f_Pa_tryStatement E S F st depth ≠ none) : cPv l y_Pa_tryStatement c_Pa_tryStatement 4 (fr0 + 9) (lo0 + 346) (dC, dI) cI cZ sa rk hp hc h a1 a2 a3 a4 ht hq n1 n2 ad st sz [.ref hp, .int depth] (f_Pa_tryStatement E S F st depth) := by
  refine vx_ofW (cc := c_Pa_tryStatement) (maxL := 4) (ret := none) (by decide) rfl ?_
  intro p e s m args below meth c s₁ B hml hnt hv
  obtain ⟨rfl, hsz, hP, hK, hD0, hC, hZ⟩ := hv
  have hx := B.exec
  have hb := B.bytes
  have hr := B.returns
  have hts0 := atoms_spec (ws := wy y_Pa_tryStatement c_Pa_tryStatement 4 none) B.pre
  have hts := htsL hts0
  have hown : s.vm.findClass R_Pa = some m.cls := findClass_of_methodNamed B.named
  have hlocks := B.notSynchronized
  subst hsz
  have hD := hD0.self (sz := s.heap.size)
  generalize hAe : va_A (wQ cI cZ hp hc h a1 a2 a3 a4 ht hq n1 n2 (ad, st)) s.heap.size = A at hD hZ ⊢
  have hA : ∀ q : Nat, s.heap.size ≤ q → A q := fun q h => by rw [← hAe]; exact Or.inr h
  have hS : va_S A s.heap s.heap [] := va_S.rf
  have hcl : 0 + bC st ≤ bC st := Nat.le_of_eq (Nat.zero_add _)
  have hsl : 0 + bS st ≤ bS st := Nat.le_of_eq (Nat.zero_add _)
  have hl := lv_entry ([.ref hp, .int depth]) (n := 4) (Nat.le_of_ble_eq_true rfl)
  rw [lg_entry_eq]
  generalize (lg_sl ([.ref hp, .int depth]) ++ List.replicate (4 - (lg_sl ([.ref hp, .int depth])).length) Slot.unset).toArray = ls at hl ⊢
  have hl : lv_has ls 4 [(0, .ref hp), (1, .int depth)] := hl
  refine lv_aload_n hx hb d_Pa_tryStatement_0 rfl (lv_at hl 0 rfl) ?_
  refine va_get (D := (dC, dI)) (ci := 2) (v := .ref ht) (C := R_Pa) (T := T_Pa) (N := 7) hx hb hts u_Pa hown hK hP 0 rfl rfl 0 (by decide) (hts _ L_208) (fun _ h9 => h9) rfl d_Pa_tryStatement_1 ?_
  refine lv_bipush (v := 20) hx hb d_Pa_tryStatement_4 (by decide) ?_
  refine lv_iconst (v := 0) hx hb d_Pa_tryStatement_6 (by decide) ?_
  refine lv_aload_n hx hb d_Pa_tryStatement_7 rfl (lv_at hl 0 rfl) ?_
  refine va_get (D := (dC, dI)) (ci := 2) (v := .int (sAt st)) (C := R_Pa) (T := T_Pa) (N := 7) hx hb hts u_Pa hown hK hP 0 rfl rfl 4 (by decide) (hts _ L_215) (fun x9 h9 => u_same (hts _ L_216) x9 h9) rfl d_Pa_tryStatement_8 ?_
  have hn_1 : (p_open st 20 0 (sAt st)) ≠ none := (fun z => hg (by unfold f_Pa_tryStatement; rw [bnd_n z]))
  refine pT_i (g := (p_open st 20 0 (sAt st))) (st := st) (As := [.int 20, .int 0, .int (sAt st)]) (rest := []) ⟨hx, hb, hml, hown, hts0⟩ (m_Tr_open l dC dI cI cZ sa rk ht ad (sTr st) hst.2.1 _ 20 0 (sAt st) (p_open_c hn_1).1 (p_open_c hn_1).2.1) hP hD hK hS hA hC hZ L_416 L_417 L_418 L_85 L_419 ⟨rfl, k_Tr_open⟩ ⟨(by show _ ≤ fr0 + 9; omega), (by show _ ≤ lo0 + 346; omega)⟩ rfl rfl hl.1 (Nat.le_of_ble_eq_true rfl) d_Pa_tryStatement_11 rfl hcl hsl (p_open_c hn_1).2.2.1 (p_open_c hn_1).2.2.2 hst (t_open_ok 20 0 (sAt st) hst.2.1 (p_open_c hn_1).1 (p_open_c hn_1).2.1) (p_open_e hn_1) (fun r_1 ad_1 st_1 H locs w_1 ok_1 e1_1 e2_1 hP hD hS => ?_)
  have hcl := cl_next hcl e1_1
  have hsl := cl_next hsl e2_1
  refine lv_istore_n (lv' := [(2, .int r_1), (0, .ref hp), (1, .int depth)]) hx hb d_Pa_tryStatement_14 rfl hl (by decide) rfl (fun ls hl => ?_)
  refine lv_aload_n hx hb d_Pa_tryStatement_15 rfl (lv_at hl 1 rfl) ?_
  refine lv_dup hx hb d_Pa_tryStatement_16 rfl ?_
  refine va_get (D := (dC, dI)) (ci := 2) (v := .int (sAt st_1)) (C := R_Pa) (T := T_Pa) (N := 7) hx hb hts u_Pa hown hK hP 0 rfl rfl 4 (by decide) (hts _ L_215) (fun x9 h9 => u_same (hts _ L_216) x9 h9) rfl d_Pa_tryStatement_17 ?_
  refine lv_iconst (v := 1) hx hb d_Pa_tryStatement_20 (by decide) ?_
  refine lv_iadd hx hb d_Pa_tryStatement_21 ?_
  refine va_put (D := (dC, dI)) (ci := 2) (v := .int ((sAt st_1) + 1)) (ty := .int) (C := R_Pa) (T := T_Pa) (N := 7) hx hb hts u_Pa ty_Pa tk_Pa nm_Pa hown hK hP hD hS 0 rfl rfl 4 (by decide) (hts _ L_215) (fun x9 h9 => u_same (hts _ L_216) x9 h9) rfl (by decide +kernel) rfl rfl (Nat.le_of_ble_eq_true rfl) d_Pa_tryStatement_22 (fun H locs hP hD hS => ?_)
  have hP : va_P (dC, dI) cls (wQ cI cZ hp hc h a1 a2 a3 a4 ht hq n1 n2 (ad_1, (setAt st_1 ((sAt st_1) + 1)))) H := hP
  have hD : va_D A (wQ cI cZ hp hc h a1 a2 a3 a4 ht hq n1 n2 (ad_1, (setAt st_1 ((sAt st_1) + 1)))) := hD
  refine lv_aload_n hx hb d_Pa_tryStatement_25 rfl (lv_at hl 1 rfl) ?_
  refine lv_iload_n hx hb d_Pa_tryStatement_26 rfl (lv_at hl 2 rfl) ?_
  refine lv_iconst (v := 1) hx hb d_Pa_tryStatement_27 (by decide) ?_
  refine lv_iadd hx hb d_Pa_tryStatement_28 ?_
  refine mx_Vv (As := [.int (depth + 1)]) (rest := []) ⟨hx, hb, hml, hown, hts0⟩ (m_Pa_block l hlt dC dI cI cZ sa rk hp h a1 a2 a3 a4 ht hq n1 n2 fr0 lo0 E S F hRE hRS hRF hc ad_1 (setAt st_1 ((sAt st_1) + 1)) (show okSt (setAt st_1 ((sAt st_1) + 1)) from ⟨ok_1.1, ok_1.2.1, ok_1.2.2.1, ok_1.2.2.2⟩) _ (depth + 1) (fun z => hg (by unfold f_Pa_tryStatement; rw [bnd_r w_1, bnd_n z]))) hP hD hK hS hA hC hZ hnt hlocks L_815 L_817 L_49 L_87 L_818 k_Pa_block ⟨(by show _ ≤ fr0 + 9; omega), (by show _ ≤ lo0 + 346; omega)⟩ rfl rfl hl.1 (Nat.le_of_ble_eq_true rfl) d_Pa_tryStatement_29 rfl (fun q z => by unfold f_Pa_tryStatement; rw [bnd_r w_1, bnd_l z]) hcl hsl (fun ad_2 st_2 H locs w_2 ok_2 e1_2 e2_2 hP hD hS => ?_)
  have hcl := cl_next hcl e1_2
  have hsl := cl_next hsl e2_2
  refine lv_aload_n hx hb d_Pa_tryStatement_32 rfl (lv_at hl 1 rfl) ?_
  refine lv_iconst (v := 2) hx hb d_Pa_tryStatement_33 (by decide) ?_
  refine rd_U (xm := ⟨"SyntaxTree$Parser", "atWord", "(I)Z"⟩) (owner := R_Cu) (v := (f_Cu_atWord st_2 2)) (As := [.int 2]) (rest := []) ⟨hx, hb, hml, hown, hts0⟩ (m_Cu_atWord l dC dI cI cZ hp hc h a1 a2 a3 a4 ht ad_2.1 ad_2.2.1 ad_2.2.2.1 ad_2.2.2.2 hq n1 n2 st_2 ok_2 2) hP hK [0, 1, 2, 3, 4, 5, 6, 7, 8, 9, 10, 11, 12, 13, 14] rfl [0, 1] rfl 0 2 rfl rfl L_439 L_440 L_442 L_443 L_86 L_444 rfl k_Cu_atWord ⟨(by show _ ≤ fr0 + 9; omega), (by show _ ≤ lo0 + 346; omega)⟩ hl.1 ⟨Nat.le_trans (Nat.le_add_right _ _) hcl, Nat.le_trans (Nat.le_add_right _ _) hsl⟩ (Nat.le_of_ble_eq_true rfl) d_Pa_tryStatement_34 rfl ?_
  refine lv_if_ne (tgt := 57) hx hb d_Pa_tryStatement_37 (by decide) (fun c_3 => ?_) (fun c_3 => ?_)
  · refine lv_aload_n hx hb d_Pa_tryStatement_57 rfl (lv_at hl 1 rfl) ?_
    refine lv_iconst (v := 2) hx hb d_Pa_tryStatement_58 (by decide) ?_
    refine rd_U (xm := ⟨"SyntaxTree$Parser", "atWord", "(I)Z"⟩) (owner := R_Cu) (v := (f_Cu_atWord st_2 2)) (As := [.int 2]) (rest := []) ⟨hx, hb, hml, hown, hts0⟩ (m_Cu_atWord l dC dI cI cZ hp hc h a1 a2 a3 a4 ht ad_2.1 ad_2.2.1 ad_2.2.2.1 ad_2.2.2.2 hq n1 n2 st_2 ok_2 2) hP hK [0, 1, 2, 3, 4, 5, 6, 7, 8, 9, 10, 11, 12, 13, 14] rfl [0, 1] rfl 0 2 rfl rfl L_439 L_440 L_442 L_443 L_86 L_444 rfl k_Cu_atWord ⟨(by show _ ≤ fr0 + 9; omega), (by show _ ≤ lo0 + 346; omega)⟩ hl.1 ⟨Nat.le_trans (Nat.le_add_right _ _) hcl, Nat.le_trans (Nat.le_add_right _ _) hsl⟩ (Nat.le_of_ble_eq_true rfl) d_Pa_tryStatement_59 rfl ?_
    refine lv_if_eq (tgt := 129) hx hb d_Pa_tryStatement_62 (by decide) (fun q9 => absurd q9 c_3) (fun _ => ?_)
    refine lv_aload_n hx hb d_Pa_tryStatement_65 rfl (lv_at hl 1 rfl) ?_
    refine va_get (D := (dC, dI)) (ci := 2) (v := .ref ht) (C := R_Pa) (T := T_Pa) (N := 7) hx hb hts u_Pa hown hK hP 0 rfl rfl 0 (by decide) (hts _ L_208) (fun _ h9 => h9) rfl d_Pa_tryStatement_66 ?_
    refine lv_bipush (v := 21) hx hb d_Pa_tryStatement_69 (by decide) ?_
    refine lv_iconst (v := 0) hx hb d_Pa_tryStatement_71 (by decide) ?_
    refine lv_aload_n hx hb d_Pa_tryStatement_72 rfl (lv_at hl 1 rfl) ?_
    refine va_get (D := (dC, dI)) (ci := 2) (v := .int (sAt st_2)) (C := R_Pa) (T := T_Pa) (N := 7) hx hb hts u_Pa hown hK hP 0 rfl rfl 4 (by decide) (hts _ L_215) (fun x9 h9 => u_same (hts _ L_216) x9 h9) rfl d_Pa_tryStatement_73 ?_
    have hn_4 : (p_open st_2 21 0 (sAt st_2)) ≠ none := (fun z => hg (by unfold f_Pa_tryStatement; rw [bnd_r w_1, bnd_r w_2, if_neg c_3, bnd_n z]))
    refine pT_i (g := (p_open st_2 21 0 (sAt st_2))) (st := st_2) (As := [.int 21, .int 0, .int (sAt st_2)]) (rest := []) ⟨hx, hb, hml, hown, hts0⟩ (m_Tr_open l dC dI cI cZ sa rk ht ad_2 (sTr st_2) ok_2.2.1 _ 21 0 (sAt st_2) (p_open_c hn_4).1 (p_open_c hn_4).2.1) hP hD hK hS hA hC hZ L_416 L_417 L_418 L_85 L_419 ⟨rfl, k_Tr_open⟩ ⟨(by show _ ≤ fr0 + 9; omega), (by show _ ≤ lo0 + 346; omega)⟩ rfl rfl hl.1 (Nat.le_of_ble_eq_true rfl) d_Pa_tryStatement_76 rfl hcl hsl (p_open_c hn_4).2.2.1 (p_open_c hn_4).2.2.2 ok_2 (t_open_ok 21 0 (sAt st_2) ok_2.2.1 (p_open_c hn_4).1 (p_open_c hn_4).2.1) (p_open_e hn_4) (fun r_4 ad_4 st_4 H locs w_4 ok_4 e1_4 e2_4 hP hD hS => ?_)
    have hcl := cl_next hcl e1_4
    have hsl := cl_next hsl e2_4
    refine lv_istore_n (lv' := [(3, .int r_4), (2, .int r_1), (0, .ref hp), (1, .int depth)]) hx hb d_Pa_tryStatement_79 rfl hl (by decide) rfl (fun ls hl => ?_)
    refine lv_aload_n hx hb d_Pa_tryStatement_80 rfl (lv_at hl 2 rfl) ?_
    refine lv_dup hx hb d_Pa_tryStatement_81 rfl ?_
    refine va_get (D := (dC, dI)) (ci := 2) (v := .int (sAt st_4)) (C := R_Pa) (T := T_Pa) (N := 7) hx hb hts u_Pa hown hK hP 0 rfl rfl 4 (by decide) (hts _ L_215) (fun x9 h9 => u_same (hts _ L_216) x9 h9) rfl d_Pa_tryStatement_82 ?_
    refine lv_iconst (v := 1) hx hb d_Pa_tryStatement_85 (by decide) ?_
    refine lv_iadd hx hb d_Pa_tryStatement_86 ?_
    refine va_put (D := (dC, dI)) (ci := 2) (v := .int ((sAt st_4) + 1)) (ty := .int) (C := R_Pa) (T := T_Pa) (N := 7) hx hb hts u_Pa ty_Pa tk_Pa nm_Pa hown hK hP hD hS 0 rfl rfl 4 (by decide) (hts _ L_215) (fun x9 h9 => u_same (hts _ L_216) x9 h9) rfl (by decide +kernel) rfl rfl (Nat.le_of_ble_eq_true rfl) d_Pa_tryStatement_87 (fun H locs hP hD hS => ?_)
    have hP : va_P (dC, dI) cls (wQ cI cZ hp hc h a1 a2 a3 a4 ht hq n1 n2 (ad_4, (setAt st_4 ((sAt st_4) + 1)))) H := hP
    have hD : va_D A (wQ cI cZ hp hc h a1 a2 a3 a4 ht hq n1 n2 (ad_4, (setAt st_4 ((sAt st_4) + 1)))) := hD
    refine lv_aload_n hx hb d_Pa_tryStatement_90 rfl (lv_at hl 2 rfl) ?_
    refine lv_bipush (v := 60) hx hb d_Pa_tryStatement_91 (by decide) ?_
    refine mx_Uv (xm := ⟨"SyntaxTree$Parser", "expect", "(I)V"⟩) (owner := R_Cu) (As := [.int 60]) (rest := []) ⟨hx, hb, hml, hown, hts0⟩ (m_Cu_expect l hlt dC dI cI cZ sa rk hp hc h a1 a2 a3 a4 ht hq n1 n2 ad_4 (setAt st_4 ((sAt st_4) + 1)) (show okSt (setAt st_4 ((sAt st_4) + 1)) from ⟨ok_4.1, ok_4.2.1, ok_4.2.2.1, ok_4.2.2.2⟩) _ 60 (fun z => hg (by unfold f_Pa_tryStatement; rw [bnd_r w_1, bnd_r w_2, if_neg c_3, bnd_r w_4, bnd_n z]))) hP hD hK hS hA hC hZ hnt hlocks L_510 L_511 L_513 L_514 L_86 L_515 rfl k_Cu_expect ⟨(by show _ ≤ fr0 + 9; omega), (by show _ ≤ lo0 + 346; omega)⟩ rfl rfl hl.1 (Nat.le_of_ble_eq_true rfl) d_Pa_tryStatement_93 rfl (fun q z => by unfold f_Pa_tryStatement; rw [bnd_r w_1, bnd_r w_2, if_neg c_3, bnd_r w_4, bnd_l z]) hcl hsl (fun ad_5 st_5 H locs w_5 ok_5 e1_5 e2_5 hP hD hS => ?_)
    have hcl := cl_next hcl e1_5
    have hsl := cl_next hsl e2_5
    refine lv_aload_n hx hb d_Pa_tryStatement_96 rfl (lv_at hl 2 rfl) ?_
    refine va_get (D := (dC, dI)) (ci := 2) (v := .ref ht) (C := R_Pa) (T := T_Pa) (N := 7) hx hb hts u_Pa hown hK hP 0 rfl rfl 0 (by decide) (hts _ L_208) (fun _ h9 => h9) rfl d_Pa_tryStatement_97 ?_
    refine lv_iload_n hx hb d_Pa_tryStatement_100 rfl (lv_at hl 0 rfl) ?_
    refine lv_aload_n hx hb d_Pa_tryStatement_101 rfl (lv_at hl 2 rfl) ?_
    refine mx_Ui (xm := ⟨"SyntaxTree$Parser", "boundName", "()I"⟩) (owner := R_Cu) (As := []) (rest := [.int r_4, .ref ht]) ⟨hx, hb, hml, hown, hts0⟩ (m_Cu_boundName l hlt dC dI cI cZ sa rk hp hc h a1 a2 a3 a4 ht hq n1 n2 ad_5 st_5 ok_5 _  (fun z => hg (by unfold f_Pa_tryStatement; rw [bnd_r w_1, bnd_r w_2, if_neg c_3, bnd_r w_4, bnd_r w_5, bnd_n z]))) hP hD hK hS hA hC hZ hnt hlocks L_471 L_472 L_474 L_475 L_86 L_476 rfl k_Cu_boundName ⟨(by show _ ≤ fr0 + 9; omega), (by show _ ≤ lo0 + 346; omega)⟩ rfl rfl hl.1 (Nat.le_of_ble_eq_true rfl) d_Pa_tryStatement_102 rfl (fun q z => by unfold f_Pa_tryStatement; rw [bnd_r w_1, bnd_r w_2, if_neg c_3, bnd_r w_4, bnd_r w_5, bnd_l z]) hcl hsl (fun r_6 ad_6 st_6 H locs w_6 ok_6 e1_6 e2_6 hP hD hS => ?_)
    have hcl := cl_next hcl e1_6
    have hsl := cl_next hsl e2_6
    refine pT_v (g := (p_setValue st_6 r_4 r_6)) (st := st_6) (As := [.int r_4, .int r_6]) (rest := []) ⟨hx, hb, hml, hown, hts0⟩ (m_Tr_setValue l dC dI cI cZ sa rk ht ad_6 (sTr st_6) ok_6.2.1 _ r_4 r_6) hP hD hK hS hA hC hZ L_488 L_489 L_490 L_85 L_491 ⟨rfl, k_Tr_setValue⟩ ⟨(by show _ ≤ fr0 + 9; omega), (by show _ ≤ lo0 + 346; omega)⟩ rfl rfl hl.1 (Nat.le_of_ble_eq_true rfl) d_Pa_tryStatement_105 rfl hcl hsl (Nat.zero_le _) (Nat.zero_le _) ok_6 (t_setValue_ok r_4 r_6 ok_6.2.1) rfl (fun ad_7 st_7 H locs w_7 ok_7 e1_7 e2_7 hP hD hS => ?_)
    have hcl := cl_next hcl e1_7
    have hsl := cl_next hsl e2_7
    refine lv_aload_n hx hb d_Pa_tryStatement_108 rfl (lv_at hl 2 rfl) ?_
    refine lv_bipush (v := 61) hx hb d_Pa_tryStatement_109 (by decide) ?_
    refine mx_Uv (xm := ⟨"SyntaxTree$Parser", "expect", "(I)V"⟩) (owner := R_Cu) (As := [.int 61]) (rest := []) ⟨hx, hb, hml, hown, hts0⟩ (m_Cu_expect l hlt dC dI cI cZ sa rk hp hc h a1 a2 a3 a4 ht hq n1 n2 ad_7 st_7 ok_7 _ 61 (fun z => hg (by unfold f_Pa_tryStatement; rw [bnd_r w_1, bnd_r w_2, if_neg c_3, bnd_r w_4, bnd_r w_5, bnd_r w_6, bnd_r w_7, bnd_n z]))) hP hD hK hS hA hC hZ hnt hlocks L_510 L_511 L_513 L_514 L_86 L_515 rfl k_Cu_expect ⟨(by show _ ≤ fr0 + 9; omega), (by show _ ≤ lo0 + 346; omega)⟩ rfl rfl hl.1 (Nat.le_of_ble_eq_true rfl) d_Pa_tryStatement_111 rfl (fun q z => by unfold f_Pa_tryStatement; rw [bnd_r w_1, bnd_r w_2, if_neg c_3, bnd_r w_4, bnd_r w_5, bnd_r w_6, bnd_r w_7, bnd_l z]) hcl hsl (fun ad_8 st_8 H locs w_8 ok_8 e1_8 e2_8 hP hD hS => ?_)
    have hcl := cl_next hcl e1_8
    have hsl := cl_next hsl e2_8
    refine lv_aload_n hx hb d_Pa_tryStatement_114 rfl (lv_at hl 2 rfl) ?_
    refine lv_iload_n hx hb d_Pa_tryStatement_115 rfl (lv_at hl 3 rfl) ?_
    refine lv_iconst (v := 1) hx hb d_Pa_tryStatement_116 (by decide) ?_
    refine lv_iadd hx hb d_Pa_tryStatement_117 ?_
    refine mx_Vv (As := [.int (depth + 1)]) (rest := []) ⟨hx, hb, hml, hown, hts0⟩ (m_Pa_block l hlt dC dI cI cZ sa rk hp h a1 a2 a3 a4 ht hq n1 n2 fr0 lo0 E S F hRE hRS hRF hc ad_8 st_8 ok_8 _ (depth + 1) (fun z => hg (by unfold f_Pa_tryStatement; rw [bnd_r w_1, bnd_r w_2, if_neg c_3, bnd_r w_4, bnd_r w_5, bnd_r w_6, bnd_r w_7, bnd_r w_8, bnd_n z]))) hP hD hK hS hA hC hZ hnt hlocks L_815 L_817 L_49 L_87 L_818 k_Pa_block ⟨(by show _ ≤ fr0 + 9; omega), (by show _ ≤ lo0 + 346; omega)⟩ rfl rfl hl.1 (Nat.le_of_ble_eq_true rfl) d_Pa_tryStatement_118 rfl (fun q z => by unfold f_Pa_tryStatement; rw [bnd_r w_1, bnd_r w_2, if_neg c_3, bnd_r w_4, bnd_r w_5, bnd_r w_6, bnd_r w_7, bnd_r w_8, bnd_l z]) hcl hsl (fun ad_9 st_9 H locs w_9 ok_9 e1_9 e2_9 hP hD hS => ?_)
    have hcl := cl_next hcl e1_9
    have hsl := cl_next hsl e2_9
    refine lv_aload_n hx hb d_Pa_tryStatement_121 rfl (lv_at hl 2 rfl) ?_
    refine va_get (D := (dC, dI)) (ci := 2) (v := .ref ht) (C := R_Pa) (T := T_Pa) (N := 7) hx hb hts u_Pa hown hK hP 0 rfl rfl 0 (by decide) (hts _ L_208) (fun _ h9 => h9) rfl d_Pa_tryStatement_122 ?_
    refine lv_iload_n hx hb d_Pa_tryStatement_125 rfl (lv_at hl 0 rfl) ?_
    refine pT_v (g := (p_close st_9 r_4)) (st := st_9) (As := [.int r_4]) (rest := []) ⟨hx, hb, hml, hown, hts0⟩ (m_Tr_close l dC dI cI cZ sa rk ht ad_9 (sTr st_9) ok_9.2.1 _ r_4) hP hD hK hS hA hC hZ L_582 L_583 L_584 L_85 L_585 ⟨rfl, k_Tr_close⟩ ⟨(by show _ ≤ fr0 + 9; omega), (by show _ ≤ lo0 + 346; omega)⟩ rfl rfl hl.1 (Nat.le_of_ble_eq_true rfl) d_Pa_tryStatement_126 rfl hcl hsl (Nat.zero_le _) (Nat.zero_le _) ok_9 (t_close_ok r_4 ok_9.2.1) rfl (fun ad_10 st_10 H locs w_10 ok_10 e1_10 e2_10 hP hD hS => ?_)
    have hcl := cl_next hcl e1_10
    have hsl := cl_next hsl e2_10
    refine lv_aload_n hx hb d_Pa_tryStatement_129 rfl (lv_at hl 2 rfl) ?_
    refine lv_bipush (v := 9) hx hb d_Pa_tryStatement_130 (by decide) ?_
    refine rd_U (xm := ⟨"SyntaxTree$Parser", "atWord", "(I)Z"⟩) (owner := R_Cu) (v := (f_Cu_atWord st_10 9)) (As := [.int 9]) (rest := []) ⟨hx, hb, hml, hown, hts0⟩ (m_Cu_atWord l dC dI cI cZ hp hc h a1 a2 a3 a4 ht ad_10.1 ad_10.2.1 ad_10.2.2.1 ad_10.2.2.2 hq n1 n2 st_10 ok_10 9) hP hK [0, 1, 2, 3, 4, 5, 6, 7, 8, 9, 10, 11, 12, 13, 14] rfl [0, 1] rfl 0 2 rfl rfl L_439 L_440 L_442 L_443 L_86 L_444 rfl k_Cu_atWord ⟨(by show _ ≤ fr0 + 9; omega), (by show _ ≤ lo0 + 346; omega)⟩ hl.1 ⟨Nat.le_trans (Nat.le_add_right _ _) hcl, Nat.le_trans (Nat.le_add_right _ _) hsl⟩ (Nat.le_of_ble_eq_true rfl) d_Pa_tryStatement_132 rfl ?_
    refine lv_if_eq (tgt := 178) hx hb d_Pa_tryStatement_135 (by decide) (fun c_11 => ?_) (fun c_11 => ?_)
    · refine lv_aload_n hx hb d_Pa_tryStatement_178 rfl (lv_at hl 2 rfl) ?_
      refine va_get (D := (dC, dI)) (ci := 2) (v := .ref ht) (C := R_Pa) (T := T_Pa) (N := 7) hx hb hts u_Pa hown hK hP 0 rfl rfl 0 (by decide) (hts _ L_208) (fun _ h9 => h9) rfl d_Pa_tryStatement_179 ?_
      refine lv_iload_n hx hb d_Pa_tryStatement_182 rfl (lv_at hl 1 rfl) ?_
      refine pT_v (g := (p_close st_10 r_1)) (st := st_10) (As := [.int r_1]) (rest := []) ⟨hx, hb, hml, hown, hts0⟩ (m_Tr_close l dC dI cI cZ sa rk ht ad_10 (sTr st_10) ok_10.2.1 _ r_1) hP hD hK hS hA hC hZ L_582 L_583 L_584 L_85 L_585 ⟨rfl, k_Tr_close⟩ ⟨(by show _ ≤ fr0 + 9; omega), (by show _ ≤ lo0 + 346; omega)⟩ rfl rfl hl.1 (Nat.le_of_ble_eq_true rfl) d_Pa_tryStatement_183 rfl hcl hsl (Nat.zero_le _) (Nat.zero_le _) ok_10 (t_close_ok r_1 ok_10.2.1) rfl (fun ad_12 st_12 H locs w_12 ok_12 e1_12 e2_12 hP hD hS => ?_)
      have hcl := cl_next hcl e1_12
      have hsl := cl_next hsl e2_12
      exact mx_vret (stF := st_12) hx hb hr hlocks hK hP hD hS hcl hsl (by unfold f_Pa_tryStatement; rw [bnd_r w_1, bnd_r w_2, if_neg c_3, bnd_r w_4, bnd_r w_5, bnd_r w_6, bnd_r w_7, bnd_r w_8, bnd_r w_9, bnd_r w_10, if_pos c_11, bnd_r w_12]) ok_12 d_Pa_tryStatement_186
    · refine lv_aload_n hx hb d_Pa_tryStatement_138 rfl (lv_at hl 2 rfl) ?_
      refine va_get (D := (dC, dI)) (ci := 2) (v := .ref ht) (C := R_Pa) (T := T_Pa) (N := 7) hx hb hts u_Pa hown hK hP 0 rfl rfl 0 (by decide) (hts _ L_208) (fun _ h9 => h9) rfl d_Pa_tryStatement_139 ?_
      refine lv_bipush (v := 22) hx hb d_Pa_tryStatement_142 (by decide) ?_
      refine lv_iconst (v := 0) hx hb d_Pa_tryStatement_144 (by decide) ?_
      refine lv_aload_n hx hb d_Pa_tryStatement_145 rfl (lv_at hl 2 rfl) ?_
      refine va_get (D := (dC, dI)) (ci := 2) (v := .int (sAt st_10)) (C := R_Pa) (T := T_Pa) (N := 7) hx hb hts u_Pa hown hK hP 0 rfl rfl 4 (by decide) (hts _ L_215) (fun x9 h9 => u_same (hts _ L_216) x9 h9) rfl d_Pa_tryStatement_146 ?_
      have hn_13 : (p_open st_10 22 0 (sAt st_10)) ≠ none := (fun z => hg (by unfold f_Pa_tryStatement; rw [bnd_r w_1, bnd_r w_2, if_neg c_3, bnd_r w_4, bnd_r w_5, bnd_r w_6, bnd_r w_7, bnd_r w_8, bnd_r w_9, bnd_r w_10, if_neg c_11, bnd_n z]))
      refine pT_i (g := (p_open st_10 22 0 (sAt st_10))) (st := st_10) (As := [.int 22, .int 0, .int (sAt st_10)]) (rest := []) ⟨hx, hb, hml, hown, hts0⟩ (m_Tr_open l dC dI cI cZ sa rk ht ad_10 (sTr st_10) ok_10.2.1 _ 22 0 (sAt st_10) (p_open_c hn_13).1 (p_open_c hn_13).2.1) hP hD hK hS hA hC hZ L_416 L_417 L_418 L_85 L_419 ⟨rfl, k_Tr_open⟩ ⟨(by show _ ≤ fr0 + 9; omega), (by show _ ≤ lo0 + 346; omega)⟩ rfl rfl hl.1 (Nat.le_of_ble_eq_true rfl) d_Pa_tryStatement_149 rfl hcl hsl (p_open_c hn_13).2.2.1 (p_open_c hn_13).2.2.2 ok_10 (t_open_ok 22 0 (sAt st_10) ok_10.2.1 (p_open_c hn_13).1 (p_open_c hn_13).2.1) (p_open_e hn_13) (fun r_13 ad_13 st_13 H locs w_13 ok_13 e1_13 e2_13 hP hD hS => ?_)
      have hcl := cl_next hcl e1_13
      have hsl := cl_next hsl e2_13
      refine lv_istore_n (lv' := [(3, .int r_13), (2, .int r_1), (0, .ref hp), (1, .int depth)]) hx hb d_Pa_tryStatement_152 rfl hl (by decide) rfl (fun ls hl => ?_)
      refine lv_aload_n hx hb d_Pa_tryStatement_153 rfl (lv_at hl 2 rfl) ?_
      refine lv_dup hx hb d_Pa_tryStatement_154 rfl ?_
      refine va_get (D := (dC, dI)) (ci := 2) (v := .int (sAt st_13)) (C := R_Pa) (T := T_Pa) (N := 7) hx hb hts u_Pa hown hK hP 0 rfl rfl 4 (by decide) (hts _ L_215) (fun x9 h9 => u_same (hts _ L_216) x9 h9) rfl d_Pa_tryStatement_155 ?_
      refine lv_iconst (v := 1) hx hb d_Pa_tryStatement_158 (by decide) ?_
      refine lv_iadd hx hb d_Pa_tryStatement_159 ?_
      refine va_put (D := (dC, dI)) (ci := 2) (v := .int ((sAt st_13) + 1)) (ty := .int) (C := R_Pa) (T := T_Pa) (N := 7) hx hb hts u_Pa ty_Pa tk_Pa nm_Pa hown hK hP hD hS 0 rfl rfl 4 (by decide) (hts _ L_215) (fun x9 h9 => u_same (hts _ L_216) x9 h9) rfl (by decide +kernel) rfl rfl (Nat.le_of_ble_eq_true rfl) d_Pa_tryStatement_160 (fun H locs hP hD hS => ?_)
      have hP : va_P (dC, dI) cls (wQ cI cZ hp hc h a1 a2 a3 a4 ht hq n1 n2 (ad_13, (setAt st_13 ((sAt st_13) + 1)))) H := hP
      have hD : va_D A (wQ cI cZ hp hc h a1 a2 a3 a4 ht hq n1 n2 (ad_13, (setAt st_13 ((sAt st_13) + 1)))) := hD
      refine lv_aload_n hx hb d_Pa_tryStatement_163 rfl (lv_at hl 2 rfl) ?_
      refine lv_iload_n hx hb d_Pa_tryStatement_164 rfl (lv_at hl 3 rfl) ?_
      refine lv_iconst (v := 1) hx hb d_Pa_tryStatement_165 (by decide) ?_
      refine lv_iadd hx hb d_Pa_tryStatement_166 ?_
      refine mx_Vv (As := [.int (depth + 1)]) (rest := []) ⟨hx, hb, hml, hown, hts0⟩ (m_Pa_block l hlt dC dI cI cZ sa rk hp h a1 a2 a3 a4 ht hq n1 n2 fr0 lo0 E S F hRE hRS hRF hc ad_13 (setAt st_13 ((sAt st_13) + 1)) (show okSt (setAt st_13 ((sAt st_13) + 1)) from ⟨ok_13.1, ok_13.2.1, ok_13.2.2.1, ok_13.2.2.2⟩) _ (depth + 1) (fun z => hg (by unfold f_Pa_tryStatement; rw [bnd_r w_1, bnd_r w_2, if_neg c_3, bnd_r w_4, bnd_r w_5, bnd_r w_6, bnd_r w_7, bnd_r w_8, bnd_r w_9, bnd_r w_10, if_neg c_11, bnd_r w_13, bnd_n z]))) hP hD hK hS hA hC hZ hnt hlocks L_815 L_817 L_49 L_87 L_818 k_Pa_block ⟨(by show _ ≤ fr0 + 9; omega), (by show _ ≤ lo0 + 346; omega)⟩ rfl rfl hl.1 (Nat.le_of_ble_eq_true rfl) d_Pa_tryStatement_167 rfl (fun q z => by unfold f_Pa_tryStatement; rw [bnd_r w_1, bnd_r w_2, if_neg c_3, bnd_r w_4, bnd_r w_5, bnd_r w_6, bnd_r w_7, bnd_r w_8, bnd_r w_9, bnd_r w_10, if_neg c_11, bnd_r w_13, bnd_l z]) hcl hsl (fun ad_14 st_14 H locs w_14 ok_14 e1_14 e2_14 hP hD hS => ?_)
      have hcl := cl_next hcl e1_14
      have hsl := cl_next hsl e2_14
      refine lv_aload_n hx hb d_Pa_tryStatement_170 rfl (lv_at hl 2 rfl) ?_
      refine va_get (D := (dC, dI)) (ci := 2) (v := .ref ht) (C := R_Pa) (T := T_Pa) (N := 7) hx hb hts u_Pa hown hK hP 0 rfl rfl 0 (by decide) (hts _ L_208) (fun _ h9 => h9) rfl d_Pa_tryStatement_171 ?_
      refine lv_iload_n hx hb d_Pa_tryStatement_174 rfl (lv_at hl 0 rfl) ?_
      refine pT_v (g := (p_close st_14 r_13)) (st := st_14) (As := [.int r_13]) (rest := []) ⟨hx, hb, hml, hown, hts0⟩ (m_Tr_close l dC dI cI cZ sa rk ht ad_14 (sTr st_14) ok_14.2.1 _ r_13) hP hD hK hS hA hC hZ L_582 L_583 L_584 L_85 L_585 ⟨rfl, k_Tr_close⟩ ⟨(by show _ ≤ fr0 + 9; omega), (by show _ ≤ lo0 + 346; omega)⟩ rfl rfl hl.1 (Nat.le_of_ble_eq_true rfl) d_Pa_tryStatement_175 rfl hcl hsl (Nat.zero_le _) (Nat.zero_le _) ok_14 (t_close_ok r_13 ok_14.2.1) rfl (fun ad_15 st_15 H locs w_15 ok_15 e1_15 e2_15 hP hD hS => ?_)
      have hcl := cl_next hcl e1_15
      have hsl := cl_next hsl e2_15
      refine lv_aload_n hx hb d_Pa_tryStatement_178 rfl (lv_at hl 2 rfl) ?_
      refine va_get (D := (dC, dI)) (ci := 2) (v := .ref ht) (C := R_Pa) (T := T_Pa) (N := 7) hx hb hts u_Pa hown hK hP 0 rfl rfl 0 (by decide) (hts _ L_208) (fun _ h9 => h9) rfl d_Pa_tryStatement_179 ?_
      refine lv_iload_n hx hb d_Pa_tryStatement_182 rfl (lv_at hl 1 rfl) ?_
      refine pT_v (g := (p_close st_15 r_1)) (st := st_15) (As := [.int r_1]) (rest := []) ⟨hx, hb, hml, hown, hts0⟩ (m_Tr_close l dC dI cI cZ sa rk ht ad_15 (sTr st_15) ok_15.2.1 _ r_1) hP hD hK hS hA hC hZ L_582 L_583 L_584 L_85 L_585 ⟨rfl, k_Tr_close⟩ ⟨(by show _ ≤ fr0 + 9; omega), (by show _ ≤ lo0 + 346; omega)⟩ rfl rfl hl.1 (Nat.le_of_ble_eq_true rfl) d_Pa_tryStatement_183 rfl hcl hsl (Nat.zero_le _) (Nat.zero_le _) ok_15 (t_close_ok r_1 ok_15.2.1) rfl (fun ad_16 st_16 H locs w_16 ok_16 e1_16 e2_16 hP hD hS => ?_)
      have hcl := cl_next hcl e1_16
      have hsl := cl_next hsl e2_16
      exact mx_vret (stF := st_16) hx hb hr hlocks hK hP hD hS hcl hsl (by unfold f_Pa_tryStatement; rw [bnd_r w_1, bnd_r w_2, if_neg c_3, bnd_r w_4, bnd_r w_5, bnd_r w_6, bnd_r w_7, bnd_r w_8, bnd_r w_9, bnd_r w_10, if_neg c_11, bnd_r w_13, bnd_r w_14, bnd_r w_15, bnd_r w_16]) ok_16 d_Pa_tryStatement_186
  · refine lv_aload_n hx hb d_Pa_tryStatement_40 rfl (lv_at hl 1 rfl) ?_
    refine lv_bipush (v := 9) hx hb d_Pa_tryStatement_41 (by decide) ?_
    refine rd_U (xm := ⟨"SyntaxTree$Parser", "atWord", "(I)Z"⟩) (owner := R_Cu) (v := (f_Cu_atWord st_2 9)) (As := [.int 9]) (rest := []) ⟨hx, hb, hml, hown, hts0⟩ (m_Cu_atWord l dC dI cI cZ hp hc h a1 a2 a3 a4 ht ad_2.1 ad_2.2.1 ad_2.2.2.1 ad_2.2.2.2 hq n1 n2 st_2 ok_2 9) hP hK [0, 1, 2, 3, 4, 5, 6, 7, 8, 9, 10, 11, 12, 13, 14] rfl [0, 1] rfl 0 2 rfl rfl L_439 L_440 L_442 L_443 L_86 L_444 rfl k_Cu_atWord ⟨(by show _ ≤ fr0 + 9; omega), (by show _ ≤ lo0 + 346; omega)⟩ hl.1 ⟨Nat.le_trans (Nat.le_add_right _ _) hcl, Nat.le_trans (Nat.le_add_right _ _) hsl⟩ (Nat.le_of_ble_eq_true rfl) d_Pa_tryStatement_43 rfl ?_
    refine lv_if_ne (tgt := 57) hx hb d_Pa_tryStatement_46 (by decide) (fun c_17 => ?_) (fun c_17 => ?_)
    · refine lv_aload_n hx hb d_Pa_tryStatement_57 rfl (lv_at hl 1 rfl) ?_
      refine lv_iconst (v := 2) hx hb d_Pa_tryStatement_58 (by decide) ?_
      refine rd_U (xm := ⟨"SyntaxTree$Parser", "atWord", "(I)Z"⟩) (owner := R_Cu) (v := (f_Cu_atWord st_2 2)) (As := [.int 2]) (rest := []) ⟨hx, hb, hml, hown, hts0⟩ (m_Cu_atWord l dC dI cI cZ hp hc h a1 a2 a3 a4 ht ad_2.1 ad_2.2.1 ad_2.2.2.1 ad_2.2.2.2 hq n1 n2 st_2 ok_2 2) hP hK [0, 1, 2, 3, 4, 5, 6, 7, 8, 9, 10, 11, 12, 13, 14] rfl [0, 1] rfl 0 2 rfl rfl L_439 L_440 L_442 L_443 L_86 L_444 rfl k_Cu_atWord ⟨(by show _ ≤ fr0 + 9; omega), (by show _ ≤ lo0 + 346; omega)⟩ hl.1 ⟨Nat.le_trans (Nat.le_add_right _ _) hcl, Nat.le_trans (Nat.le_add_right _ _) hsl⟩ (Nat.le_of_ble_eq_true rfl) d_Pa_tryStatement_59 rfl ?_
      refine lv_if_eq (tgt := 129) hx hb d_Pa_tryStatement_62 (by decide) (fun _ => ?_) (fun q9 => absurd c_3 q9)
      refine lv_aload_n hx hb d_Pa_tryStatement_129 rfl (lv_at hl 1 rfl) ?_
      refine lv_bipush (v := 9) hx hb d_Pa_tryStatement_130 (by decide) ?_
      refine rd_U (xm := ⟨"SyntaxTree$Parser", "atWord", "(I)Z"⟩) (owner := R_Cu) (v := (f_Cu_atWord st_2 9)) (As := [.int 9]) (rest := []) ⟨hx, hb, hml, hown, hts0⟩ (m_Cu_atWord l dC dI cI cZ hp hc h a1 a2 a3 a4 ht ad_2.1 ad_2.2.1 ad_2.2.2.1 ad_2.2.2.2 hq n1 n2 st_2 ok_2 9) hP hK [0, 1, 2, 3, 4, 5, 6, 7, 8, 9, 10, 11, 12, 13, 14] rfl [0, 1] rfl 0 2 rfl rfl L_439 L_440 L_442 L_443 L_86 L_444 rfl k_Cu_atWord ⟨(by show _ ≤ fr0 + 9; omega), (by show _ ≤ lo0 + 346; omega)⟩ hl.1 ⟨Nat.le_trans (Nat.le_add_right _ _) hcl, Nat.le_trans (Nat.le_add_right _ _) hsl⟩ (Nat.le_of_ble_eq_true rfl) d_Pa_tryStatement_132 rfl ?_
      refine lv_if_eq (tgt := 178) hx hb d_Pa_tryStatement_135 (by decide) (fun q9 => absurd q9 c_17) (fun _ => ?_)
      refine lv_aload_n hx hb d_Pa_tryStatement_138 rfl (lv_at hl 1 rfl) ?_
      refine va_get (D := (dC, dI)) (ci := 2) (v := .ref ht) (C := R_Pa) (T := T_Pa) (N := 7) hx hb hts u_Pa hown hK hP 0 rfl rfl 0 (by decide) (hts _ L_208) (fun _ h9 => h9) rfl d_Pa_tryStatement_139 ?_
      refine lv_bipush (v := 22) hx hb d_Pa_tryStatement_142 (by decide) ?_
      refine lv_iconst (v := 0) hx hb d_Pa_tryStatement_144 (by decide) ?_
      refine lv_aload_n hx hb d_Pa_tryStatement_145 rfl (lv_at hl 1 rfl) ?_
      refine va_get (D := (dC, dI)) (ci := 2) (v := .int (sAt st_2)) (C := R_Pa) (T := T_Pa) (N := 7) hx hb hts u_Pa hown hK hP 0 rfl rfl 4 (by decide) (hts _ L_215) (fun x9 h9 => u_same (hts _ L_216) x9 h9) rfl d_Pa_tryStatement_146 ?_
      have hn_18 : (p_open st_2 22 0 (sAt st_2)) ≠ none := (fun z => hg (by unfold f_Pa_tryStatement; rw [bnd_r w_1, bnd_r w_2, if_pos c_3, if_neg c_17, bnd_n z]))
      refine pT_i (g := (p_open st_2 22 0 (sAt st_2))) (st := st_2) (As := [.int 22, .int 0, .int (sAt st_2)]) (rest := []) ⟨hx, hb, hml, hown, hts0⟩ (m_Tr_open l dC dI cI cZ sa rk ht ad_2 (sTr st_2) ok_2.2.1 _ 22 0 (sAt st_2) (p_open_c hn_18).1 (p_open_c hn_18).2.1) hP hD hK hS hA hC hZ L_416 L_417 L_418 L_85 L_419 ⟨rfl, k_Tr_open⟩ ⟨(by show _ ≤ fr0 + 9; omega), (by show _ ≤ lo0 + 346; omega)⟩ rfl rfl hl.1 (Nat.le_of_ble_eq_true rfl) d_Pa_tryStatement_149 rfl hcl hsl (p_open_c hn_18).2.2.1 (p_open_c hn_18).2.2.2 ok_2 (t_open_ok 22 0 (sAt st_2) ok_2.2.1 (p_open_c hn_18).1 (p_open_c hn_18).2.1) (p_open_e hn_18) (fun r_18 ad_18 st_18 H locs w_18 ok_18 e1_18 e2_18 hP hD hS => ?_)
      have hcl := cl_next hcl e1_18
      have hsl := cl_next hsl e2_18
      refine lv_istore_n (lv' := [(3, .int r_18), (2, .int r_1), (0, .ref hp), (1, .int depth)]) hx hb d_Pa_tryStatement_152 rfl hl (by decide) rfl (fun ls hl => ?_)
      refine lv_aload_n hx hb d_Pa_tryStatement_153 rfl (lv_at hl 2 rfl) ?_
      refine lv_dup hx hb d_Pa_tryStatement_154 rfl ?_
      refine va_get (D := (dC, dI)) (ci := 2) (v := .int (sAt st_18)) (C := R_Pa) (T := T_Pa) (N := 7) hx hb hts u_Pa hown hK hP 0 rfl rfl 4 (by decide) (hts _ L_215) (fun x9 h9 => u_same (hts _ L_216) x9 h9) rfl d_Pa_tryStatement_155 ?_
      refine lv_iconst (v := 1) hx hb d_Pa_tryStatement_158 (by decide) ?_
      refine lv_iadd hx hb d_Pa_tryStatement_159 ?_
      refine va_put (D := (dC, dI)) (ci := 2) (v := .int ((sAt st_18) + 1)) (ty := .int) (C := R_Pa) (T := T_Pa) (N := 7) hx hb hts u_Pa ty_Pa tk_Pa nm_Pa hown hK hP hD hS 0 rfl rfl 4 (by decide) (hts _ L_215) (fun x9 h9 => u_same (hts _ L_216) x9 h9) rfl (by decide +kernel) rfl rfl (Nat.le_of_ble_eq_true rfl) d_Pa_tryStatement_160 (fun H locs hP hD hS => ?_)
      have hP : va_P (dC, dI) cls (wQ cI cZ hp hc h a1 a2 a3 a4 ht hq n1 n2 (ad_18, (setAt st_18 ((sAt st_18) + 1)))) H := hP
      have hD : va_D A (wQ cI cZ hp hc h a1 a2 a3 a4 ht hq n1 n2 (ad_18, (setAt st_18 ((sAt st_18) + 1)))) := hD
      refine lv_aload_n hx hb d_Pa_tryStatement_163 rfl (lv_at hl 2 rfl) ?_
      refine lv_iload_n hx hb d_Pa_tryStatement_164 rfl (lv_at hl 3 rfl) ?_
      refine lv_iconst (v := 1) hx hb d_Pa_tryStatement_165 (by decide) ?_
      refine lv_iadd hx hb d_Pa_tryStatement_166 ?_
      refine mx_Vv (As := [.int (depth + 1)]) (rest := []) ⟨hx, hb, hml, hown, hts0⟩ (m_Pa_block l hlt dC dI cI cZ sa rk hp h a1 a2 a3 a4 ht hq n1 n2 fr0 lo0 E S F hRE hRS hRF hc ad_18 (setAt st_18 ((sAt st_18) + 1)) (show okSt (setAt st_18 ((sAt st_18) + 1)) from ⟨ok_18.1, ok_18.2.1, ok_18.2.2.1, ok_18.2.2.2⟩) _ (depth + 1) (fun z => hg (by unfold f_Pa_tryStatement; rw [bnd_r w_1, bnd_r w_2, if_pos c_3, if_neg c_17, bnd_r w_18, bnd_n z]))) hP hD hK hS hA hC hZ hnt hlocks L_815 L_817 L_49 L_87 L_818 k_Pa_block ⟨(by show _ ≤ fr0 + 9; omega), (by show _ ≤ lo0 + 346; omega)⟩ rfl rfl hl.1 (Nat.le_of_ble_eq_true rfl) d_Pa_tryStatement_167 rfl (fun q z => by unfold f_Pa_tryStatement; rw [bnd_r w_1, bnd_r w_2, if_pos c_3, if_neg c_17, bnd_r w_18, bnd_l z]) hcl hsl (fun ad_19 st_19 H locs w_19 ok_19 e1_19 e2_19 hP hD hS => ?_)
      have hcl := cl_next hcl e1_19
      have hsl := cl_next hsl e2_19
      refine lv_aload_n hx hb d_Pa_tryStatement_170 rfl (lv_at hl 2 rfl) ?_
      refine va_get (D := (dC, dI)) (ci := 2) (v := .ref ht) (C := R_Pa) (T := T_Pa) (N := 7) hx hb hts u_Pa hown hK hP 0 rfl rfl 0 (by decide) (hts _ L_208) (fun _ h9 => h9) rfl d_Pa_tryStatement_171 ?_
      refine lv_iload_n hx hb d_Pa_tryStatement_174 rfl (lv_at hl 0 rfl) ?_
      refine pT_v (g := (p_close st_19 r_18)) (st := st_19) (As := [.int r_18]) (rest := []) ⟨hx, hb, hml, hown, hts0⟩ (m_Tr_close l dC dI cI cZ sa rk ht ad_19 (sTr st_19) ok_19.2.1 _ r_18) hP hD hK hS hA hC hZ L_582 L_583 L_584 L_85 L_585 ⟨rfl, k_Tr_close⟩ ⟨(by show _ ≤ fr0 + 9; omega), (by show _ ≤ lo0 + 346; omega)⟩ rfl rfl hl.1 (Nat.le_of_ble_eq_true rfl) d_Pa_tryStatement_175 rfl hcl hsl (Nat.zero_le _) (Nat.zero_le _) ok_19 (t_close_ok r_18 ok_19.2.1) rfl (fun ad_20 st_20 H locs w_20 ok_20 e1_20 e2_20 hP hD hS => ?_)
      have hcl := cl_next hcl e1_20
      have hsl := cl_next hsl e2_20
      refine lv_aload_n hx hb d_Pa_tryStatement_178 rfl (lv_at hl 2 rfl) ?_
      refine va_get (D := (dC, dI)) (ci := 2) (v := .ref ht) (C := R_Pa) (T := T_Pa) (N := 7) hx hb hts u_Pa hown hK hP 0 rfl rfl 0 (by decide) (hts _ L_208) (fun _ h9 => h9) rfl d_Pa_tryStatement_179 ?_
      refine lv_iload_n hx hb d_Pa_tryStatement_182 rfl (lv_at hl 1 rfl) ?_
      refine pT_v (g := (p_close st_20 r_1)) (st := st_20) (As := [.int r_1]) (rest := []) ⟨hx, hb, hml, hown, hts0⟩ (m_Tr_close l dC dI cI cZ sa rk ht ad_20 (sTr st_20) ok_20.2.1 _ r_1) hP hD hK hS hA hC hZ L_582 L_583 L_584 L_85 L_585 ⟨rfl, k_Tr_close⟩ ⟨(by show _ ≤ fr0 + 9; omega), (by show _ ≤ lo0 + 346; omega)⟩ rfl rfl hl.1 (Nat.le_of_ble_eq_true rfl) d_Pa_tryStatement_183 rfl hcl hsl (Nat.zero_le _) (Nat.zero_le _) ok_20 (t_close_ok r_1 ok_20.2.1) rfl (fun ad_21 st_21 H locs w_21 ok_21 e1_21 e2_21 hP hD hS => ?_)
      have hcl := cl_next hcl e1_21
      have hsl := cl_next hsl e2_21
      exact mx_vret (stF := st_21) hx hb hr hlocks hK hP hD hS hcl hsl (by unfold f_Pa_tryStatement; rw [bnd_r w_1, bnd_r w_2, if_pos c_3, if_neg c_17, bnd_r w_18, bnd_r w_19, bnd_r w_20, bnd_r w_21]) ok_21 d_Pa_tryStatement_186
    · refine lv_aload_n hx hb d_Pa_tryStatement_49 rfl (lv_at hl 1 rfl) ?_
      refine lv_aload_n hx hb d_Pa_tryStatement_50 rfl (lv_at hl 1 rfl) ?_
      refine va_get (D := (dC, dI)) (ci := 2) (v := .int (sAt st_2)) (C := R_Pa) (T := T_Pa) (N := 7) hx hb hts u_Pa hown hK hP 0 rfl rfl 4 (by decide) (hts _ L_215) (fun x9 h9 => u_same (hts _ L_216) x9 h9) rfl d_Pa_tryStatement_51 ?_
      refine mx_Uv (xm := ⟨"SyntaxTree$Parser", "refuse", "(I)V"⟩) (owner := R_Cu) (As := [.int (sAt st_2)]) (rest := []) ⟨hx, hb, hml, hown, hts0⟩ (m_Cu_refuse l hlt dC dI cI cZ sa rk hp hc h a1 a2 a3 a4 ht hq n1 n2 ad_2 st_2 ok_2 _ (sAt st_2) (fun z => hg (by unfold f_Pa_tryStatement; rw [bnd_r w_1, bnd_r w_2, if_pos c_3, if_pos c_17, bnd_n z]))) hP hD hK hS hA hC hZ hnt hlocks L_536 L_537 L_539 L_460 L_86 L_463 rfl k_Cu_refuse ⟨(by show _ ≤ fr0 + 9; omega), (by show _ ≤ lo0 + 346; omega)⟩ rfl rfl hl.1 (Nat.le_of_ble_eq_true rfl) d_Pa_tryStatement_54 rfl (fun q z => by unfold f_Pa_tryStatement; rw [bnd_r w_1, bnd_r w_2, if_pos c_3, if_pos c_17, bnd_l z]) hcl hsl (fun ad_22 st_22 H locs w_22 ok_22 e1_22 e2_22 hP hD hS => ?_)
      have hcl := cl_next hcl e1_22
      have hsl := cl_next hsl e2_22
      refine lv_aload_n hx hb d_Pa_tryStatement_57 rfl (lv_at hl 1 rfl) ?_
      refine lv_iconst (v := 2) hx hb d_Pa_tryStatement_58 (by decide) ?_
      refine rd_U (xm := ⟨"SyntaxTree$Parser", "atWord", "(I)Z"⟩) (owner := R_Cu) (v := (f_Cu_atWord st_22 2)) (As := [.int 2]) (rest := []) ⟨hx, hb, hml, hown, hts0⟩ (m_Cu_atWord l dC dI cI cZ hp hc h a1 a2 a3 a4 ht ad_22.1 ad_22.2.1 ad_22.2.2.1 ad_22.2.2.2 hq n1 n2 st_22 ok_22 2) hP hK [0, 1, 2, 3, 4, 5, 6, 7, 8, 9, 10, 11, 12, 13, 14] rfl [0, 1] rfl 0 2 rfl rfl L_439 L_440 L_442 L_443 L_86 L_444 rfl k_Cu_atWord ⟨(by show _ ≤ fr0 + 9; omega), (by show _ ≤ lo0 + 346; omega)⟩ hl.1 ⟨Nat.le_trans (Nat.le_add_right _ _) hcl, Nat.le_trans (Nat.le_add_right _ _) hsl⟩ (Nat.le_of_ble_eq_true rfl) d_Pa_tryStatement_59 rfl ?_
      refine lv_if_eq (tgt := 129) hx hb d_Pa_tryStatement_62 (by decide) (fun c_23 => ?_) (fun c_23 => ?_)
      · refine lv_aload_n hx hb d_Pa_tryStatement_129 rfl (lv_at hl 1 rfl) ?_
        refine lv_bipush (v := 9) hx hb d_Pa_tryStatement_130 (by decide) ?_
        refine rd_U (xm := ⟨"SyntaxTree$Parser", "atWord", "(I)Z"⟩) (owner := R_Cu) (v := (f_Cu_atWord st_22 9)) (As := [.int 9]) (rest := []) ⟨hx, hb, hml, hown, hts0⟩ (m_Cu_atWord l dC dI cI cZ hp hc h a1 a2 a3 a4 ht ad_22.1 ad_22.2.1 ad_22.2.2.1 ad_22.2.2.2 hq n1 n2 st_22 ok_22 9) hP hK [0, 1, 2, 3, 4, 5, 6, 7, 8, 9, 10, 11, 12, 13, 14] rfl [0, 1] rfl 0 2 rfl rfl L_439 L_440 L_442 L_443 L_86 L_444 rfl k_Cu_atWord ⟨(by show _ ≤ fr0 + 9; omega), (by show _ ≤ lo0 + 346; omega)⟩ hl.1 ⟨Nat.le_trans (Nat.le_add_right _ _) hcl, Nat.le_trans (Nat.le_add_right _ _) hsl⟩ (Nat.le_of_ble_eq_true rfl) d_Pa_tryStatement_132 rfl ?_
        refine lv_if_eq (tgt := 178) hx hb d_Pa_tryStatement_135 (by decide) (fun c_24 => ?_) (fun c_24 => ?_)
        · refine lv_aload_n hx hb d_Pa_tryStatement_178 rfl (lv_at hl 1 rfl) ?_
          refine va_get (D := (dC, dI)) (ci := 2) (v := .ref ht) (C := R_Pa) (T := T_Pa) (N := 7) hx hb hts u_Pa hown hK hP 0 rfl rfl 0 (by decide) (hts _ L_208) (fun _ h9 => h9) rfl d_Pa_tryStatement_179 ?_
          refine lv_iload_n hx hb d_Pa_tryStatement_182 rfl (lv_at hl 0 rfl) ?_
          refine pT_v (g := (p_close st_22 r_1)) (st := st_22) (As := [.int r_1]) (rest := []) ⟨hx, hb, hml, hown, hts0⟩ (m_Tr_close l dC dI cI cZ sa rk ht ad_22 (sTr st_22) ok_22.2.1 _ r_1) hP hD hK hS hA hC hZ L_582 L_583 L_584 L_85 L_585 ⟨rfl, k_Tr_close⟩ ⟨(by show _ ≤ fr0 + 9; omega), (by show _ ≤ lo0 + 346; omega)⟩ rfl rfl hl.1 (Nat.le_of_ble_eq_true rfl) d_Pa_tryStatement_183 rfl hcl hsl (Nat.zero_le _) (Nat.zero_le _) ok_22 (t_close_ok r_1 ok_22.2.1) rfl (fun ad_25 st_25 H locs w_25 ok_25 e1_25 e2_25 hP hD hS => ?_)
          have hcl := cl_next hcl e1_25
          have hsl := cl_next hsl e2_25
          exact mx_vret (stF := st_25) hx hb hr hlocks hK hP hD hS hcl hsl (by unfold f_Pa_tryStatement; rw [bnd_r w_1, bnd_r w_2, if_pos c_3, if_pos c_17, bnd_r w_22, if_pos c_23, if_pos c_24, bnd_r w_25]) ok_25 d_Pa_tryStatement_186
        · refine lv_aload_n hx hb d_Pa_tryStatement_138 rfl (lv_at hl 1 rfl) ?_
          refine va_get (D := (dC, dI)) (ci := 2) (v := .ref ht) (C := R_Pa) (T := T_Pa) (N := 7) hx hb hts u_Pa hown hK hP 0 rfl rfl 0 (by decide) (hts _ L_208) (fun _ h9 => h9) rfl d_Pa_tryStatement_139 ?_
          refine lv_bipush (v := 22) hx hb d_Pa_tryStatement_142 (by decide) ?_
          refine lv_iconst (v := 0) hx hb d_Pa_tryStatement_144 (by decide) ?_
          refine lv_aload_n hx hb d_Pa_tryStatement_145 rfl (lv_at hl 1 rfl) ?_
          refine va_get (D := (dC, dI)) (ci := 2) (v := .int (sAt st_22)) (C := R_Pa) (T := T_Pa) (N := 7) hx hb hts u_Pa hown hK hP 0 rfl rfl 4 (by decide) (hts _ L_215) (fun x9 h9 => u_same (hts _ L_216) x9 h9) rfl d_Pa_tryStatement_146 ?_
          have hn_26 : (p_open st_22 22 0 (sAt st_22)) ≠ none := (fun z => hg (by unfold f_Pa_tryStatement; rw [bnd_r w_1, bnd_r w_2, if_pos c_3, if_pos c_17, bnd_r w_22, if_pos c_23, if_neg c_24, bnd_n z]))
          refine pT_i (g := (p_open st_22 22 0 (sAt st_22))) (st := st_22) (As := [.int 22, .int 0, .int (sAt st_22)]) (rest := []) ⟨hx, hb, hml, hown, hts0⟩ (m_Tr_open l dC dI cI cZ sa rk ht ad_22 (sTr st_22) ok_22.2.1 _ 22 0 (sAt st_22) (p_open_c hn_26).1 (p_open_c hn_26).2.1) hP hD hK hS hA hC hZ L_416 L_417 L_418 L_85 L_419 ⟨rfl, k_Tr_open⟩ ⟨(by show _ ≤ fr0 + 9; omega), (by show _ ≤ lo0 + 346; omega)⟩ rfl rfl hl.1 (Nat.le_of_ble_eq_true rfl) d_Pa_tryStatement_149 rfl hcl hsl (p_open_c hn_26).2.2.1 (p_open_c hn_26).2.2.2 ok_22 (t_open_ok 22 0 (sAt st_22) ok_22.2.1 (p_open_c hn_26).1 (p_open_c hn_26).2.1) (p_open_e hn_26) (fun r_26 ad_26 st_26 H locs w_26 ok_26 e1_26 e2_26 hP hD hS => ?_)
          have hcl := cl_next hcl e1_26
          have hsl := cl_next hsl e2_26
          refine lv_istore_n (lv' := [(3, .int r_26), (2, .int r_1), (0, .ref hp), (1, .int depth)]) hx hb d_Pa_tryStatement_152 rfl hl (by decide) rfl (fun ls hl => ?_)
          refine lv_aload_n hx hb d_Pa_tryStatement_153 rfl (lv_at hl 2 rfl) ?_
          refine lv_dup hx hb d_Pa_tryStatement_154 rfl ?_
          refine va_get (D := (dC, dI)) (ci := 2) (v := .int (sAt st_26)) (C := R_Pa) (T := T_Pa) (N := 7) hx hb hts u_Pa hown hK hP 0 rfl rfl 4 (by decide) (hts _ L_215) (fun x9 h9 => u_same (hts _ L_216) x9 h9) rfl d_Pa_tryStatement_155 ?_
          refine lv_iconst (v := 1) hx hb d_Pa_tryStatement_158 (by decide) ?_
          refine lv_iadd hx hb d_Pa_tryStatement_159 ?_
          refine va_put (D := (dC, dI)) (ci := 2) (v := .int ((sAt st_26) + 1)) (ty := .int) (C := R_Pa) (T := T_Pa) (N := 7) hx hb hts u_Pa ty_Pa tk_Pa nm_Pa hown hK hP hD hS 0 rfl rfl 4 (by decide) (hts _ L_215) (fun x9 h9 => u_same (hts _ L_216) x9 h9) rfl (by decide +kernel) rfl rfl (Nat.le_of_ble_eq_true rfl) d_Pa_tryStatement_160 (fun H locs hP hD hS => ?_)
          have hP : va_P (dC, dI) cls (wQ cI cZ hp hc h a1 a2 a3 a4 ht hq n1 n2 (ad_26, (setAt st_26 ((sAt st_26) + 1)))) H := hP
          have hD : va_D A (wQ cI cZ hp hc h a1 a2 a3 a4 ht hq n1 n2 (ad_26, (setAt st_26 ((sAt st_26) + 1)))) := hD
          refine lv_aload_n hx hb d_Pa_tryStatement_163 rfl (lv_at hl 2 rfl) ?_
          refine lv_iload_n hx hb d_Pa_tryStatement_164 rfl (lv_at hl 3 rfl) ?_
          refine lv_iconst (v := 1) hx hb d_Pa_tryStatement_165 (by decide) ?_
          refine lv_iadd hx hb d_Pa_tryStatement_166 ?_
          refine mx_Vv (As := [.int (depth + 1)]) (rest := []) ⟨hx, hb, hml, hown, hts0⟩ (m_Pa_block l hlt dC dI cI cZ sa rk hp h a1 a2 a3 a4 ht hq n1 n2 fr0 lo0 E S F hRE hRS hRF hc ad_26 (setAt st_26 ((sAt st_26) + 1)) (show okSt (setAt st_26 ((sAt st_26) + 1)) from ⟨ok_26.1, ok_26.2.1, ok_26.2.2.1, ok_26.2.2.2⟩) _ (depth + 1) (fun z => hg (by unfold f_Pa_tryStatement; rw [bnd_r w_1, bnd_r w_2, if_pos c_3, if_pos c_17, bnd_r w_22, if_pos c_23, if_neg c_24, bnd_r w_26, bnd_n z]))) hP hD hK hS hA hC hZ hnt hlocks L_815 L_817 L_49 L_87 L_818 k_Pa_block ⟨(by show _ ≤ fr0 + 9; omega), (by show _ ≤ lo0 + 346; omega)⟩ rfl rfl hl.1 (Nat.le_of_ble_eq_true rfl) d_Pa_tryStatement_167 rfl (fun q z => by unfold f_Pa_tryStatement; rw [bnd_r w_1, bnd_r w_2, if_pos c_3, if_pos c_17, bnd_r w_22, if_pos c_23, if_neg c_24, bnd_r w_26, bnd_l z]) hcl hsl (fun ad_27 st_27 H locs w_27 ok_27 e1_27 e2_27 hP hD hS => ?_)
          have hcl := cl_next hcl e1_27
          have hsl := cl_next hsl e2_27
          refine lv_aload_n hx hb d_Pa_tryStatement_170 rfl (lv_at hl 2 rfl) ?_
          refine va_get (D := (dC, dI)) (ci := 2) (v := .ref ht) (C := R_Pa) (T := T_Pa) (N := 7) hx hb hts u_Pa hown hK hP 0 rfl rfl 0 (by decide) (hts _ L_208) (fun _ h9 => h9) rfl d_Pa_tryStatement_171 ?_
          refine lv_iload_n hx hb d_Pa_tryStatement_174 rfl (lv_at hl 0 rfl) ?_
          refine pT_v (g := (p_close st_27 r_26)) (st := st_27) (As := [.int r_26]) (rest := []) ⟨hx, hb, hml, hown, hts0⟩ (m_Tr_close l dC dI cI cZ sa rk ht ad_27 (sTr st_27) ok_27.2.1 _ r_26) hP hD hK hS hA hC hZ L_582 L_583 L_584 L_85 L_585 ⟨rfl, k_Tr_close⟩ ⟨(by show _ ≤ fr0 + 9; omega), (by show _ ≤ lo0 + 346; omega)⟩ rfl rfl hl.1 (Nat.le_of_ble_eq_true rfl) d_Pa_tryStatement_175 rfl hcl hsl (Nat.zero_le _) (Nat.zero_le _) ok_27 (t_close_ok r_26 ok_27.2.1) rfl (fun ad_28 st_28 H locs w_28 ok_28 e1_28 e2_28 hP hD hS => ?_)
          have hcl := cl_next hcl e1_28
          have hsl := cl_next hsl e2_28
          refine lv_aload_n hx hb d_Pa_tryStatement_178 rfl (lv_at hl 2 rfl) ?_
          refine va_get (D := (dC, dI)) (ci := 2) (v := .ref ht) (C := R_Pa) (T := T_Pa) (N := 7) hx hb hts u_Pa hown hK hP 0 rfl rfl 0 (by decide) (hts _ L_208) (fun _ h9 => h9) rfl d_Pa_tryStatement_179 ?_
          refine lv_iload_n hx hb d_Pa_tryStatement_182 rfl (lv_at hl 1 rfl) ?_
          refine pT_v (g := (p_close st_28 r_1)) (st := st_28) (As := [.int r_1]) (rest := []) ⟨hx, hb, hml, hown, hts0⟩ (m_Tr_close l dC dI cI cZ sa rk ht ad_28 (sTr st_28) ok_28.2.1 _ r_1) hP hD hK hS hA hC hZ L_582 L_583 L_584 L_85 L_585 ⟨rfl, k_Tr_close⟩ ⟨(by show _ ≤ fr0 + 9; omega), (by show _ ≤ lo0 + 346; omega)⟩ rfl rfl hl.1 (Nat.le_of_ble_eq_true rfl) d_Pa_tryStatement_183 rfl hcl hsl (Nat.zero_le _) (Nat.zero_le _) ok_28 (t_close_ok r_1 ok_28.2.1) rfl (fun ad_29 st_29 H locs w_29 ok_29 e1_29 e2_29 hP hD hS => ?_)
          have hcl := cl_next hcl e1_29
          have hsl := cl_next hsl e2_29
          exact mx_vret (stF := st_29) hx hb hr hlocks hK hP hD hS hcl hsl (by unfold f_Pa_tryStatement; rw [bnd_r w_1, bnd_r w_2, if_pos c_3, if_pos c_17, bnd_r w_22, if_pos c_23, if_neg c_24, bnd_r w_26, bnd_r w_27, bnd_r w_28, bnd_r w_29]) ok_29 d_Pa_tryStatement_186
      · refine lv_aload_n hx hb d_Pa_tryStatement_65 rfl (lv_at hl 1 rfl) ?_
        refine va_get (D := (dC, dI)) (ci := 2) (v := .ref ht) (C := R_Pa) (T := T_Pa) (N := 7) hx hb hts u_Pa hown hK hP 0 rfl rfl 0 (by decide) (hts _ L_208) (fun _ h9 => h9) rfl d_Pa_tryStatement_66 ?_
        refine lv_bipush (v := 21) hx hb d_Pa_tryStatement_69 (by decide) ?_
        refine lv_iconst (v := 0) hx hb d_Pa_tryStatement_71 (by decide) ?_
        refine lv_aload_n hx hb d_Pa_tryStatement_72 rfl (lv_at hl 1 rfl) ?_
        refine va_get (D := (dC, dI)) (ci := 2) (v := .int (sAt st_22)) (C := R_Pa) (T := T_Pa) (N := 7) hx hb hts u_Pa hown hK hP 0 rfl rfl 4 (by decide) (hts _ L_215) (fun x9 h9 => u_same (hts _ L_216) x9 h9) rfl d_Pa_tryStatement_73 ?_
        have hn_30 : (p_open st_22 21 0 (sAt st_22)) ≠ none := (fun z => hg (by unfold f_Pa_tryStatement; rw [bnd_r w_1, bnd_r w_2, if_pos c_3, if_pos c_17, bnd_r w_22, if_neg c_23, bnd_n z]))
        refine pT_i (g := (p_open st_22 21 0 (sAt st_22))) (st := st_22) (As := [.int 21, .int 0, .int (sAt st_22)]) (rest := []) ⟨hx, hb, hml, hown, hts0⟩ (m_Tr_open l dC dI cI cZ sa rk ht ad_22 (sTr st_22) ok_22.2.1 _ 21 0 (sAt st_22) (p_open_c hn_30).1 (p_open_c hn_30).2.1) hP hD hK hS hA hC hZ L_416 L_417 L_418 L_85 L_419 ⟨rfl, k_Tr_open⟩ ⟨(by show _ ≤ fr0 + 9; omega), (by show _ ≤ lo0 + 346; omega)⟩ rfl rfl hl.1 (Nat.le_of_ble_eq_true rfl) d_Pa_tryStatement_76 rfl hcl hsl (p_open_c hn_30).2.2.1 (p_open_c hn_30).2.2.2 ok_22 (t_open_ok 21 0 (sAt st_22) ok_22.2.1 (p_open_c hn_30).1 (p_open_c hn_30).2.1) (p_open_e hn_30) (fun r_30 ad_30 st_30 H locs w_30 ok_30 e1_30 e2_30 hP hD hS => ?_)
        have hcl := cl_next hcl e1_30
        have hsl := cl_next hsl e2_30
        refine lv_istore_n (lv' := [(3, .int r_30), (2, .int r_1), (0, .ref hp), (1, .int depth)]) hx hb d_Pa_tryStatement_79 rfl hl (by decide) rfl (fun ls hl => ?_)
        refine lv_aload_n hx hb d_Pa_tryStatement_80 rfl (lv_at hl 2 rfl) ?_
        refine lv_dup hx hb d_Pa_tryStatement_81 rfl ?_
        refine va_get (D := (dC, dI)) (ci := 2) (v := .int (sAt st_30)) (C := R_Pa) (T := T_Pa) (N := 7) hx hb hts u_Pa hown hK hP 0 rfl rfl 4 (by decide) (hts _ L_215) (fun x9 h9 => u_same (hts _ L_216) x9 h9) rfl d_Pa_tryStatement_82 ?_
        refine lv_iconst (v := 1) hx hb d_Pa_tryStatement_85 (by decide) ?_
        refine lv_iadd hx hb d_Pa_tryStatement_86 ?_
        refine va_put (D := (dC, dI)) (ci := 2) (v := .int ((sAt st_30) + 1)) (ty := .int) (C := R_Pa) (T := T_Pa) (N := 7) hx hb hts u_Pa ty_Pa tk_Pa nm_Pa hown hK hP hD hS 0 rfl rfl 4 (by decide) (hts _ L_215) (fun x9 h9 => u_same (hts _ L_216) x9 h9) rfl (by decide +kernel) rfl rfl (Nat.le_of_ble_eq_true rfl) d_Pa_tryStatement_87 (fun H locs hP hD hS => ?_)
        have hP : va_P (dC, dI) cls (wQ cI cZ hp hc h a1 a2 a3 a4 ht hq n1 n2 (ad_30, (setAt st_30 ((sAt st_30) + 1)))) H := hP
        have hD : va_D A (wQ cI cZ hp hc h a1 a2 a3 a4 ht hq n1 n2 (ad_30, (setAt st_30 ((sAt st_30) + 1)))) := hD
        refine lv_aload_n hx hb d_Pa_tryStatement_90 rfl (lv_at hl 2 rfl) ?_
        refine lv_bipush (v := 60) hx hb d_Pa_tryStatement_91 (by decide) ?_
        refine mx_Uv (xm := ⟨"SyntaxTree$Parser", "expect", "(I)V"⟩) (owner := R_Cu) (As := [.int 60]) (rest := []) ⟨hx, hb, hml, hown, hts0⟩ (m_Cu_expect l hlt dC dI cI cZ sa rk hp hc h a1 a2 a3 a4 ht hq n1 n2 ad_30 (setAt st_30 ((sAt st_30) + 1)) (show okSt (setAt st_30 ((sAt st_30) + 1)) from ⟨ok_30.1, ok_30.2.1, ok_30.2.2.1, ok_30.2.2.2⟩) _ 60 (fun z => hg (by unfold f_Pa_tryStatement; rw [bnd_r w_1, bnd_r w_2, if_pos c_3, if_pos c_17, bnd_r w_22, if_neg c_23, bnd_r w_30, bnd_n z]))) hP hD hK hS hA hC hZ hnt hlocks L_510 L_511 L_513 L_514 L_86 L_515 rfl k_Cu_expect ⟨(by show _ ≤ fr0 + 9; omega), (by show _ ≤ lo0 + 346; omega)⟩ rfl rfl hl.1 (Nat.le_of_ble_eq_true rfl) d_Pa_tryStatement_93 rfl (fun q z => by unfold f_Pa_tryStatement; rw [bnd_r w_1, bnd_r w_2, if_pos c_3, if_pos c_17, bnd_r w_22, if_neg c_23, bnd_r w_30, bnd_l z]) hcl hsl (fun ad_31 st_31 H locs w_31 ok_31 e1_31 e2_31 hP hD hS => ?_)
        have hcl := cl_next hcl e1_31
        have hsl := cl_next hsl e2_31
        refine lv_aload_n hx hb d_Pa_tryStatement_96 rfl (lv_at hl 2 rfl) ?_
        refine va_get (D := (dC, dI)) (ci := 2) (v := .ref ht) (C := R_Pa) (T := T_Pa) (N := 7) hx hb hts u_Pa hown hK hP 0 rfl rfl 0 (by decide) (hts _ L_208) (fun _ h9 => h9) rfl d_Pa_tryStatement_97 ?_
        refine lv_iload_n hx hb d_Pa_tryStatement_100 rfl (lv_at hl 0 rfl) ?_
        refine lv_aload_n hx hb d_Pa_tryStatement_101 rfl (lv_at hl 2 rfl) ?_
        refine mx_Ui (xm := ⟨"SyntaxTree$Parser", "boundName", "()I"⟩) (owner := R_Cu) (As := []) (rest := [.int r_30, .ref ht]) ⟨hx, hb, hml, hown, hts0⟩ (m_Cu_boundName l hlt dC dI cI cZ sa rk hp hc h a1 a2 a3 a4 ht hq n1 n2 ad_31 st_31 ok_31 _  (fun z => hg (by unfold f_Pa_tryStatement; rw [bnd_r w_1, bnd_r w_2, if_pos c_3, if_pos c_17, bnd_r w_22, if_neg c_23, bnd_r w_30, bnd_r w_31, bnd_n z]))) hP hD hK hS hA hC hZ hnt hlocks L_471 L_472 L_474 L_475 L_86 L_476 rfl k_Cu_boundName ⟨(by show _ ≤ fr0 + 9; omega), (by show _ ≤ lo0 + 346; omega)⟩ rfl rfl hl.1 (Nat.le_of_ble_eq_true rfl) d_Pa_tryStatement_102 rfl (fun q z => by unfold f_Pa_tryStatement; rw [bnd_r w_1, bnd_r w_2, if_pos c_3, if_pos c_17, bnd_r w_22, if_neg c_23, bnd_r w_30, bnd_r w_31, bnd_l z]) hcl hsl (fun r_32 ad_32 st_32 H locs w_32 ok_32 e1_32 e2_32 hP hD hS => ?_)
        have hcl := cl_next hcl e1_32
        have hsl := cl_next hsl e2_32
        refine pT_v (g := (p_setValue st_32 r_30 r_32)) (st := st_32) (As := [.int r_30, .int r_32]) (rest := []) ⟨hx, hb, hml, hown, hts0⟩ (m_Tr_setValue l dC dI cI cZ sa rk ht ad_32 (sTr st_32) ok_32.2.1 _ r_30 r_32) hP hD hK hS hA hC hZ L_488 L_489 L_490 L_85 L_491 ⟨rfl, k_Tr_setValue⟩ ⟨(by show _ ≤ fr0 + 9; omega), (by show _ ≤ lo0 + 346; omega)⟩ rfl rfl hl.1 (Nat.le_of_ble_eq_true rfl) d_Pa_tryStatement_105 rfl hcl hsl (Nat.zero_le _) (Nat.zero_le _) ok_32 (t_setValue_ok r_30 r_32 ok_32.2.1) rfl (fun ad_33 st_33 H locs w_33 ok_33 e1_33 e2_33 hP hD hS => ?_)
        have hcl := cl_next hcl e1_33
        have hsl := cl_next hsl e2_33
        refine lv_aload_n hx hb d_Pa_tryStatement_108 rfl (lv_at hl 2 rfl) ?_
        refine lv_bipush (v := 61) hx hb d_Pa_tryStatement_109 (by decide) ?_
        refine mx_Uv (xm := ⟨"SyntaxTree$Parser", "expect", "(I)V"⟩) (owner := R_Cu) (As := [.int 61]) (rest := []) ⟨hx, hb, hml, hown, hts0⟩ (m_Cu_expect l hlt dC dI cI cZ sa rk hp hc h a1 a2 a3 a4 ht hq n1 n2 ad_33 st_33 ok_33 _ 61 (fun z => hg (by unfold f_Pa_tryStatement; rw [bnd_r w_1, bnd_r w_2, if_pos c_3, if_pos c_17, bnd_r w_22, if_neg c_23, bnd_r w_30, bnd_r w_31, bnd_r w_32, bnd_r w_33, bnd_n z]))) hP hD hK hS hA hC hZ hnt hlocks L_510 L_511 L_513 L_514 L_86 L_515 rfl k_Cu_expect ⟨(by show _ ≤ fr0 + 9; omega), (by show _ ≤ lo0 + 346; omega)⟩ rfl rfl hl.1 (Nat.le_of_ble_eq_true rfl) d_Pa_tryStatement_111 rfl (fun q z => by unfold f_Pa_tryStatement; rw [bnd_r w_1, bnd_r w_2, if_pos c_3, if_pos c_17, bnd_r w_22, if_neg c_23, bnd_r w_30, bnd_r w_31, bnd_r w_32, bnd_r w_33, bnd_l z]) hcl hsl (fun ad_34 st_34 H locs w_34 ok_34 e1_34 e2_34 hP hD hS => ?_)
        have hcl := cl_next hcl e1_34
        have hsl := cl_next hsl e2_34
        refine lv_aload_n hx hb d_Pa_tryStatement_114 rfl (lv_at hl 2 rfl) ?_
        refine lv_iload_n hx hb d_Pa_tryStatement_115 rfl (lv_at hl 3 rfl) ?_
        refine lv_iconst (v := 1) hx hb d_Pa_tryStatement_116 (by decide) ?_
        refine lv_iadd hx hb d_Pa_tryStatement_117 ?_
        refine mx_Vv (As := [.int (depth + 1)]) (rest := []) ⟨hx, hb, hml, hown, hts0⟩ (m_Pa_block l hlt dC dI cI cZ sa rk hp h a1 a2 a3 a4 ht hq n1 n2 fr0 lo0 E S F hRE hRS hRF hc ad_34 st_34 ok_34 _ (depth + 1) (fun z => hg (by unfold f_Pa_tryStatement; rw [bnd_r w_1, bnd_r w_2, if_pos c_3, if_pos c_17, bnd_r w_22, if_neg c_23, bnd_r w_30, bnd_r w_31, bnd_r w_32, bnd_r w_33, bnd_r w_34, bnd_n z]))) hP hD hK hS hA hC hZ hnt hlocks L_815 L_817 L_49 L_87 L_818 k_Pa_block ⟨(by show _ ≤ fr0 + 9; omega), (by show _ ≤ lo0 + 346; omega)⟩ rfl rfl hl.1 (Nat.le_of_ble_eq_true rfl) d_Pa_tryStatement_118 rfl (fun q z => by unfold f_Pa_tryStatement; rw [bnd_r w_1, bnd_r w_2, if_pos c_3, if_pos c_17, bnd_r w_22, if_neg c_23, bnd_r w_30, bnd_r w_31, bnd_r w_32, bnd_r w_33, bnd_r w_34, bnd_l z]) hcl hsl (fun ad_35 st_35 H locs w_35 ok_35 e1_35 e2_35 hP hD hS => ?_)
        have hcl := cl_next hcl e1_35
        have hsl := cl_next hsl e2_35
        refine lv_aload_n hx hb d_Pa_tryStatement_121 rfl (lv_at hl 2 rfl) ?_
        refine va_get (D := (dC, dI)) (ci := 2) (v := .ref ht) (C := R_Pa) (T := T_Pa) (N := 7) hx hb hts u_Pa hown hK hP 0 rfl rfl 0 (by decide) (hts _ L_208) (fun _ h9 => h9) rfl d_Pa_tryStatement_122 ?_
        refine lv_iload_n hx hb d_Pa_tryStatement_125 rfl (lv_at hl 0 rfl) ?_
        refine pT_v (g := (p_close st_35 r_30)) (st := st_35) (As := [.int r_30]) (rest := []) ⟨hx, hb, hml, hown, hts0⟩ (m_Tr_close l dC dI cI cZ sa rk ht ad_35 (sTr st_35) ok_35.2.1 _ r_30) hP hD hK hS hA hC hZ L_582 L_583 L_584 L_85 L_585 ⟨rfl, k_Tr_close⟩ ⟨(by show _ ≤ fr0 + 9; omega), (by show _ ≤ lo0 + 346; omega)⟩ rfl rfl hl.1 (Nat.le_of_ble_eq_true rfl) d_Pa_tryStatement_126 rfl hcl hsl (Nat.zero_le _) (Nat.zero_le _) ok_35 (t_close_ok r_30 ok_35.2.1) rfl (fun ad_36 st_36 H locs w_36 ok_36 e1_36 e2_36 hP hD hS => ?_)
        have hcl := cl_next hcl e1_36
        have hsl := cl_next hsl e2_36
        refine lv_aload_n hx hb d_Pa_tryStatement_129 rfl (lv_at hl 2 rfl) ?_
        refine lv_bipush (v := 9) hx hb d_Pa_tryStatement_130 (by decide) ?_
        refine rd_U (xm := ⟨"SyntaxTree$Parser", "atWord", "(I)Z"⟩) (owner := R_Cu) (v := (f_Cu_atWord st_36 9)) (As := [.int 9]) (rest := []) ⟨hx, hb, hml, hown, hts0⟩ (m_Cu_atWord l dC dI cI cZ hp hc h a1 a2 a3 a4 ht ad_36.1 ad_36.2.1 ad_36.2.2.1 ad_36.2.2.2 hq n1 n2 st_36 ok_36 9) hP hK [0, 1, 2, 3, 4, 5, 6, 7, 8, 9, 10, 11, 12, 13, 14] rfl [0, 1] rfl 0 2 rfl rfl L_439 L_440 L_442 L_443 L_86 L_444 rfl k_Cu_atWord ⟨(by show _ ≤ fr0 + 9; omega), (by show _ ≤ lo0 + 346; omega)⟩ hl.1 ⟨Nat.le_trans (Nat.le_add_right _ _) hcl, Nat.le_trans (Nat.le_add_right _ _) hsl⟩ (Nat.le_of_ble_eq_true rfl) d_Pa_tryStatement_132 rfl ?_
        refine lv_if_eq (tgt := 178) hx hb d_Pa_tryStatement_135 (by decide) (fun c_37 => ?_) (fun c_37 => ?_)
        · refine lv_aload_n hx hb d_Pa_tryStatement_178 rfl (lv_at hl 2 rfl) ?_
          refine va_get (D := (dC, dI)) (ci := 2) (v := .ref ht) (C := R_Pa) (T := T_Pa) (N := 7) hx hb hts u_Pa hown hK hP 0 rfl rfl 0 (by decide) (hts _ L_208) (fun _ h9 => h9) rfl d_Pa_tryStatement_179 ?_
          refine lv_iload_n hx hb d_Pa_tryStatement_182 rfl (lv_at hl 1 rfl) ?_
          refine pT_v (g := (p_close st_36 r_1)) (st := st_36) (As := [.int r_1]) (rest := []) ⟨hx, hb, hml, hown, hts0⟩ (m_Tr_close l dC dI cI cZ sa rk ht ad_36 (sTr st_36) ok_36.2.1 _ r_1) hP hD hK hS hA hC hZ L_582 L_583 L_584 L_85 L_585 ⟨rfl, k_Tr_close⟩ ⟨(by show _ ≤ fr0 + 9; omega), (by show _ ≤ lo0 + 346; omega)⟩ rfl rfl hl.1 (Nat.le_of_ble_eq_true rfl) d_Pa_tryStatement_183 rfl hcl hsl (Nat.zero_le _) (Nat.zero_le _) ok_36 (t_close_ok r_1 ok_36.2.1) rfl (fun ad_38 st_38 H locs w_38 ok_38 e1_38 e2_38 hP hD hS => ?_)
          have hcl := cl_next hcl e1_38
          have hsl := cl_next hsl e2_38
          exact mx_vret (stF := st_38) hx hb hr hlocks hK hP hD hS hcl hsl (by unfold f_Pa_tryStatement; rw [bnd_r w_1, bnd_r w_2, if_pos c_3, if_pos c_17, bnd_r w_22, if_neg c_23, bnd_r w_30, bnd_r w_31, bnd_r w_32, bnd_r w_33, bnd_r w_34, bnd_r w_35, bnd_r w_36, if_pos c_37, bnd_r w_38]) ok_38 d_Pa_tryStatement_186
        · refine lv_aload_n hx hb d_Pa_tryStatement_138 rfl (lv_at hl 2 rfl) ?_
          refine va_get (D := (dC, dI)) (ci := 2) (v := .ref ht) (C := R_Pa) (T := T_Pa) (N := 7) hx hb hts u_Pa hown hK hP 0 rfl rfl 0 (by decide) (hts _ L_208) (fun _ h9 => h9) rfl d_Pa_tryStatement_139 ?_
          refine lv_bipush (v := 22) hx hb d_Pa_tryStatement_142 (by decide) ?_
          refine lv_iconst (v := 0) hx hb d_Pa_tryStatement_144 (by decide) ?_
          refine lv_aload_n hx hb d_Pa_tryStatement_145 rfl (lv_at hl 2 rfl) ?_
          refine va_get (D := (dC, dI)) (ci := 2) (v := .int (sAt st_36)) (C := R_Pa) (T := T_Pa) (N := 7) hx hb hts u_Pa hown hK hP 0 rfl rfl 4 (by decide) (hts _ L_215) (fun x9 h9 => u_same (hts _ L_216) x9 h9) rfl d_Pa_tryStatement_146 ?_
          have hn_39 : (p_open st_36 22 0 (sAt st_36)) ≠ none := (fun z => hg (by unfold f_Pa_tryStatement; rw [bnd_r w_1, bnd_r w_2, if_pos c_3, if_pos c_17, bnd_r w_22, if_neg c_23, bnd_r w_30, bnd_r w_31, bnd_r w_32, bnd_r w_33, bnd_r w_34, bnd_r w_35, bnd_r w_36, if_neg c_37, bnd_n z]))
          refine pT_i (g := (p_open st_36 22 0 (sAt st_36))) (st := st_36) (As := [.int 22, .int 0, .int (sAt st_36)]) (rest := []) ⟨hx, hb, hml, hown, hts0⟩ (m_Tr_open l dC dI cI cZ sa rk ht ad_36 (sTr st_36) ok_36.2.1 _ 22 0 (sAt st_36) (p_open_c hn_39).1 (p_open_c hn_39).2.1) hP hD hK hS hA hC hZ L_416 L_417 L_418 L_85 L_419 ⟨rfl, k_Tr_open⟩ ⟨(by show _ ≤ fr0 + 9; omega), (by show _ ≤ lo0 + 346; omega)⟩ rfl rfl hl.1 (Nat.le_of_ble_eq_true rfl) d_Pa_tryStatement_149 rfl hcl hsl (p_open_c hn_39).2.2.1 (p_open_c hn_39).2.2.2 ok_36 (t_open_ok 22 0 (sAt st_36) ok_36.2.1 (p_open_c hn_39).1 (p_open_c hn_39).2.1) (p_open_e hn_39) (fun r_39 ad_39 st_39 H locs w_39 ok_39 e1_39 e2_39 hP hD hS => ?_)
          have hcl := cl_next hcl e1_39
          have hsl := cl_next hsl e2_39
          refine lv_istore_n (lv' := [(3, .int r_39), (2, .int r_1), (0, .ref hp), (1, .int depth)]) hx hb d_Pa_tryStatement_152 rfl hl (by decide) rfl (fun ls hl => ?_)
          refine lv_aload_n hx hb d_Pa_tryStatement_153 rfl (lv_at hl 2 rfl) ?_
          refine lv_dup hx hb d_Pa_tryStatement_154 rfl ?_
          refine va_get (D := (dC, dI)) (ci := 2) (v := .int (sAt st_39)) (C := R_Pa) (T := T_Pa) (N := 7) hx hb hts u_Pa hown hK hP 0 rfl rfl 4 (by decide) (hts _ L_215) (fun x9 h9 => u_same (hts _ L_216) x9 h9) rfl d_Pa_tryStatement_155 ?_
          refine lv_iconst (v := 1) hx hb d_Pa_tryStatement_158 (by decide) ?_
          refine lv_iadd hx hb d_Pa_tryStatement_159 ?_
          refine va_put (D := (dC, dI)) (ci := 2) (v := .int ((sAt st_39) + 1)) (ty := .int) (C := R_Pa) (T := T_Pa) (N := 7) hx hb hts u_Pa ty_Pa tk_Pa nm_Pa hown hK hP hD hS 0 rfl rfl 4 (by decide) (hts _ L_215) (fun x9 h9 => u_same (hts _ L_216) x9 h9) rfl (by decide +kernel) rfl rfl (Nat.le_of_ble_eq_true rfl) d_Pa_tryStatement_160 (fun H locs hP hD hS => ?_)
          have hP : va_P (dC, dI) cls (wQ cI cZ hp hc h a1 a2 a3 a4 ht hq n1 n2 (ad_39, (setAt st_39 ((sAt st_39) + 1)))) H := hP
          have hD : va_D A (wQ cI cZ hp hc h a1 a2 a3 a4 ht hq n1 n2 (ad_39, (setAt st_39 ((sAt st_39) + 1)))) := hD
          refine lv_aload_n hx hb d_Pa_tryStatement_163 rfl (lv_at hl 2 rfl) ?_
          refine lv_iload_n hx hb d_Pa_tryStatement_164 rfl (lv_at hl 3 rfl) ?_
          refine lv_iconst (v := 1) hx hb d_Pa_tryStatement_165 (by decide) ?_
          refine lv_iadd hx hb d_Pa_tryStatement_166 ?_
          refine mx_Vv (As := [.int (depth + 1)]) (rest := []) ⟨hx, hb, hml, hown, hts0⟩ (m_Pa_block l hlt dC dI cI cZ sa rk hp h a1 a2 a3 a4 ht hq n1 n2 fr0 lo0 E S F hRE hRS hRF hc ad_39 (setAt st_39 ((sAt st_39) + 1)) (show okSt (setAt st_39 ((sAt st_39) + 1)) from ⟨ok_39.1, ok_39.2.1, ok_39.2.2.1, ok_39.2.2.2⟩) _ (depth + 1) (fun z => hg (by unfold f_Pa_tryStatement; rw [bnd_r w_1, bnd_r w_2, if_pos c_3, if_pos c_17, bnd_r w_22, if_neg c_23, bnd_r w_30, bnd_r w_31, bnd_r w_32, bnd_r w_33, bnd_r w_34, bnd_r w_35, bnd_r w_36, if_neg c_37, bnd_r w_39, bnd_n z]))) hP hD hK hS hA hC hZ hnt hlocks L_815 L_817 L_49 L_87 L_818 k_Pa_block ⟨(by show _ ≤ fr0 + 9; omega), (by show _ ≤ lo0 + 346; omega)⟩ rfl rfl hl.1 (Nat.le_of_ble_eq_true rfl) d_Pa_tryStatement_167 rfl (fun q z => by unfold f_Pa_tryStatement; rw [bnd_r w_1, bnd_r w_2, if_pos c_3, if_pos c_17, bnd_r w_22, if_neg c_23, bnd_r w_30, bnd_r w_31, bnd_r w_32, bnd_r w_33, bnd_r w_34, bnd_r w_35, bnd_r w_36, if_neg c_37, bnd_r w_39, bnd_l z]) hcl hsl (fun ad_40 st_40 H locs w_40 ok_40 e1_40 e2_40 hP hD hS => ?_)
          have hcl := cl_next hcl e1_40
          have hsl := cl_next hsl e2_40
          refine lv_aload_n hx hb d_Pa_tryStatement_170 rfl (lv_at hl 2 rfl) ?_
          refine va_get (D := (dC, dI)) (ci := 2) (v := .ref ht) (C := R_Pa) (T := T_Pa) (N := 7) hx hb hts u_Pa hown hK hP 0 rfl rfl 0 (by decide) (hts _ L_208) (fun _ h9 => h9) rfl d_Pa_tryStatement_171 ?_
          refine lv_iload_n hx hb d_Pa_tryStatement_174 rfl (lv_at hl 0 rfl) ?_
          refine pT_v (g := (p_close st_40 r_39)) (st := st_40) (As := [.int r_39]) (rest := []) ⟨hx, hb, hml, hown, hts0⟩ (m_Tr_close l dC dI cI cZ sa rk ht ad_40 (sTr st_40) ok_40.2.1 _ r_39) hP hD hK hS hA hC hZ L_582 L_583 L_584 L_85 L_585 ⟨rfl, k_Tr_close⟩ ⟨(by show _ ≤ fr0 + 9; omega), (by show _ ≤ lo0 + 346; omega)⟩ rfl rfl hl.1 (Nat.le_of_ble_eq_true rfl) d_Pa_tryStatement_175 rfl hcl hsl (Nat.zero_le _) (Nat.zero_le _) ok_40 (t_close_ok r_39 ok_40.2.1) rfl (fun ad_41 st_41 H locs w_41 ok_41 e1_41 e2_41 hP hD hS => ?_)
          have hcl := cl_next hcl e1_41
          have hsl := cl_next hsl e2_41
          refine lv_aload_n hx hb d_Pa_tryStatement_178 rfl (lv_at hl 2 rfl) ?_
          refine va_get (D := (dC, dI)) (ci := 2) (v := .ref ht) (C := R_Pa) (T := T_Pa) (N := 7) hx hb hts u_Pa hown hK hP 0 rfl rfl 0 (by decide) (hts _ L_208) (fun _ h9 => h9) rfl d_Pa_tryStatement_179 ?_
          refine lv_iload_n hx hb d_Pa_tryStatement_182 rfl (lv_at hl 1 rfl) ?_
          refine pT_v (g := (p_close st_41 r_1)) (st := st_41) (As := [.int r_1]) (rest := []) ⟨hx, hb, hml, hown, hts0⟩ (m_Tr_close l dC dI cI cZ sa rk ht ad_41 (sTr st_41) ok_41.2.1 _ r_1) hP hD hK hS hA hC hZ L_582 L_583 L_584 L_85 L_585 ⟨rfl, k_Tr_close⟩ ⟨(by show _ ≤ fr0 + 9; omega), (by show _ ≤ lo0 + 346; omega)⟩ rfl rfl hl.1 (Nat.le_of_ble_eq_true rfl) d_Pa_tryStatement_183 rfl hcl hsl (Nat.zero_le _) (Nat.zero_le _) ok_41 (t_close_ok r_1 ok_41.2.1) rfl (fun ad_42 st_42 H locs w_42 ok_42 e1_42 e2_42 hP hD hS => ?_)
          have hcl := cl_next hcl e1_42
          have hsl := cl_next hsl e2_42
          exact mx_vret (stF := st_42) hx hb hr hlocks hK hP hD hS hcl hsl (by unfold f_Pa_tryStatement; rw [bnd_r w_1, bnd_r w_2, if_pos c_3, if_pos c_17, bnd_r w_22, if_neg c_23, bnd_r w_30, bnd_r w_31, bnd_r w_32, bnd_r w_33, bnd_r w_34, bnd_r w_35, bnd_r w_36, if_neg c_37, bnd_r w_39, bnd_r w_40, bnd_r w_41, bnd_r w_42]) ok_42 d_Pa_tryStatement_186
def f_Pa_statement (E : Int32 → Int32 → Int32 → ST → Rz) (S : Int32 → Int32 → ST → Rz) (F : Int32 → Int32 → ST → Rz) (st : ST) (depth : Int32) (first : Int32) : Rz := (bnd (f_Cu_guard st depth) (fun _ st_1 => (if (f_Tk_keyword (sTk st_1) (sAt st_1)) = 0 then (if (f_Cu_atWord st_1 0) = 0 then (bnd (f_Pa_jump st_1 11) (fun _ st_4 => (some (.inr (0, st_4))))) else (bnd (f_Pa_jump st_1 12) (fun _ st_5 => (some (.inr (0, st_5)))))) else (if (f_Tk_keyword (sTk st_1) (sAt st_1)) = 3 then (if (f_Cu_atWord st_1 0) = 0 then (bnd (f_Pa_jump st_1 11) (fun _ st_8 => (some (.inr (0, st_8))))) else (bnd (f_Pa_jump st_1 12) (fun _ st_9 => (some (.inr (0, st_9)))))) else (if (f_Tk_keyword (sTk st_1) (sAt st_1)) = 4 then (bnd (f_Pa_debuggerStatement st_1) (fun _ st_11 => (some (.inr (0, st_11))))) else (if (f_Tk_keyword (sTk st_1) (sAt st_1)) = 7 then (bnd (f_Pa_doStatement E S F st_1 depth first) (fun _ st_13 => (some (.inr (0, st_13))))) else (if (f_Tk_keyword (sTk st_1) (sAt st_1)) = 10 then (bnd (f_Pa_openFor st_1 first) (fun r_15 st_15 => (if (f_Cu_atWord st_15 22) = 0 then (bnd (f_Pa_forInitial E S F st_15 depth) (fun _ st_17 => (bnd (f_Pa_forRest E S F st_17 r_15 depth) (fun _ st_18 => (some (.inr (0, st_18))))))) else (bnd (f_Pa_variables E S F st_15 depth 0) (fun _ st_19 => (bnd (f_Pa_forRest E S F st_19 r_15 depth) (fun _ st_20 => (some (.inr (0, st_20)))))))))) else (if (f_Tk_keyword (sTk st_1) (sAt st_1)) = 12 then (bnd (f_Pa_ifStatement E S F st_1 depth) (fun _ st_22 => (some (.inr (0, st_22))))) else (if (f_Tk_keyword (sTk st_1) (sAt st_1)) = 16 then (bnd (f_Pa_returnStatement E S F st_1 depth) (fun _ st_24 => (some (.inr (0, st_24))))) else (if (f_Tk_keyword (sTk st_1) (sAt st_1)) = 17 then (bnd (f_Pa_switchStatement E S F st_1 depth) (fun _ st_26 => (some (.inr (0, st_26))))) else (if (f_Tk_keyword (sTk st_1) (sAt st_1)) = 19 then (bnd (f_Pa_throwStatement E S F st_1 depth) (fun _ st_28 => (some (.inr (0, st_28))))) else (if (f_Tk_keyword (sTk st_1) (sAt st_1)) = 20 then (bnd (f_Pa_tryStatement E S F st_1 depth) (fun _ st_30 => (some (.inr (0, st_30))))) else (if (f_Tk_keyword (sTk st_1) (sAt st_1)) = 22 then (bnd (f_Pa_variables E S F st_1 depth 1) (fun _ st_32 => (bnd (f_Cu_semicolon st_32) (fun _ st_33 => (some (.inr (0, st_33))))))) else (if (f_Tk_keyword (sTk st_1) (sAt st_1)) = 24 then (bnd (f_Pa_whileStatement E S F st_1 depth first) (fun _ st_35 => (some (.inr (0, st_35))))) else (if (f_Tk_keyword (sTk st_1) (sAt st_1)) = 25 then (bnd (f_Pa_withStatement E S F st_1 depth) (fun _ st_37 => (some (.inr (0, st_37))))) else (if (f_Cu_atSign st_1 64) = 0 then (if (f_Cu_atSign st_1 67) = 0 then (if (f_Cu_atIdentifier st_1) = 0 then (bnd (f_Pa_expressionStatement E S F st_1 depth) (fun _ st_41 => (some (.inr (0, st_41))))) else (if (f_Tk_sign (sTk st_1) ((sAt st_1) + 1)) = 70 then (bnd (f_Pa_labelled E S F st_1 depth first) (fun _ st_44 => (some (.inr (0, st_44))))) else (bnd (f_Pa_expressionStatement E S F st_1 depth) (fun _ st_43 => (some (.inr (0, st_43))))))) else (bnd (f_Pa_emptyStatement st_1) (fun _ st_45 => (some (.inr (0, st_45)))))) else (bnd (f_Pa_block E S F st_1 depth) (fun _ st_46 => (some (.inr (0, st_46)))))))))))))))))))))
set_option maxRecDepth 100000 in
set_option maxHeartbeats 4000000 in
theorem m_Pa_statement (l : Launch) (hlt : l.stackTraces = false) (dC : Nat → ClassId) (dI : Nat → Nat → Nat) (cI cZ : ClassId) (sa rk hp h a1 a2 a3 a4 ht hq n1 n2 : Nat) (fr0 lo0 : Nat) (E : Int32 → Int32 → Int32 → ST → Rz) (S : Int32 → Int32 → ST → Rz) (F : Int32 → Int32 → ST → Rz) (hRE : ∀ (hc : Nat) (ad : AD) (st : ST), okSt st → ∀ (sz : Nat) (level depth inn : Int32), E level depth inn st ≠ none → cPv l y_Pa_expression c_Pa_expression 6 fr0 lo0 (dC, dI) cI cZ sa rk hp hc h a1 a2 a3 a4 ht hq n1 n2 ad st sz [.ref hp, .int level, .int depth, .int inn] (E level depth inn st)) (hRS : ∀ (hc : Nat) (ad : AD) (st : ST), okSt st → ∀ (sz : Nat) (depth first : Int32), S depth first st ≠ none → cPv l y_Pa_statement c_Pa_statement 4 fr0 lo0 (dC, dI) cI cZ sa rk hp hc h a1 a2 a3 a4 ht hq n1 n2 ad st sz [.ref hp, .int depth, .int first] (S depth first st)) (hRF : ∀ (hc : Nat) (ad : AD) (st : ST), okSt st → ∀ (sz : Nat) (form depth : Int32), F form depth st ≠ none → cPv l y_Pa_function c_Pa_function 10 fr0 lo0 (dC, dI) cI cZ sa rk hp hc h a1 a2 a3 a4 ht hq n1 n2 ad st sz [.ref hp, .int form, .int depth] (F form depth st)) (hc : Nat) (ad : AD) (st : ST) (hst : okSt st) (sz : Nat) (depth : Int32) (first : Int32) (hg : f_Pa_statement E S F st depth first ≠ none) : cPv l y_Pa_statement c_Pa_statement 4 (fr0 + 10) (lo0 + 373) (dC, dI) cI cZ sa rk hp hc h a1 a2 a3 a4 ht hq n1 n2 ad st sz [.ref hp, .int depth, .int first] (f_Pa_statement E S F st depth first) := by
  refine vx_ofW (cc := c_Pa_statement) (maxL := 4) (ret := none) (by decide) rfl ?_
  intro p e s m args below meth c s₁ B hml hnt hv
  obtain ⟨rfl, hsz, hP, hK, hD0, hC, hZ⟩ := hv
  have hx := B.exec
  have hb := B.bytes
  have hr := B.returns
  have hts0 := atoms_spec (ws := wy y_Pa_statement c_Pa_statement 4 none) B.pre
  have hts := htsL hts0
  have hown : s.vm.findClass R_Pa = some m.cls := findClass_of_methodNamed B.named
  have hlocks := B.notSynchronized
  subst hsz
  have hD := hD0.self (sz := s.heap.size)
  generalize hAe : va_A (wQ cI cZ hp hc h a1 a2 a3 a4 ht hq n1 n2 (ad, st)) s.heap.size = A at hD hZ ⊢
  have hA : ∀ q : Nat, s.heap.size ≤ q → A q := fun q h => by rw [← hAe]; exact Or.inr h
  have hS : va_S A s.heap s.heap [] := va_S.rf
  have hcl : 0 + bC st ≤ bC st := Nat.le_of_eq (Nat.zero_add _)
  have hsl : 0 + bS st ≤ bS st := Nat.le_of_eq (Nat.zero_add _)
  have hl := lv_entry ([.ref hp, .int depth, .int first]) (n := 4) (Nat.le_of_ble_eq_true rfl)
  rw [lg_entry_eq]
  generalize (lg_sl ([.ref hp, .int depth, .int first]) ++ List.replicate (4 - (lg_sl ([.ref hp, .int depth, .int first])).length) Slot.unset).toArray = ls at hl ⊢
  have hl : lv_has ls 4 [(0, .ref hp), (1, .int depth), (2, .int first)] := hl
  refine lv_aload_n hx hb d_Pa_statement_0 rfl (lv_at hl 0 rfl) ?_
  refine lv_iload_n hx hb d_Pa_statement_1 rfl (lv_at hl 1 rfl) ?_
  refine mx_Uv (xm := ⟨"SyntaxTree$Parser", "guard", "(I)V"⟩) (owner := R_Cu) (As := [.int depth]) (rest := []) ⟨hx, hb, hml, hown, hts0⟩ (m_Cu_guard l hlt dC dI cI cZ sa rk hp hc h a1 a2 a3 a4 ht hq n1 n2 ad st hst _ depth (fun z => hg (by unfold f_Pa_statement; rw [bnd_n z]))) hP hD hK hS hA hC hZ hnt hlocks L_453 L_454 L_456 L_457 L_86 L_458 rfl k_Cu_guard ⟨(by show _ ≤ fr0 + 10; omega), (by show _ ≤ lo0 + 373; omega)⟩ rfl rfl hl.1 (Nat.le_of_ble_eq_true rfl) d_Pa_statement_2 rfl (fun q z => by unfold f_Pa_statement; rw [bnd_l z]) hcl hsl (fun ad_1 st_1 H locs w_1 ok_1 e1_1 e2_1 hP hD hS => ?_)
  have hcl := cl_next hcl e1_1
  have hsl := cl_next hsl e2_1
  refine lv_aload_n hx hb d_Pa_statement_5 rfl (lv_at hl 0 rfl) ?_
  refine va_get (D := (dC, dI)) (ci := 2) (v := .ref h) (C := R_Pa) (T := T_Pa) (N := 7) hx hb hts u_Pa hown hK hP 0 rfl rfl 3 (by decide) (hts _ L_212) (fun x9 h9 => u_same (hts _ L_213) x9 h9) rfl d_Pa_statement_6 ?_
  refine lv_aload_n hx hb d_Pa_statement_9 rfl (lv_at hl 0 rfl) ?_
  refine va_get (D := (dC, dI)) (ci := 2) (v := .int (sAt st_1)) (C := R_Pa) (T := T_Pa) (N := 7) hx hb hts u_Pa hown hK hP 0 rfl rfl 4 (by decide) (hts _ L_215) (fun x9 h9 => u_same (hts _ L_216) x9 h9) rfl d_Pa_statement_10 ?_
  refine rd_V (v := (f_Tk_keyword (sTk st_1) (sAt st_1))) (As := [.int (sAt st_1)]) (rest := []) ⟨hx, hb, hml, hown, hts0⟩ (m_Tk_keyword l dC dI cI cZ h a1 a2 a3 a4 (sTk st_1) ok_1.1 (sAt st_1)) hP hK [2, 3, 4, 5, 6] rfl [0, 1] rfl 0 3 rfl rfl L_564 L_446 L_447 L_84 L_448 ⟨rfl, k_Tk_keyword⟩ ⟨(by show _ ≤ fr0 + 10; omega), (by show _ ≤ lo0 + 373; omega)⟩ hl.1 ⟨Nat.le_trans (Nat.le_add_right _ _) hcl, Nat.le_trans (Nat.le_add_right _ _) hsl⟩ (Nat.le_of_ble_eq_true rfl) d_Pa_statement_13 rfl ?_
  refine sw_tab hx hb [(0, 203), (3, 203), (4, 253), (7, 153), (10, 167), (12, 147), (16, 223), (17, 235), (19, 241), (20, 247), (22, 136), (24, 160), (25, 229)] 258 d_Pa_statement_16 (by decide +kernel) (by decide) (by decide +kernel) ?_
  refine ⟨fun c_2 => ?_, fun c_2 => ?_⟩
  · refine lv_aload_n hx hb d_Pa_statement_203 rfl (lv_at hl 0 rfl) ?_
    refine lv_aload_n hx hb d_Pa_statement_204 rfl (lv_at hl 0 rfl) ?_
    refine lv_iconst (v := 0) hx hb d_Pa_statement_205 (by decide) ?_
    refine rd_U (xm := ⟨"SyntaxTree$Parser", "atWord", "(I)Z"⟩) (owner := R_Cu) (v := (f_Cu_atWord st_1 0)) (As := [.int 0]) (rest := [.ref hp]) ⟨hx, hb, hml, hown, hts0⟩ (m_Cu_atWord l dC dI cI cZ hp hc h a1 a2 a3 a4 ht ad_1.1 ad_1.2.1 ad_1.2.2.1 ad_1.2.2.2 hq n1 n2 st_1 ok_1 0) hP hK [0, 1, 2, 3, 4, 5, 6, 7, 8, 9, 10, 11, 12, 13, 14] rfl [0, 1] rfl 0 2 rfl rfl L_439 L_440 L_442 L_443 L_86 L_444 rfl k_Cu_atWord ⟨(by show _ ≤ fr0 + 10; omega), (by show _ ≤ lo0 + 373; omega)⟩ hl.1 ⟨Nat.le_trans (Nat.le_add_right _ _) hcl, Nat.le_trans (Nat.le_add_right _ _) hsl⟩ (Nat.le_of_ble_eq_true rfl) d_Pa_statement_206 rfl ?_
    refine lv_if_eq (tgt := 217) hx hb d_Pa_statement_209 (by decide) (fun c_3 => ?_) (fun c_3 => ?_)
    · refine lv_bipush (v := 11) hx hb d_Pa_statement_217 (by decide) ?_
      refine mx_Vv (As := [.int 11]) (rest := []) ⟨hx, hb, hml, hown, hts0⟩ (m_Pa_jump l hlt dC dI cI cZ sa rk hp hc h a1 a2 a3 a4 ht hq n1 n2 ad_1 st_1 ok_1 _ 11 (fun z => hg (by unfold f_Pa_statement; rw [bnd_r w_1, if_pos c_2, if_pos c_3, bnd_n z]))) hP hD hK hS hA hC hZ hnt hlocks L_771 L_773 L_41 L_87 L_774 k_Pa_jump ⟨(by show _ ≤ fr0 + 10; omega), (by show _ ≤ lo0 + 373; omega)⟩ rfl rfl hl.1 (Nat.le_of_ble_eq_true rfl) d_Pa_statement_219 rfl (fun q z => by unfold f_Pa_statement; rw [bnd_r w_1, if_pos c_2, if_pos c_3, bnd_l z]) hcl hsl (fun ad_4 st_4 H locs w_4 ok_4 e1_4 e2_4 hP hD hS => ?_)
      have hcl := cl_next hcl e1_4
      have hsl := cl_next hsl e2_4
      exact mx_vret (stF := st_4) hx hb hr hlocks hK hP hD hS hcl hsl (by unfold f_Pa_statement; rw [bnd_r w_1, if_pos c_2, if_pos c_3, bnd_r w_4]) ok_4 d_Pa_statement_222
    · refine lv_bipush (v := 12) hx hb d_Pa_statement_212 (by decide) ?_
      refine lv_goto (tgt := 219) hx hb d_Pa_statement_214 (by decide) ?_
      refine mx_Vv (As := [.int 12]) (rest := []) ⟨hx, hb, hml, hown, hts0⟩ (m_Pa_jump l hlt dC dI cI cZ sa rk hp hc h a1 a2 a3 a4 ht hq n1 n2 ad_1 st_1 ok_1 _ 12 (fun z => hg (by unfold f_Pa_statement; rw [bnd_r w_1, if_pos c_2, if_neg c_3, bnd_n z]))) hP hD hK hS hA hC hZ hnt hlocks L_771 L_773 L_41 L_87 L_774 k_Pa_jump ⟨(by show _ ≤ fr0 + 10; omega), (by show _ ≤ lo0 + 373; omega)⟩ rfl rfl hl.1 (Nat.le_of_ble_eq_true rfl) d_Pa_statement_219 rfl (fun q z => by unfold f_Pa_statement; rw [bnd_r w_1, if_pos c_2, if_neg c_3, bnd_l z]) hcl hsl (fun ad_5 st_5 H locs w_5 ok_5 e1_5 e2_5 hP hD hS => ?_)
      have hcl := cl_next hcl e1_5
      have hsl := cl_next hsl e2_5
      exact mx_vret (stF := st_5) hx hb hr hlocks hK hP hD hS hcl hsl (by unfold f_Pa_statement; rw [bnd_r w_1, if_pos c_2, if_neg c_3, bnd_r w_5]) ok_5 d_Pa_statement_222
  · skip
    refine ⟨fun c_6 => ?_, fun c_6 => ?_⟩
    · refine lv_aload_n hx hb d_Pa_statement_203 rfl (lv_at hl 0 rfl) ?_
      refine lv_aload_n hx hb d_Pa_statement_204 rfl (lv_at hl 0 rfl) ?_
      refine lv_iconst (v := 0) hx hb d_Pa_statement_205 (by decide) ?_
      refine rd_U (xm := ⟨"SyntaxTree$Parser", "atWord", "(I)Z"⟩) (owner := R_Cu) (v := (f_Cu_atWord st_1 0)) (As := [.int 0]) (rest := [.ref hp]) ⟨hx, hb, hml, hown, hts0⟩ (m_Cu_atWord l dC dI cI cZ hp hc h a1 a2 a3 a4 ht ad_1.1 ad_1.2.1 ad_1.2.2.1 ad_1.2.2.2 hq n1 n2 st_1 ok_1 0) hP hK [0, 1, 2, 3, 4, 5, 6, 7, 8, 9, 10, 11, 12, 13, 14] rfl [0, 1] rfl 0 2 rfl rfl L_439 L_440 L_442 L_443 L_86 L_444 rfl k_Cu_atWord ⟨(by show _ ≤ fr0 + 10; omega), (by show _ ≤ lo0 + 373; omega)⟩ hl.1 ⟨Nat.le_trans (Nat.le_add_right _ _) hcl, Nat.le_trans (Nat.le_add_right _ _) hsl⟩ (Nat.le_of_ble_eq_true rfl) d_Pa_statement_206 rfl ?_
      refine lv_if_eq (tgt := 217) hx hb d_Pa_statement_209 (by decide) (fun c_7 => ?_) (fun c_7 => ?_)
      · refine lv_bipush (v := 11) hx hb d_Pa_statement_217 (by decide) ?_
        refine mx_Vv (As := [.int 11]) (rest := []) ⟨hx, hb, hml, hown, hts0⟩ (m_Pa_jump l hlt dC dI cI cZ sa rk hp hc h a1 a2 a3 a4 ht hq n1 n2 ad_1 st_1 ok_1 _ 11 (fun z => hg (by unfold f_Pa_statement; rw [bnd_r w_1, if_neg c_2, if_pos c_6, if_pos c_7, bnd_n z]))) hP hD hK hS hA hC hZ hnt hlocks L_771 L_773 L_41 L_87 L_774 k_Pa_jump ⟨(by show _ ≤ fr0 + 10; omega), (by show _ ≤ lo0 + 373; omega)⟩ rfl rfl hl.1 (Nat.le_of_ble_eq_true rfl) d_Pa_statement_219 rfl (fun q z => by unfold f_Pa_statement; rw [bnd_r w_1, if_neg c_2, if_pos c_6, if_pos c_7, bnd_l z]) hcl hsl (fun ad_8 st_8 H locs w_8 ok_8 e1_8 e2_8 hP hD hS => ?_)
        have hcl := cl_next hcl e1_8
        have hsl := cl_next hsl e2_8
        exact mx_vret (stF := st_8) hx hb hr hlocks hK hP hD hS hcl hsl (by unfold f_Pa_statement; rw [bnd_r w_1, if_neg c_2, if_pos c_6, if_pos c_7, bnd_r w_8]) ok_8 d_Pa_statement_222
      · refine lv_bipush (v := 12) hx hb d_Pa_statement_212 (by decide) ?_
        refine lv_goto (tgt := 219) hx hb d_Pa_statement_214 (by decide) ?_
        refine mx_Vv (As := [.int 12]) (rest := []) ⟨hx, hb, hml, hown, hts0⟩ (m_Pa_jump l hlt dC dI cI cZ sa rk hp hc h a1 a2 a3 a4 ht hq n1 n2 ad_1 st_1 ok_1 _ 12 (fun z => hg (by unfold f_Pa_statement; rw [bnd_r w_1, if_neg c_2, if_pos c_6, if_neg c_7, bnd_n z]))) hP hD hK hS hA hC hZ hnt hlocks L_771 L_773 L_41 L_87 L_774 k_Pa_jump ⟨(by show _ ≤ fr0 + 10; omega), (by show _ ≤ lo0 + 373; omega)⟩ rfl rfl hl.1 (Nat.le_of_ble_eq_true rfl) d_Pa_statement_219 rfl (fun q z => by unfold f_Pa_statement; rw [bnd_r w_1, if_neg c_2, if_pos c_6, if_neg c_7, bnd_l z]) hcl hsl (fun ad_9 st_9 H locs w_9 ok_9 e1_9 e2_9 hP hD hS => ?_)
        have hcl := cl_next hcl e1_9
        have hsl := cl_next hsl e2_9
        exact mx_vret (stF := st_9) hx hb hr hlocks hK hP hD hS hcl hsl (by unfold f_Pa_statement; rw [bnd_r w_1, if_neg c_2, if_pos c_6, if_neg c_7, bnd_r w_9]) ok_9 d_Pa_statement_222
    · skip
      refine ⟨fun c_10 => ?_, fun c_10 => ?_⟩
      · refine lv_aload_n hx hb d_Pa_statement_253 rfl (lv_at hl 0 rfl) ?_
        refine mx_Vv (As := []) (rest := []) ⟨hx, hb, hml, hown, hts0⟩ (m_Pa_debuggerStatement l hlt dC dI cI cZ sa rk hp hc h a1 a2 a3 a4 ht hq n1 n2 ad_1 st_1 ok_1 _  (fun z => hg (by unfold f_Pa_statement; rw [bnd_r w_1, if_neg c_2, if_neg c_6, if_pos c_10, bnd_n z]))) hP hD hK hS hA hC hZ hnt hlocks L_819 L_821 L_50 L_87 L_822 k_Pa_debuggerStatement ⟨(by show _ ≤ fr0 + 10; omega), (by show _ ≤ lo0 + 373; omega)⟩ rfl rfl hl.1 (Nat.le_of_ble_eq_true rfl) d_Pa_statement_254 rfl (fun q z => by unfold f_Pa_statement; rw [bnd_r w_1, if_neg c_2, if_neg c_6, if_pos c_10, bnd_l z]) hcl hsl (fun ad_11 st_11 H locs w_11 ok_11 e1_11 e2_11 hP hD hS => ?_)
        have hcl := cl_next hcl e1_11
        have hsl := cl_next hsl e2_11
        exact mx_vret (stF := st_11) hx hb hr hlocks hK hP hD hS hcl hsl (by unfold f_Pa_statement; rw [bnd_r w_1, if_neg c_2, if_neg c_6, if_pos c_10, bnd_r w_11]) ok_11 d_Pa_statement_257
      · skip
        refine ⟨fun c_12 => ?_, fun c_12 => ?_⟩
        · refine lv_aload_n hx hb d_Pa_statement_153 rfl (lv_at hl 0 rfl) ?_
          refine lv_iload_n hx hb d_Pa_statement_154 rfl (lv_at hl 1 rfl) ?_
          refine lv_iload_n hx hb d_Pa_statement_155 rfl (lv_at hl 2 rfl) ?_
          refine mx_Vv (As := [.int depth, .int first]) (rest := []) ⟨hx, hb, hml, hown, hts0⟩ (m_Pa_doStatement l hlt dC dI cI cZ sa rk hp h a1 a2 a3 a4 ht hq n1 n2 fr0 lo0 E S F hRE hRS hRF hc ad_1 st_1 ok_1 _ depth first (fun z => hg (by unfold f_Pa_statement; rw [bnd_r w_1, if_neg c_2, if_neg c_6, if_neg c_10, if_pos c_12, bnd_n z]))) hP hD hK hS hA hC hZ hnt hlocks L_727 L_729 L_35 L_87 L_730 k_Pa_doStatement ⟨(by show _ ≤ fr0 + 10; omega), (by show _ ≤ lo0 + 373; omega)⟩ rfl rfl hl.1 (Nat.le_of_ble_eq_true rfl) d_Pa_statement_156 rfl (fun q z => by unfold f_Pa_statement; rw [bnd_r w_1, if_neg c_2, if_neg c_6, if_neg c_10, if_pos c_12, bnd_l z]) hcl hsl (fun ad_13 st_13 H locs w_13 ok_13 e1_13 e2_13 hP hD hS => ?_)
          have hcl := cl_next hcl e1_13
          have hsl := cl_next hsl e2_13
          exact mx_vret (stF := st_13) hx hb hr hlocks hK hP hD hS hcl hsl (by unfold f_Pa_statement; rw [bnd_r w_1, if_neg c_2, if_neg c_6, if_neg c_10, if_pos c_12, bnd_r w_13]) ok_13 d_Pa_statement_159
        · skip
          refine ⟨fun c_14 => ?_, fun c_14 => ?_⟩
          · refine lv_aload_n hx hb d_Pa_statement_167 rfl (lv_at hl 0 rfl) ?_
            refine lv_iload_n hx hb d_Pa_statement_168 rfl (lv_at hl 2 rfl) ?_
            refine mx_Vi (As := [.int first]) (rest := []) ⟨hx, hb, hml, hown, hts0⟩ (m_Pa_openFor l hlt dC dI cI cZ sa rk hp hc h a1 a2 a3 a4 ht hq n1 n2 ad_1 st_1 ok_1 _ first (fun z => hg (by unfold f_Pa_statement; rw [bnd_r w_1, if_neg c_2, if_neg c_6, if_neg c_10, if_neg c_12, if_pos c_14, bnd_n z]))) hP hD hK hS hA hC hZ hnt hlocks L_746 L_748 L_37 L_87 L_749 k_Pa_openFor ⟨(by show _ ≤ fr0 + 10; omega), (by show _ ≤ lo0 + 373; omega)⟩ rfl rfl hl.1 (Nat.le_of_ble_eq_true rfl) d_Pa_statement_169 rfl (fun q z => by unfold f_Pa_statement; rw [bnd_r w_1, if_neg c_2, if_neg c_6, if_neg c_10, if_neg c_12, if_pos c_14, bnd_l z]) hcl hsl (fun r_15 ad_15 st_15 H locs w_15 ok_15 e1_15 e2_15 hP hD hS => ?_)
            have hcl := cl_next hcl e1_15
            have hsl := cl_next hsl e2_15
            refine lv_istore_n (lv' := [(3, .int r_15), (0, .ref hp), (1, .int depth), (2, .int first)]) hx hb d_Pa_statement_172 rfl hl (by decide) rfl (fun ls hl => ?_)
            refine lv_aload_n hx hb d_Pa_statement_173 rfl (lv_at hl 1 rfl) ?_
            refine lv_bipush (v := 22) hx hb d_Pa_statement_174 (by decide) ?_
            refine rd_U (xm := ⟨"SyntaxTree$Parser", "atWord", "(I)Z"⟩) (owner := R_Cu) (v := (f_Cu_atWord st_15 22)) (As := [.int 22]) (rest := []) ⟨hx, hb, hml, hown, hts0⟩ (m_Cu_atWord l dC dI cI cZ hp hc h a1 a2 a3 a4 ht ad_15.1 ad_15.2.1 ad_15.2.2.1 ad_15.2.2.2 hq n1 n2 st_15 ok_15 22) hP hK [0, 1, 2, 3, 4, 5, 6, 7, 8, 9, 10, 11, 12, 13, 14] rfl [0, 1] rfl 0 2 rfl rfl L_439 L_440 L_442 L_443 L_86 L_444 rfl k_Cu_atWord ⟨(by show _ ≤ fr0 + 10; omega), (by show _ ≤ lo0 + 373; omega)⟩ hl.1 ⟨Nat.le_trans (Nat.le_add_right _ _) hcl, Nat.le_trans (Nat.le_add_right _ _) hsl⟩ (Nat.le_of_ble_eq_true rfl) d_Pa_statement_176 rfl ?_
            refine lv_if_eq (tgt := 191) hx hb d_Pa_statement_179 (by decide) (fun c_16 => ?_) (fun c_16 => ?_)
            · refine lv_aload_n hx hb d_Pa_statement_191 rfl (lv_at hl 1 rfl) ?_
              refine lv_iload_n hx hb d_Pa_statement_192 rfl (lv_at hl 2 rfl) ?_
              refine mx_Vv (As := [.int depth]) (rest := []) ⟨hx, hb, hml, hown, hts0⟩ (m_Pa_forInitial l hlt dC dI cI cZ sa rk hp h a1 a2 a3 a4 ht hq n1 n2 fr0 lo0 E S F hRE hRS hRF hc ad_15 st_15 ok_15 _ depth (fun z => hg (by unfold f_Pa_statement; rw [bnd_r w_1, if_neg c_2, if_neg c_6, if_neg c_10, if_neg c_12, if_pos c_14, bnd_r w_15, if_pos c_16, bnd_n z]))) hP hD hK hS hA hC hZ hnt hlocks L_750 L_752 L_38 L_87 L_753 k_Pa_forInitial ⟨(by show _ ≤ fr0 + 10; omega), (by show _ ≤ lo0 + 373; omega)⟩ rfl rfl hl.1 (Nat.le_of_ble_eq_true rfl) d_Pa_statement_193 rfl (fun q z => by unfold f_Pa_statement; rw [bnd_r w_1, if_neg c_2, if_neg c_6, if_neg c_10, if_neg c_12, if_pos c_14, bnd_r w_15, if_pos c_16, bnd_l z]) hcl hsl (fun ad_17 st_17 H locs w_17 ok_17 e1_17 e2_17 hP hD hS => ?_)
              have hcl := cl_next hcl e1_17
              have hsl := cl_next hsl e2_17
              refine lv_aload_n hx hb d_Pa_statement_196 rfl (lv_at hl 1 rfl) ?_
              refine lv_iload_n hx hb d_Pa_statement_197 rfl (lv_at hl 0 rfl) ?_
              refine lv_iload_n hx hb d_Pa_statement_198 rfl (lv_at hl 2 rfl) ?_
              refine mx_Vv (As := [.int r_15, .int depth]) (rest := []) ⟨hx, hb, hml, hown, hts0⟩ (m_Pa_forRest l hlt dC dI cI cZ sa rk hp h a1 a2 a3 a4 ht hq n1 n2 fr0 lo0 E S F hRE hRS hRF hc ad_17 st_17 ok_17 _ r_15 depth (fun z => hg (by unfold f_Pa_statement; rw [bnd_r w_1, if_neg c_2, if_neg c_6, if_neg c_10, if_neg c_12, if_pos c_14, bnd_r w_15, if_pos c_16, bnd_r w_17, bnd_n z]))) hP hD hK hS hA hC hZ hnt hlocks L_754 L_756 L_39 L_87 L_757 k_Pa_forRest ⟨(by show _ ≤ fr0 + 10; omega), (by show _ ≤ lo0 + 373; omega)⟩ rfl rfl hl.1 (Nat.le_of_ble_eq_true rfl) d_Pa_statement_199 rfl (fun q z => by unfold f_Pa_statement; rw [bnd_r w_1, if_neg c_2, if_neg c_6, if_neg c_10, if_neg c_12, if_pos c_14, bnd_r w_15, if_pos c_16, bnd_r w_17, bnd_l z]) hcl hsl (fun ad_18 st_18 H locs w_18 ok_18 e1_18 e2_18 hP hD hS => ?_)
              have hcl := cl_next hcl e1_18
              have hsl := cl_next hsl e2_18
              exact mx_vret (stF := st_18) hx hb hr hlocks hK hP hD hS hcl hsl (by unfold f_Pa_statement; rw [bnd_r w_1, if_neg c_2, if_neg c_6, if_neg c_10, if_neg c_12, if_pos c_14, bnd_r w_15, if_pos c_16, bnd_r w_17, bnd_r w_18]) ok_18 d_Pa_statement_202
            · refine lv_aload_n hx hb d_Pa_statement_182 rfl (lv_at hl 1 rfl) ?_
              refine lv_iload_n hx hb d_Pa_statement_183 rfl (lv_at hl 2 rfl) ?_
              refine lv_iconst (v := 0) hx hb d_Pa_statement_184 (by decide) ?_
              refine mx_Vv (As := [.int depth, .int 0]) (rest := []) ⟨hx, hb, hml, hown, hts0⟩ (m_Pa_variables l hlt dC dI cI cZ sa rk hp h a1 a2 a3 a4 ht hq n1 n2 fr0 lo0 E S F hRE hRS hRF hc ad_15 st_15 ok_15 _ depth 0 (fun z => hg (by unfold f_Pa_statement; rw [bnd_r w_1, if_neg c_2, if_neg c_6, if_neg c_10, if_neg c_12, if_pos c_14, bnd_r w_15, if_neg c_16, bnd_n z]))) hP hD hK hS hA hC hZ hnt hlocks L_565 L_567 L_11 L_87 L_568 k_Pa_variables ⟨(by show _ ≤ fr0 + 10; omega), (by show _ ≤ lo0 + 373; omega)⟩ rfl rfl hl.1 (Nat.le_of_ble_eq_true rfl) d_Pa_statement_185 rfl (fun q z => by unfold f_Pa_statement; rw [bnd_r w_1, if_neg c_2, if_neg c_6, if_neg c_10, if_neg c_12, if_pos c_14, bnd_r w_15, if_neg c_16, bnd_l z]) hcl hsl (fun ad_19 st_19 H locs w_19 ok_19 e1_19 e2_19 hP hD hS => ?_)
              have hcl := cl_next hcl e1_19
              have hsl := cl_next hsl e2_19
              refine lv_goto (tgt := 196) hx hb d_Pa_statement_188 (by decide) ?_
              refine lv_aload_n hx hb d_Pa_statement_196 rfl (lv_at hl 1 rfl) ?_
              refine lv_iload_n hx hb d_Pa_statement_197 rfl (lv_at hl 0 rfl) ?_
              refine lv_iload_n hx hb d_Pa_statement_198 rfl (lv_at hl 2 rfl) ?_
              refine mx_Vv (As := [.int r_15, .int depth]) (rest := []) ⟨hx, hb, hml, hown, hts0⟩ (m_Pa_forRest l hlt dC dI cI cZ sa rk hp h a1 a2 a3 a4 ht hq n1 n2 fr0 lo0 E S F hRE hRS hRF hc ad_19 st_19 ok_19 _ r_15 depth (fun z => hg (by unfold f_Pa_statement; rw [bnd_r w_1, if_neg c_2, if_neg c_6, if_neg c_10, if_neg c_12, if_pos c_14, bnd_r w_15, if_neg c_16, bnd_r w_19, bnd_n z]))) hP hD hK hS hA hC hZ hnt hlocks L_754 L_756 L_39 L_87 L_757 k_Pa_forRest ⟨(by show _ ≤ fr0 + 10; omega), (by show _ ≤ lo0 + 373; omega)⟩ rfl rfl hl.1 (Nat.le_of_ble_eq_true rfl) d_Pa_statement_199 rfl (fun q z => by unfold f_Pa_statement; rw [bnd_r w_1, if_neg c_2, if_neg c_6, if_neg c_10, if_neg c_12, if_pos c_14, bnd_r w_15, if_neg c_16, bnd_r w_19, bnd_l z]) hcl hsl (fun ad_20 st_20 H locs w_20 ok_20 e1_20 e2_20 hP hD hS => ?_)
              have hcl := cl_next hcl e1_20
              have hsl := cl_next hsl e2_20
              exact mx_vret (stF := st_20) hx hb hr hlocks hK hP hD hS hcl hsl (by unfold f_Pa_statement; rw [bnd_r w_1, if_neg c_2, if_neg c_6, if_neg c_10, if_neg c_12, if_pos c_14, bnd_r w_15, if_neg c_16, bnd_r w_19, bnd_r w_20]) ok_20 d_Pa_statement_202
          · skip
            refine ⟨fun c_21 => ?_, fun c_21 => ?_⟩
            · refine lv_aload_n hx hb d_Pa_statement_147 rfl (lv_at hl 0 rfl) ?_
              refine lv_iload_n hx hb d_Pa_statement_148 rfl (lv_at hl 1 rfl) ?_
              refine mx_Vv (As := [.int depth]) (rest := []) ⟨hx, hb, hml, hown, hts0⟩ (m_Pa_ifStatement l hlt dC dI cI cZ sa rk hp h a1 a2 a3 a4 ht hq n1 n2 fr0 lo0 E S F hRE hRS hRF hc ad_1 st_1 ok_1 _ depth (fun z => hg (by unfold f_Pa_statement; rw [bnd_r w_1, if_neg c_2, if_neg c_6, if_neg c_10, if_neg c_12, if_neg c_14, if_pos c_21, bnd_n z]))) hP hD hK hS hA hC hZ hnt hlocks L_723 L_725 L_34 L_87 L_726 k_Pa_ifStatement ⟨(by show _ ≤ fr0 + 10; omega), (by show _ ≤ lo0 + 373; omega)⟩ rfl rfl hl.1 (Nat.le_of_ble_eq_true rfl) d_Pa_statement_149 rfl (fun q z => by unfold f_Pa_statement; rw [bnd_r w_1, if_neg c_2, if_neg c_6, if_neg c_10, if_neg c_12, if_neg c_14, if_pos c_21, bnd_l z]) hcl hsl (fun ad_22 st_22 H locs w_22 ok_22 e1_22 e2_22 hP hD hS => ?_)
              have hcl := cl_next hcl e1_22
              have hsl := cl_next hsl e2_22
              exact mx_vret (stF := st_22) hx hb hr hlocks hK hP hD hS hcl hsl (by unfold f_Pa_statement; rw [bnd_r w_1, if_neg c_2, if_neg c_6, if_neg c_10, if_neg c_12, if_neg c_14, if_pos c_21, bnd_r w_22]) ok_22 d_Pa_statement_152
            · skip
              refine ⟨fun c_23 => ?_, fun c_23 => ?_⟩
              · refine lv_aload_n hx hb d_Pa_statement_223 rfl (lv_at hl 0 rfl) ?_
                refine lv_iload_n hx hb d_Pa_statement_224 rfl (lv_at hl 1 rfl) ?_
                refine mx_Vv (As := [.int depth]) (rest := []) ⟨hx, hb, hml, hown, hts0⟩ (m_Pa_returnStatement l hlt dC dI cI cZ sa rk hp h a1 a2 a3 a4 ht hq n1 n2 fr0 lo0 E S F hRE hRS hRF hc ad_1 st_1 ok_1 _ depth (fun z => hg (by unfold f_Pa_statement; rw [bnd_r w_1, if_neg c_2, if_neg c_6, if_neg c_10, if_neg c_12, if_neg c_14, if_neg c_21, if_pos c_23, bnd_n z]))) hP hD hK hS hA hC hZ hnt hlocks L_783 L_785 L_42 L_87 L_786 k_Pa_returnStatement ⟨(by show _ ≤ fr0 + 10; omega), (by show _ ≤ lo0 + 373; omega)⟩ rfl rfl hl.1 (Nat.le_of_ble_eq_true rfl) d_Pa_statement_225 rfl (fun q z => by unfold f_Pa_statement; rw [bnd_r w_1, if_neg c_2, if_neg c_6, if_neg c_10, if_neg c_12, if_neg c_14, if_neg c_21, if_pos c_23, bnd_l z]) hcl hsl (fun ad_24 st_24 H locs w_24 ok_24 e1_24 e2_24 hP hD hS => ?_)
                have hcl := cl_next hcl e1_24
                have hsl := cl_next hsl e2_24
                exact mx_vret (stF := st_24) hx hb hr hlocks hK hP hD hS hcl hsl (by unfold f_Pa_statement; rw [bnd_r w_1, if_neg c_2, if_neg c_6, if_neg c_10, if_neg c_12, if_neg c_14, if_neg c_21, if_pos c_23, bnd_r w_24]) ok_24 d_Pa_statement_228
              · skip
                refine ⟨fun c_25 => ?_, fun c_25 => ?_⟩
                · refine lv_aload_n hx hb d_Pa_statement_235 rfl (lv_at hl 0 rfl) ?_
                  refine lv_iload_n hx hb d_Pa_statement_236 rfl (lv_at hl 1 rfl) ?_
                  refine mx_Vv (As := [.int depth]) (rest := []) ⟨hx, hb, hml, hown, hts0⟩ (m_Pa_switchStatement l hlt dC dI cI cZ sa rk hp h a1 a2 a3 a4 ht hq n1 n2 fr0 lo0 E S F hRE hRS hRF hc ad_1 st_1 ok_1 _ depth (fun z => hg (by unfold f_Pa_statement; rw [bnd_r w_1, if_neg c_2, if_neg c_6, if_neg c_10, if_neg c_12, if_neg c_14, if_neg c_21, if_neg c_23, if_pos c_25, bnd_n z]))) hP hD hK hS hA hC hZ hnt hlocks L_795 L_797 L_44 L_87 L_798 k_Pa_switchStatement ⟨(by show _ ≤ fr0 + 10; omega), (by show _ ≤ lo0 + 373; omega)⟩ rfl rfl hl.1 (Nat.le_of_ble_eq_true rfl) d_Pa_statement_237 rfl (fun q z => by unfold f_Pa_statement; rw [bnd_r w_1, if_neg c_2, if_neg c_6, if_neg c_10, if_neg c_12, if_neg c_14, if_neg c_21, if_neg c_23, if_pos c_25, bnd_l z]) hcl hsl (fun ad_26 st_26 H locs w_26 ok_26 e1_26 e2_26 hP hD hS => ?_)
                  have hcl := cl_next hcl e1_26
                  have hsl := cl_next hsl e2_26
                  exact mx_vret (stF := st_26) hx hb hr hlocks hK hP hD hS hcl hsl (by unfold f_Pa_statement; rw [bnd_r w_1, if_neg c_2, if_neg c_6, if_neg c_10, if_neg c_12, if_neg c_14, if_neg c_21, if_neg c_23, if_pos c_25, bnd_r w_26]) ok_26 d_Pa_statement_240
                · skip
                  refine ⟨fun c_27 => ?_, fun c_27 => ?_⟩
                  · refine lv_aload_n hx hb d_Pa_statement_241 rfl (lv_at hl 0 rfl) ?_
                    refine lv_iload_n hx hb d_Pa_statement_242 rfl (lv_at hl 1 rfl) ?_
                    refine mx_Vv (As := [.int depth]) (rest := []) ⟨hx, hb, hml, hown, hts0⟩ (m_Pa_throwStatement l hlt dC dI cI cZ sa rk hp h a1 a2 a3 a4 ht hq n1 n2 fr0 lo0 E S F hRE hRS hRF hc ad_1 st_1 ok_1 _ depth (fun z => hg (by unfold f_Pa_statement; rw [bnd_r w_1, if_neg c_2, if_neg c_6, if_neg c_10, if_neg c_12, if_neg c_14, if_neg c_21, if_neg c_23, if_neg c_25, if_pos c_27, bnd_n z]))) hP hD hK hS hA hC hZ hnt hlocks L_807 L_809 L_47 L_87 L_810 k_Pa_throwStatement ⟨(by show _ ≤ fr0 + 10; omega), (by show _ ≤ lo0 + 373; omega)⟩ rfl rfl hl.1 (Nat.le_of_ble_eq_true rfl) d_Pa_statement_243 rfl (fun q z => by unfold f_Pa_statement; rw [bnd_r w_1, if_neg c_2, if_neg c_6, if_neg c_10, if_neg c_12, if_neg c_14, if_neg c_21, if_neg c_23, if_neg c_25, if_pos c_27, bnd_l z]) hcl hsl (fun ad_28 st_28 H locs w_28 ok_28 e1_28 e2_28 hP hD hS => ?_)
                    have hcl := cl_next hcl e1_28
                    have hsl := cl_next hsl e2_28
                    exact mx_vret (stF := st_28) hx hb hr hlocks hK hP hD hS hcl hsl (by unfold f_Pa_statement; rw [bnd_r w_1, if_neg c_2, if_neg c_6, if_neg c_10, if_neg c_12, if_neg c_14, if_neg c_21, if_neg c_23, if_neg c_25, if_pos c_27, bnd_r w_28]) ok_28 d_Pa_statement_246
                  · skip
                    refine ⟨fun c_29 => ?_, fun c_29 => ?_⟩
                    · refine lv_aload_n hx hb d_Pa_statement_247 rfl (lv_at hl 0 rfl) ?_
                      refine lv_iload_n hx hb d_Pa_statement_248 rfl (lv_at hl 1 rfl) ?_
                      refine mx_Vv (As := [.int depth]) (rest := []) ⟨hx, hb, hml, hown, hts0⟩ (m_Pa_tryStatement l hlt dC dI cI cZ sa rk hp h a1 a2 a3 a4 ht hq n1 n2 fr0 lo0 E S F hRE hRS hRF hc ad_1 st_1 ok_1 _ depth (fun z => hg (by unfold f_Pa_statement; rw [bnd_r w_1, if_neg c_2, if_neg c_6, if_neg c_10, if_neg c_12, if_neg c_14, if_neg c_21, if_neg c_23, if_neg c_25, if_neg c_27, if_pos c_29, bnd_n z]))) hP hD hK hS hA hC hZ hnt hlocks L_811 L_813 L_48 L_87 L_814 k_Pa_tryStatement ⟨(by show _ ≤ fr0 + 10; omega), (by show _ ≤ lo0 + 373; omega)⟩ rfl rfl hl.1 (Nat.le_of_ble_eq_true rfl) d_Pa_statement_249 rfl (fun q z => by unfold f_Pa_statement; rw [bnd_r w_1, if_neg c_2, if_neg c_6, if_neg c_10, if_neg c_12, if_neg c_14, if_neg c_21, if_neg c_23, if_neg c_25, if_neg c_27, if_pos c_29, bnd_l z]) hcl hsl (fun ad_30 st_30 H locs w_30 ok_30 e1_30 e2_30 hP hD hS => ?_)
                      have hcl := cl_next hcl e1_30
                      have hsl := cl_next hsl e2_30
                      exact mx_vret (stF := st_30) hx hb hr hlocks hK hP hD hS hcl hsl (by unfold f_Pa_statement; rw [bnd_r w_1, if_neg c_2, if_neg c_6, if_neg c_10, if_neg c_12, if_neg c_14, if_neg c_21, if_neg c_23, if_neg c_25, if_neg c_27, if_pos c_29, bnd_r w_30]) ok_30 d_Pa_statement_252
                    · skip
                      refine ⟨fun c_31 => ?_, fun c_31 => ?_⟩
                      · refine lv_aload_n hx hb d_Pa_statement_136 rfl (lv_at hl 0 rfl) ?_
                        refine lv_iload_n hx hb d_Pa_statement_137 rfl (lv_at hl 1 rfl) ?_
                        refine lv_iconst (v := 1) hx hb d_Pa_statement_138 (by decide) ?_
                        refine mx_Vv (As := [.int depth, .int 1]) (rest := []) ⟨hx, hb, hml, hown, hts0⟩ (m_Pa_variables l hlt dC dI cI cZ sa rk hp h a1 a2 a3 a4 ht hq n1 n2 fr0 lo0 E S F hRE hRS hRF hc ad_1 st_1 ok_1 _ depth 1 (fun z => hg (by unfold f_Pa_statement; rw [bnd_r w_1, if_neg c_2, if_neg c_6, if_neg c_10, if_neg c_12, if_neg c_14, if_neg c_21, if_neg c_23, if_neg c_25, if_neg c_27, if_neg c_29, if_pos c_31, bnd_n z]))) hP hD hK hS hA hC hZ hnt hlocks L_565 L_567 L_11 L_87 L_568 k_Pa_variables ⟨(by show _ ≤ fr0 + 10; omega), (by show _ ≤ lo0 + 373; omega)⟩ rfl rfl hl.1 (Nat.le_of_ble_eq_true rfl) d_Pa_statement_139 rfl (fun q z => by unfold f_Pa_statement; rw [bnd_r w_1, if_neg c_2, if_neg c_6, if_neg c_10, if_neg c_12, if_neg c_14, if_neg c_21, if_neg c_23, if_neg c_25, if_neg c_27, if_neg c_29, if_pos c_31, bnd_l z]) hcl hsl (fun ad_32 st_32 H locs w_32 ok_32 e1_32 e2_32 hP hD hS => ?_)
                        have hcl := cl_next hcl e1_32
                        have hsl := cl_next hsl e2_32
                        refine lv_aload_n hx hb d_Pa_statement_142 rfl (lv_at hl 0 rfl) ?_
                        refine mx_Uv (xm := ⟨"SyntaxTree$Parser", "semicolon", "()V"⟩) (owner := R_Cu) (As := []) (rest := []) ⟨hx, hb, hml, hown, hts0⟩ (m_Cu_semicolon l hlt dC dI cI cZ sa rk hp hc h a1 a2 a3 a4 ht hq n1 n2 ad_32 st_32 ok_32 _  (fun z => hg (by unfold f_Pa_statement; rw [bnd_r w_1, if_neg c_2, if_neg c_6, if_neg c_10, if_neg c_12, if_neg c_14, if_neg c_21, if_neg c_23, if_neg c_25, if_neg c_27, if_neg c_29, if_pos c_31, bnd_r w_32, bnd_n z]))) hP hD hK hS hA hC hZ hnt hlocks L_711 L_712 L_714 L_715 L_86 L_716 rfl k_Cu_semicolon ⟨(by show _ ≤ fr0 + 10; omega), (by show _ ≤ lo0 + 373; omega)⟩ rfl rfl hl.1 (Nat.le_of_ble_eq_true rfl) d_Pa_statement_143 rfl (fun q z => by unfold f_Pa_statement; rw [bnd_r w_1, if_neg c_2, if_neg c_6, if_neg c_10, if_neg c_12, if_neg c_14, if_neg c_21, if_neg c_23, if_neg c_25, if_neg c_27, if_neg c_29, if_pos c_31, bnd_r w_32, bnd_l z]) hcl hsl (fun ad_33 st_33 H locs w_33 ok_33 e1_33 e2_33 hP hD hS => ?_)
                        have hcl := cl_next hcl e1_33
                        have hsl := cl_next hsl e2_33
                        exact mx_vret (stF := st_33) hx hb hr hlocks hK hP hD hS hcl hsl (by unfold f_Pa_statement; rw [bnd_r w_1, if_neg c_2, if_neg c_6, if_neg c_10, if_neg c_12, if_neg c_14, if_neg c_21, if_neg c_23, if_neg c_25, if_neg c_27, if_neg c_29, if_pos c_31, bnd_r w_32, bnd_r w_33]) ok_33 d_Pa_statement_146
                      · skip
                        refine ⟨fun c_34 => ?_, fun c_34 => ?_⟩
                        · refine lv_aload_n hx hb d_Pa_statement_160 rfl (lv_at hl 0 rfl) ?_
                          refine lv_iload_n hx hb d_Pa_statement_161 rfl (lv_at hl 1 rfl) ?_
                          refine lv_iload_n hx hb d_Pa_statement_162 rfl (lv_at hl 2 rfl) ?_
                          refine mx_Vv (As := [.int depth, .int first]) (rest := []) ⟨hx, hb, hml, hown, hts0⟩ (m_Pa_whileStatement l hlt dC dI cI cZ sa rk hp h a1 a2 a3 a4 ht hq n1 n2 fr0 lo0 E S F hRE hRS hRF hc ad_1 st_1 ok_1 _ depth first (fun z => hg (by unfold f_Pa_statement; rw [bnd_r w_1, if_neg c_2, if_neg c_6, if_neg c_10, if_neg c_12, if_neg c_14, if_neg c_21, if_neg c_23, if_neg c_25, if_neg c_27, if_neg c_29, if_neg c_31, if_pos c_34, bnd_n z]))) hP hD hK hS hA hC hZ hnt hlocks L_742 L_744 L_36 L_87 L_745 k_Pa_whileStatement ⟨(by show _ ≤ fr0 + 10; omega), (by show _ ≤ lo0 + 373; omega)⟩ rfl rfl hl.1 (Nat.le_of_ble_eq_true rfl) d_Pa_statement_163 rfl (fun q z => by unfold f_Pa_statement; rw [bnd_r w_1, if_neg c_2, if_neg c_6, if_neg c_10, if_neg c_12, if_neg c_14, if_neg c_21, if_neg c_23, if_neg c_25, if_neg c_27, if_neg c_29, if_neg c_31, if_pos c_34, bnd_l z]) hcl hsl (fun ad_35 st_35 H locs w_35 ok_35 e1_35 e2_35 hP hD hS => ?_)
                          have hcl := cl_next hcl e1_35
                          have hsl := cl_next hsl e2_35
                          exact mx_vret (stF := st_35) hx hb hr hlocks hK hP hD hS hcl hsl (by unfold f_Pa_statement; rw [bnd_r w_1, if_neg c_2, if_neg c_6, if_neg c_10, if_neg c_12, if_neg c_14, if_neg c_21, if_neg c_23, if_neg c_25, if_neg c_27, if_neg c_29, if_neg c_31, if_pos c_34, bnd_r w_35]) ok_35 d_Pa_statement_166
                        · skip
                          refine ⟨fun c_36 => ?_, fun c_36 => ?_⟩
                          · refine lv_aload_n hx hb d_Pa_statement_229 rfl (lv_at hl 0 rfl) ?_
                            refine lv_iload_n hx hb d_Pa_statement_230 rfl (lv_at hl 1 rfl) ?_
                            refine mx_Vv (As := [.int depth]) (rest := []) ⟨hx, hb, hml, hown, hts0⟩ (m_Pa_withStatement l hlt dC dI cI cZ sa rk hp h a1 a2 a3 a4 ht hq n1 n2 fr0 lo0 E S F hRE hRS hRF hc ad_1 st_1 ok_1 _ depth (fun z => hg (by unfold f_Pa_statement; rw [bnd_r w_1, if_neg c_2, if_neg c_6, if_neg c_10, if_neg c_12, if_neg c_14, if_neg c_21, if_neg c_23, if_neg c_25, if_neg c_27, if_neg c_29, if_neg c_31, if_neg c_34, if_pos c_36, bnd_n z]))) hP hD hK hS hA hC hZ hnt hlocks L_791 L_793 L_43 L_87 L_794 k_Pa_withStatement ⟨(by show _ ≤ fr0 + 10; omega), (by show _ ≤ lo0 + 373; omega)⟩ rfl rfl hl.1 (Nat.le_of_ble_eq_true rfl) d_Pa_statement_231 rfl (fun q z => by unfold f_Pa_statement; rw [bnd_r w_1, if_neg c_2, if_neg c_6, if_neg c_10, if_neg c_12, if_neg c_14, if_neg c_21, if_neg c_23, if_neg c_25, if_neg c_27, if_neg c_29, if_neg c_31, if_neg c_34, if_pos c_36, bnd_l z]) hcl hsl (fun ad_37 st_37 H locs w_37 ok_37 e1_37 e2_37 hP hD hS => ?_)
                            have hcl := cl_next hcl e1_37
                            have hsl := cl_next hsl e2_37
                            exact mx_vret (stF := st_37) hx hb hr hlocks hK hP hD hS hcl hsl (by unfold f_Pa_statement; rw [bnd_r w_1, if_neg c_2, if_neg c_6, if_neg c_10, if_neg c_12, if_neg c_14, if_neg c_21, if_neg c_23, if_neg c_25, if_neg c_27, if_neg c_29, if_neg c_31, if_neg c_34, if_pos c_36, bnd_r w_37]) ok_37 d_Pa_statement_234
                          · skip
                            refine lv_aload_n hx hb d_Pa_statement_258 rfl (lv_at hl 0 rfl) ?_
                            refine lv_bipush (v := 64) hx hb d_Pa_statement_259 (by decide) ?_
                            refine rd_U (xm := ⟨"SyntaxTree$Parser", "atSign", "(I)Z"⟩) (owner := R_Cu) (v := (f_Cu_atSign st_1 64)) (As := [.int 64]) (rest := []) ⟨hx, hb, hml, hown, hts0⟩ (m_Cu_atSign l dC dI cI cZ hp hc h a1 a2 a3 a4 ht ad_1.1 ad_1.2.1 ad_1.2.2.1 ad_1.2.2.2 hq n1 n2 st_1 ok_1 64) hP hK [0, 1, 2, 3, 4, 5, 6, 7, 8, 9, 10, 11, 12, 13, 14] rfl [0, 1] rfl 0 2 rfl rfl L_496 L_497 L_499 L_500 L_86 L_501 rfl k_Cu_atSign ⟨(by show _ ≤ fr0 + 10; omega), (by show _ ≤ lo0 + 373; omega)⟩ hl.1 ⟨Nat.le_trans (Nat.le_add_right _ _) hcl, Nat.le_trans (Nat.le_add_right _ _) hsl⟩ (Nat.le_of_ble_eq_true rfl) d_Pa_statement_261 rfl ?_
                            refine lv_if_eq (tgt := 275) hx hb d_Pa_statement_264 (by decide) (fun c_38 => ?_) (fun c_38 => ?_)
                            · refine lv_aload_n hx hb d_Pa_statement_275 rfl (lv_at hl 0 rfl) ?_
                              refine lv_bipush (v := 67) hx hb d_Pa_statement_276 (by decide) ?_
                              refine rd_U (xm := ⟨"SyntaxTree$Parser", "atSign", "(I)Z"⟩) (owner := R_Cu) (v := (f_Cu_atSign st_1 67)) (As := [.int 67]) (rest := []) ⟨hx, hb, hml, hown, hts0⟩ (m_Cu_atSign l dC dI cI cZ hp hc h a1 a2 a3 a4 ht ad_1.1 ad_1.2.1 ad_1.2.2.1 ad_1.2.2.2 hq n1 n2 st_1 ok_1 67) hP hK [0, 1, 2, 3, 4, 5, 6, 7, 8, 9, 10, 11, 12, 13, 14] rfl [0, 1] rfl 0 2 rfl rfl L_496 L_497 L_499 L_500 L_86 L_501 rfl k_Cu_atSign ⟨(by show _ ≤ fr0 + 10; omega), (by show _ ≤ lo0 + 373; omega)⟩ hl.1 ⟨Nat.le_trans (Nat.le_add_right _ _) hcl, Nat.le_trans (Nat.le_add_right _ _) hsl⟩ (Nat.le_of_ble_eq_true rfl) d_Pa_statement_278 rfl ?_
                              refine lv_if_eq (tgt := 291) hx hb d_Pa_statement_281 (by decide) (fun c_39 => ?_) (fun c_39 => ?_)
                              · refine lv_aload_n hx hb d_Pa_statement_291 rfl (lv_at hl 0 rfl) ?_
                                refine rd_U (xm := ⟨"SyntaxTree$Parser", "atIdentifier", "()Z"⟩) (owner := R_Cu) (v := (f_Cu_atIdentifier st_1)) (As := []) (rest := []) ⟨hx, hb, hml, hown, hts0⟩ (m_Cu_atIdentifier l dC dI cI cZ hp hc h a1 a2 a3 a4 ht ad_1.1 ad_1.2.1 ad_1.2.2.1 ad_1.2.2.2 hq n1 n2 st_1 ok_1 ) hP hK [0, 1, 2, 3, 4, 5, 6, 7, 8, 9, 10, 11, 12, 13, 14] rfl [0, 1] rfl 0 2 rfl rfl L_651 L_652 L_654 L_655 L_86 L_656 rfl k_Cu_atIdentifier ⟨(by show _ ≤ fr0 + 10; omega), (by show _ ≤ lo0 + 373; omega)⟩ hl.1 ⟨Nat.le_trans (Nat.le_add_right _ _) hcl, Nat.le_trans (Nat.le_add_right _ _) hsl⟩ (Nat.le_of_ble_eq_true rfl) d_Pa_statement_292 rfl ?_
                                refine lv_if_eq (tgt := 325) hx hb d_Pa_statement_295 (by decide) (fun c_40 => ?_) (fun c_40 => ?_)
                                · refine lv_aload_n hx hb d_Pa_statement_325 rfl (lv_at hl 0 rfl) ?_
                                  refine lv_iload_n hx hb d_Pa_statement_326 rfl (lv_at hl 1 rfl) ?_
                                  refine mx_Vv (As := [.int depth]) (rest := []) ⟨hx, hb, hml, hown, hts0⟩ (m_Pa_expressionStatement l hlt dC dI cI cZ sa rk hp h a1 a2 a3 a4 ht hq n1 n2 fr0 lo0 E S F hRE hRS hRF hc ad_1 st_1 ok_1 _ depth (fun z => hg (by unfold f_Pa_statement; rw [bnd_r w_1, if_neg c_2, if_neg c_6, if_neg c_10, if_neg c_12, if_neg c_14, if_neg c_21, if_neg c_23, if_neg c_25, if_neg c_27, if_neg c_29, if_neg c_31, if_neg c_34, if_neg c_36, if_pos c_38, if_pos c_39, if_pos c_40, bnd_n z]))) hP hD hK hS hA hC hZ hnt hlocks L_839 L_841 L_53 L_87 L_842 k_Pa_expressionStatement ⟨(by show _ ≤ fr0 + 10; omega), (by show _ ≤ lo0 + 373; omega)⟩ rfl rfl hl.1 (Nat.le_of_ble_eq_true rfl) d_Pa_statement_327 rfl (fun q z => by unfold f_Pa_statement; rw [bnd_r w_1, if_neg c_2, if_neg c_6, if_neg c_10, if_neg c_12, if_neg c_14, if_neg c_21, if_neg c_23, if_neg c_25, if_neg c_27, if_neg c_29, if_neg c_31, if_neg c_34, if_neg c_36, if_pos c_38, if_pos c_39, if_pos c_40, bnd_l z]) hcl hsl (fun ad_41 st_41 H locs w_41 ok_41 e1_41 e2_41 hP hD hS => ?_)
                                  have hcl := cl_next hcl e1_41
                                  have hsl := cl_next hsl e2_41
                                  exact mx_vret (stF := st_41) hx hb hr hlocks hK hP hD hS hcl hsl (by unfold f_Pa_statement; rw [bnd_r w_1, if_neg c_2, if_neg c_6, if_neg c_10, if_neg c_12, if_neg c_14, if_neg c_21, if_neg c_23, if_neg c_25, if_neg c_27, if_neg c_29, if_neg c_31, if_neg c_34, if_neg c_36, if_pos c_38, if_pos c_39, if_pos c_40, bnd_r w_41]) ok_41 d_Pa_statement_330
                                · refine lv_aload_n hx hb d_Pa_statement_298 rfl (lv_at hl 0 rfl) ?_
                                  refine va_get (D := (dC, dI)) (ci := 2) (v := .ref h) (C := R_Pa) (T := T_Pa) (N := 7) hx hb hts u_Pa hown hK hP 0 rfl rfl 3 (by decide) (hts _ L_212) (fun x9 h9 => u_same (hts _ L_213) x9 h9) rfl d_Pa_statement_299 ?_
                                  refine lv_aload_n hx hb d_Pa_statement_302 rfl (lv_at hl 0 rfl) ?_
                                  refine va_get (D := (dC, dI)) (ci := 2) (v := .int (sAt st_1)) (C := R_Pa) (T := T_Pa) (N := 7) hx hb hts u_Pa hown hK hP 0 rfl rfl 4 (by decide) (hts _ L_215) (fun x9 h9 => u_same (hts _ L_216) x9 h9) rfl d_Pa_statement_303 ?_
                                  refine lv_iconst (v := 1) hx hb d_Pa_statement_306 (by decide) ?_
                                  refine lv_iadd hx hb d_Pa_statement_307 ?_
                                  refine rd_V (v := (f_Tk_sign (sTk st_1) ((sAt st_1) + 1))) (As := [.int ((sAt st_1) + 1)]) (rest := []) ⟨hx, hb, hml, hown, hts0⟩ (m_Tk_sign l dC dI cI cZ h a1 a2 a3 a4 (sTk st_1) ok_1.1 ((sAt st_1) + 1)) hP hK [2, 3, 4, 5, 6] rfl [0, 1] rfl 0 3 rfl rfl L_577 L_503 L_504 L_84 L_505 ⟨rfl, k_Tk_sign⟩ ⟨(by show _ ≤ fr0 + 10; omega), (by show _ ≤ lo0 + 373; omega)⟩ hl.1 ⟨Nat.le_trans (Nat.le_add_right _ _) hcl, Nat.le_trans (Nat.le_add_right _ _) hsl⟩ (Nat.le_of_ble_eq_true rfl) d_Pa_statement_308 rfl ?_
                                  refine lv_bipush (v := 70) hx hb d_Pa_statement_311 (by decide) ?_
                                  refine lv_icmp_ne (tgt := 325) hx hb d_Pa_statement_313 (by decide) (fun c_42 => ?_) (fun c_42 => ?_)
                                  · refine lv_aload_n hx hb d_Pa_statement_325 rfl (lv_at hl 0 rfl) ?_
                                    refine lv_iload_n hx hb d_Pa_statement_326 rfl (lv_at hl 1 rfl) ?_
                                    refine mx_Vv (As := [.int depth]) (rest := []) ⟨hx, hb, hml, hown, hts0⟩ (m_Pa_expressionStatement l hlt dC dI cI cZ sa rk hp h a1 a2 a3 a4 ht hq n1 n2 fr0 lo0 E S F hRE hRS hRF hc ad_1 st_1 ok_1 _ depth (fun z => hg (by unfold f_Pa_statement; rw [bnd_r w_1, if_neg c_2, if_neg c_6, if_neg c_10, if_neg c_12, if_neg c_14, if_neg c_21, if_neg c_23, if_neg c_25, if_neg c_27, if_neg c_29, if_neg c_31, if_neg c_34, if_neg c_36, if_pos c_38, if_pos c_39, if_neg c_40, if_neg c_42, bnd_n z]))) hP hD hK hS hA hC hZ hnt hlocks L_839 L_841 L_53 L_87 L_842 k_Pa_expressionStatement ⟨(by show _ ≤ fr0 + 10; omega), (by show _ ≤ lo0 + 373; omega)⟩ rfl rfl hl.1 (Nat.le_of_ble_eq_true rfl) d_Pa_statement_327 rfl (fun q z => by unfold f_Pa_statement; rw [bnd_r w_1, if_neg c_2, if_neg c_6, if_neg c_10, if_neg c_12, if_neg c_14, if_neg c_21, if_neg c_23, if_neg c_25, if_neg c_27, if_neg c_29, if_neg c_31, if_neg c_34, if_neg c_36, if_pos c_38, if_pos c_39, if_neg c_40, if_neg c_42, bnd_l z]) hcl hsl (fun ad_43 st_43 H locs w_43 ok_43 e1_43 e2_43 hP hD hS => ?_)
                                    have hcl := cl_next hcl e1_43
                                    have hsl := cl_next hsl e2_43
                                    exact mx_vret (stF := st_43) hx hb hr hlocks hK hP hD hS hcl hsl (by unfold f_Pa_statement; rw [bnd_r w_1, if_neg c_2, if_neg c_6, if_neg c_10, if_neg c_12, if_neg c_14, if_neg c_21, if_neg c_23, if_neg c_25, if_neg c_27, if_neg c_29, if_neg c_31, if_neg c_34, if_neg c_36, if_pos c_38, if_pos c_39, if_neg c_40, if_neg c_42, bnd_r w_43]) ok_43 d_Pa_statement_330
                                  · refine lv_aload_n hx hb d_Pa_statement_316 rfl (lv_at hl 0 rfl) ?_
                                    refine lv_iload_n hx hb d_Pa_statement_317 rfl (lv_at hl 1 rfl) ?_
                                    refine lv_iload_n hx hb d_Pa_statement_318 rfl (lv_at hl 2 rfl) ?_
                                    refine mx_Vv (As := [.int depth, .int first]) (rest := []) ⟨hx, hb, hml, hown, hts0⟩ (m_Pa_labelled l hlt dC dI cI cZ sa rk hp h a1 a2 a3 a4 ht hq n1 n2 fr0 lo0 E S F hRE hRS hRF hc ad_1 st_1 ok_1 _ depth first (fun z => hg (by unfold f_Pa_statement; rw [bnd_r w_1, if_neg c_2, if_neg c_6, if_neg c_10, if_neg c_12, if_neg c_14, if_neg c_21, if_neg c_23, if_neg c_25, if_neg c_27, if_neg c_29, if_neg c_31, if_neg c_34, if_neg c_36, if_pos c_38, if_pos c_39, if_neg c_40, if_pos c_42, bnd_n z]))) hP hD hK hS hA hC hZ hnt hlocks L_827 L_829 L_52 L_87 L_830 k_Pa_labelled ⟨(by show _ ≤ fr0 + 10; omega), (by show _ ≤ lo0 + 373; omega)⟩ rfl rfl hl.1 (Nat.le_of_ble_eq_true rfl) d_Pa_statement_319 rfl (fun q z => by unfold f_Pa_statement; rw [bnd_r w_1, if_neg c_2, if_neg c_6, if_neg c_10, if_neg c_12, if_neg c_14, if_neg c_21, if_neg c_23, if_neg c_25, if_neg c_27, if_neg c_29, if_neg c_31, if_neg c_34, if_neg c_36, if_pos c_38, if_pos c_39, if_neg c_40, if_pos c_42, bnd_l z]) hcl hsl (fun ad_44 st_44 H locs w_44 ok_44 e1_44 e2_44 hP hD hS => ?_)
                                    have hcl := cl_next hcl e1_44
                                    have hsl := cl_next hsl e2_44
                                    refine lv_goto (tgt := 330) hx hb d_Pa_statement_322 (by decide) ?_
                                    exact mx_vret (stF := st_44) hx hb hr hlocks hK hP hD hS hcl hsl (by unfold f_Pa_statement; rw [bnd_r w_1, if_neg c_2, if_neg c_6, if_neg c_10, if_neg c_12, if_neg c_14, if_neg c_21, if_neg c_23, if_neg c_25, if_neg c_27, if_neg c_29, if_neg c_31, if_neg c_34, if_neg c_36, if_pos c_38, if_pos c_39, if_neg c_40, if_pos c_42, bnd_r w_44]) ok_44 d_Pa_statement_330
                              · refine lv_aload_n hx hb d_Pa_statement_284 rfl (lv_at hl 0 rfl) ?_
                                refine mx_Vv (As := []) (rest := []) ⟨hx, hb, hml, hown, hts0⟩ (m_Pa_emptyStatement l hlt dC dI cI cZ sa rk hp hc h a1 a2 a3 a4 ht hq n1 n2 ad_1 st_1 ok_1 _  (fun z => hg (by unfold f_Pa_statement; rw [bnd_r w_1, if_neg c_2, if_neg c_6, if_neg c_10, if_neg c_12, if_neg c_14, if_neg c_21, if_neg c_23, if_neg c_25, if_neg c_27, if_neg c_29, if_neg c_31, if_neg c_34, if_neg c_36, if_pos c_38, if_neg c_39, bnd_n z]))) hP hD hK hS hA hC hZ hnt hlocks L_823 L_825 L_51 L_87 L_826 k_Pa_emptyStatement ⟨(by show _ ≤ fr0 + 10; omega), (by show _ ≤ lo0 + 373; omega)⟩ rfl rfl hl.1 (Nat.le_of_ble_eq_true rfl) d_Pa_statement_285 rfl (fun q z => by unfold f_Pa_statement; rw [bnd_r w_1, if_neg c_2, if_neg c_6, if_neg c_10, if_neg c_12, if_neg c_14, if_neg c_21, if_neg c_23, if_neg c_25, if_neg c_27, if_neg c_29, if_neg c_31, if_neg c_34, if_neg c_36, if_pos c_38, if_neg c_39, bnd_l z]) hcl hsl (fun ad_45 st_45 H locs w_45 ok_45 e1_45 e2_45 hP hD hS => ?_)
                                have hcl := cl_next hcl e1_45
                                have hsl := cl_next hsl e2_45
                                refine lv_goto (tgt := 330) hx hb d_Pa_statement_288 (by decide) ?_
                                exact mx_vret (stF := st_45) hx hb hr hlocks hK hP hD hS hcl hsl (by unfold f_Pa_statement; rw [bnd_r w_1, if_neg c_2, if_neg c_6, if_neg c_10, if_neg c_12, if_neg c_14, if_neg c_21, if_neg c_23, if_neg c_25, if_neg c_27, if_neg c_29, if_neg c_31, if_neg c_34, if_neg c_36, if_pos c_38, if_neg c_39, bnd_r w_45]) ok_45 d_Pa_statement_330
                            · refine lv_aload_n hx hb d_Pa_statement_267 rfl (lv_at hl 0 rfl) ?_
                              refine lv_iload_n hx hb d_Pa_statement_268 rfl (lv_at hl 1 rfl) ?_
                              refine mx_Vv (As := [.int depth]) (rest := []) ⟨hx, hb, hml, hown, hts0⟩ (m_Pa_block l hlt dC dI cI cZ sa rk hp h a1 a2 a3 a4 ht hq n1 n2 fr0 lo0 E S F hRE hRS hRF hc ad_1 st_1 ok_1 _ depth (fun z => hg (by unfold f_Pa_statement; rw [bnd_r w_1, if_neg c_2, if_neg c_6, if_neg c_10, if_neg c_12, if_neg c_14, if_neg c_21, if_neg c_23, if_neg c_25, if_neg c_27, if_neg c_29, if_neg c_31, if_neg c_34, if_neg c_36, if_neg c_38, bnd_n z]))) hP hD hK hS hA hC hZ hnt hlocks L_815 L_817 L_49 L_87 L_818 k_Pa_block ⟨(by show _ ≤ fr0 + 10; omega), (by show _ ≤ lo0 + 373; omega)⟩ rfl rfl hl.1 (Nat.le_of_ble_eq_true rfl) d_Pa_statement_269 rfl (fun q z => by unfold f_Pa_statement; rw [bnd_r w_1, if_neg c_2, if_neg c_6, if_neg c_10, if_neg c_12, if_neg c_14, if_neg c_21, if_neg c_23, if_neg c_25, if_neg c_27, if_neg c_29, if_neg c_31, if_neg c_34, if_neg c_36, if_neg c_38, bnd_l z]) hcl hsl (fun ad_46 st_46 H locs w_46 ok_46 e1_46 e2_46 hP hD hS => ?_)
                              have hcl := cl_next hcl e1_46
                              have hsl := cl_next hsl e2_46
                              refine lv_goto (tgt := 330) hx hb d_Pa_statement_272 (by decide) ?_
                              exact mx_vret (stF := st_46) hx hb hr hlocks hK hP hD hS hcl hsl (by unfold f_Pa_statement; rw [bnd_r w_1, if_neg c_2, if_neg c_6, if_neg c_10, if_neg c_12, if_neg c_14, if_neg c_21, if_neg c_23, if_neg c_25, if_neg c_27, if_neg c_29, if_neg c_31, if_neg c_34, if_neg c_36, if_neg c_38, bnd_r w_46]) ok_46 d_Pa_statement_330
