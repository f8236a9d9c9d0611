def f_Pa_program_L15 (E : Int32 → Int32 → Int32 → ST → Rz) (S : Int32 → Int32 → ST → Rz) (F : Int32 → Int32 → ST → Rz)  : Nat → Int32 → Int32 → ST → Rz
  | 0, _, _, _ => none
  | fu_2 + 1, x2, x3, sx_2 => (if 1000 < x3 then (some (.inr (0, sx_2))) else (if (f_Cu_atEnd sx_2) = 0 then (if (f_Cu_atWord sx_2 11) = 0 then (bnd (S 1 (f_La_count (sLb sx_2)) sx_2) (fun _ st_16 => (if x2 = 0 then (f_Pa_program_L15 E S F fu_2 0 (x3 + 1) st_16) else (if (f_Cu_wasTextAlone st_16 (sAt sx_2)) = 0 then (f_Pa_program_L15 E S F fu_2 0 (x3 + 1) st_16) else (if (f_Tk_asksForStrict (sTk st_16) (sAt sx_2)) = 0 then (f_Pa_program_L15 E S F fu_2 1 (x3 + 1) st_16) else (f_Pa_program_L15 E S F fu_2 1 (x3 + 1) (setCo st_16 ((coF st_16), (coL st_16), 1, (coP st_16), (coW st_16))))))))) else (bnd (F 24 1 sx_2) (fun _ st_20 => (if x2 = 0 then (f_Pa_program_L15 E S F fu_2 0 (x3 + 1) st_20) else (if (f_Cu_wasTextAlone st_20 (sAt sx_2)) = 0 then (f_Pa_program_L15 E S F fu_2 0 (x3 + 1) st_20) else (if (f_Tk_asksForStrict (sTk st_20) (sAt sx_2)) = 0 then (f_Pa_program_L15 E S F fu_2 1 (x3 + 1) st_20) else (f_Pa_program_L15 E S F fu_2 1 (x3 + 1) (setCo st_20 ((coF st_20), (coL st_20), 1, (coP st_20), (coW st_20)))))))))) else (some (.inr (0, sx_2)))))
def f_Pa_program (E : Int32 → Int32 → Int32 → ST → Rz) (S : Int32 → Int32 → ST → Rz) (F : Int32 → Int32 → ST → Rz) (st : ST)  : Rz := (bnd (p_open st 0 0 0) (fun r_1 st_1 => (bnd (f_Pa_program_L15 E S F 5000 1 0 st_1) (fun _ sx_2 => (if (coS sx_2) = 0 then (bnd (p_setValue sx_2 r_1 0) (fun _ st_5 => (bnd (p_close st_5 r_1) (fun _ st_6 => (some (.inr (0, st_6))))))) else (bnd (p_setValue sx_2 r_1 1) (fun _ st_7 => (bnd (p_close st_7 r_1) (fun _ st_8 => (some (.inr (0, st_8))))))))))))
set_option maxRecDepth 100000 in
set_option maxHeartbeats 4000000 in
theorem m_Pa_program (l : Launch) (hlt : l.stackTraces = false) (dC : Nat → ClassId) (dI : Nat → Nat → Nat) (cI cZ : ClassId) (sa rk hp h a1 a2 a3 a4 ht hq n1 n2 : Nat) (fr0 lo0 : Nat) (E : Int32 → Int32 → Int32 → ST → Rz) (S : Int32 → Int32 → ST → Rz) (F : Int32 → Int32 → ST → Rz) (hRE : ∀ (hc : Nat) (ad : AD) (st : ST), okSt st → ∀ (sz : Nat) (level depth inn : Int32), E level depth inn st ≠ none → cPv l y_Pa_expression c_Pa_expression 6 fr0 lo0 (dC, dI) cI cZ sa rk hp hc h a1 a2 a3 a4 ht hq n1 n2 ad st sz [.ref hp, .int level, .int depth, .int inn] (E level depth inn st)) (hRS : ∀ (hc : Nat) (ad : AD) (st : ST), okSt st → ∀ (sz : Nat) (depth first : Int32), S depth first st ≠ none → cPv l y_Pa_statement c_Pa_statement 4 fr0 lo0 (dC, dI) cI cZ sa rk hp hc h a1 a2 a3 a4 ht hq n1 n2 ad st sz [.ref hp, .int depth, .int first] (S depth first st)) (hRF : ∀ (hc : Nat) (ad : AD) (st : ST), okSt st → ∀ (sz : Nat) (form depth : Int32), F form depth st ≠ none → cPv l y_Pa_function c_Pa_function 10 fr0 lo0 (dC, dI) cI cZ sa rk hp hc h a1 a2 a3 a4 ht hq n1 n2 ad st sz [.ref hp, .int form, .int depth] (F form depth st)) (hc : Nat) (ad : AD) (st : ST) (hst : okSt st) (sz : Nat)  (hg : f_Pa_program E S F st ≠ none) : cPv l y_Pa_program c_Pa_program 5 (fr0 + 4) (lo0 + 323) (dC, dI) cI cZ sa rk hp hc h a1 a2 a3 a4 ht hq n1 n2 ad st sz [.ref hp] (f_Pa_program E S F st) := by
  refine vx_ofW (cc := c_Pa_program) (maxL := 5) (ret := none) (by decide) rfl ?_
  intro p e s m args below meth c s₁ B hml hnt hv
  obtain ⟨rfl, hsz, hP, hK, hD0, hC, hZ⟩ := hv
  have hx := B.exec
  have hb := B.bytes
  have hr := B.returns
  have hts0 := atoms_spec (ws := wy y_Pa_program c_Pa_program 5 none) B.pre
  have hts := htsL hts0
  have hown : s.vm.findClass R_Pa = some m.cls := findClass_of_methodNamed B.named
  have hlocks := B.notSynchronized
  subst hsz
  have hD := hD0.self (sz := s.heap.size)
  generalize hAe : va_A (wQ cI cZ hp hc h a1 a2 a3 a4 ht hq n1 n2 (ad, st)) s.heap.size = A at hD hZ ⊢
  have hA : ∀ q : Nat, s.heap.size ≤ q → A q := fun q h => by rw [← hAe]; exact Or.inr h
  have hS : va_S A s.heap s.heap [] := va_S.rf
  have hcl : 0 + bC st ≤ bC st := Nat.le_of_eq (Nat.zero_add _)
  have hsl : 0 + bS st ≤ bS st := Nat.le_of_eq (Nat.zero_add _)
  have hl := lv_entry ([.ref hp]) (n := 5) (Nat.le_of_ble_eq_true rfl)
  rw [lg_entry_eq]
  generalize (lg_sl ([.ref hp]) ++ List.replicate (5 - (lg_sl ([.ref hp])).length) Slot.unset).toArray = ls at hl ⊢
  have hl : lv_has ls 5 [(0, .ref hp)] := hl
  refine lv_aload_n hx hb d_Pa_program_0 rfl (lv_at hl 0 rfl) ?_
  refine va_get (D := (dC, dI)) (ci := 2) (v := .ref ht) (C := R_Pa) (T := T_Pa) (N := 7) hx hb hts u_Pa hown hK hP 0 rfl rfl 0 (by decide) (hts _ L_208) (fun _ h9 => h9) rfl d_Pa_program_1 ?_
  refine lv_iconst (v := 0) hx hb d_Pa_program_4 (by decide) ?_
  refine lv_iconst (v := 0) hx hb d_Pa_program_5 (by decide) ?_
  refine lv_iconst (v := 0) hx hb d_Pa_program_6 (by decide) ?_
  have hn_1 : (p_open st 0 0 0) ≠ none := (fun z => hg (by unfold f_Pa_program; rw [bnd_n z]))
  refine pT_i (g := (p_open st 0 0 0)) (st := st) (As := [.int 0, .int 0, .int 0]) (rest := []) ⟨hx, hb, hml, hown, hts0⟩ (m_Tr_open l dC dI cI cZ sa rk ht ad (sTr st) hst.2.1 _ 0 0 0 (p_open_c hn_1).1 (p_open_c hn_1).2.1) hP hD hK hS hA hC hZ L_416 L_417 L_418 L_85 L_419 ⟨rfl, k_Tr_open⟩ ⟨(by show _ ≤ fr0 + 4; omega), (by show _ ≤ lo0 + 323; omega)⟩ rfl rfl hl.1 (Nat.le_of_ble_eq_true rfl) d_Pa_program_7 rfl hcl hsl (p_open_c hn_1).2.2.1 (p_open_c hn_1).2.2.2 hst (t_open_ok 0 0 0 hst.2.1 (p_open_c hn_1).1 (p_open_c hn_1).2.1) (p_open_e hn_1) (fun r_1 ad_1 st_1 H locs w_1 ok_1 e1_1 e2_1 hP hD hS => ?_)
  have hcl := cl_next hcl e1_1
  have hsl := cl_next hsl e2_1
  refine lv_istore_n (lv' := [(1, .int r_1), (0, .ref hp)]) hx hb d_Pa_program_10 rfl hl (by decide) rfl (fun ls hl => ?_)
  refine lv_iconst (v := 1) hx hb d_Pa_program_11 (by decide) ?_
  refine lv_istore_n (lv' := [(2, .int 1), (1, .int r_1), (0, .ref hp)]) hx hb d_Pa_program_12 rfl hl (by decide) rfl (fun ls hl => ?_)
  refine lv_iconst (v := 0) hx hb d_Pa_program_13 (by decide) ?_
  refine lv_istore_n (lv' := [(3, .int 0), (2, .int 1), (1, .int r_1), (0, .ref hp)]) hx hb d_Pa_program_14 rfl hl (by decide) rfl (fun ls hl => ?_)
  obtain ⟨x_2, hx_2⟩ : ∃ z, f_Pa_program_L15 E S F 5000 1 0 st_1 = z := ⟨_, rfl⟩
  have hn_2 : x_2 ≠ none := (fun z => hg (by unfold f_Pa_program; rw [bnd_r w_1, bnd_n (hx_2.trans z)]))
  have hX_2 : ∀ q, x_2 = some (.inl q) → (f_Pa_program E S F st) = some (.inl q) := (fun q z => by unfold f_Pa_program; rw [bnd_r w_1, bnd_l (hx_2.trans z)])
  have lp_2 : ∀ (fu : Nat) (x2 x3 : Int32) (ax_2 : AD) (sx_2 : ST) (okx_2 : okSt sx_2) (H : Heap) (locs : List Loc) (ls : Array Slot) (cells slots : Nat), va_P (dC, dI) cls (wQ cI cZ hp hc h a1 a2 a3 a4 ht hq n1 n2 (ax_2, sx_2)) H → va_D A (wQ cI cZ hp hc h a1 a2 a3 a4 ht hq n1 n2 (ax_2, sx_2)) → va_S A s.heap H locs → lv_has ls 5 [(0, .ref hp), (1, .int r_1), (2, .int x2), (3, .int x3)] → cells + bC sx_2 ≤ bC st → slots + bS sx_2 ≤ bS st → x_2 = f_Pa_program_L15 E S F fu x2 x3 sx_2 → W p l e (headSpec (wy y_Pa_program c_Pa_program 5 none) { frames := (fr0 + 4), cells := bC st, slots := bS st, locals := (lo0 + 323) }).room s m [.ref hp].toArray below meth c H locs cells slots (vx_MQ below (va_Qv (poN (f_Pa_program E S F st) st 0) (wB (dC, dI) cI cZ A (wQ cI cZ hp hc h a1 a2 a3 a4 ht hq n1 n2)) A) (xP (dC, dI) cI cZ hp h a1 a2 a3 a4 ht hq n1 n2 (f_Pa_program E S F st) st A) [.ref hp].toArray s (mcO st (f_Pa_program E S F st)) (msO st (f_Pa_program E S F st)) A) (F0 m 15 ls []) := by
    intro fu
    induction fu with
    | zero => intro x2 x3 ax_2 sx_2 okx_2 H locs ls cells slots hP hD hS hl hcl hsl hL_2; exact absurd (hL_2.trans rfl) hn_2
    | succ fu_2 ih_2 =>
      intro x2 x3 ax_2 sx_2 okx_2 H locs ls cells slots hP hD hS hl hcl hsl hL_2
      rw [f_Pa_program_L15] at hL_2
      refine lv_iload_n hx hb d_Pa_program_15 rfl (lv_at hl 3 rfl) ?_
      refine lv_sipush (v := 1000) hx hb d_Pa_program_16 (by decide) ?_
      refine lv_icmp_gt (tgt := 115) hx hb d_Pa_program_19 (by decide) (fun c_3 => ?_) (fun c_3 => ?_)
      · rw [if_pos c_3] at hL_2
        have we_2 : f_Pa_program_L15 E S F 5000 1 0 st_1 = some (.inr (0, sx_2)) := hx_2.trans hL_2
        have hl := lv_sub hl (l' := [(0, .ref hp), (1, .int r_1)]) [0, 1] rfl
        refine lv_aload_n hx hb d_Pa_program_115 rfl (lv_at hl 0 rfl) ?_
        refine va_get (D := (dC, dI)) (ci := 2) (v := .ref ht) (C := R_Pa) (T := T_Pa) (N := 7) hx hb hts u_Pa hown hK hP 0 rfl rfl 0 (by decide) (hts _ L_208) (fun _ h9 => h9) rfl d_Pa_program_116 ?_
        refine lv_iload_n hx hb d_Pa_program_119 rfl (lv_at hl 1 rfl) ?_
        refine lv_aload_n hx hb d_Pa_program_120 rfl (lv_at hl 0 rfl) ?_
        refine va_get (D := (dC, dI)) (ci := 2) (v := .ref hc) (C := R_Pa) (T := T_Pa) (N := 7) hx hb hts u_Pa hown hK hP 0 rfl rfl 6 (by decide) (hts _ L_221) (fun x9 h9 => u_same (hts _ L_222) x9 h9) rfl d_Pa_program_121 ?_
        refine va_get (D := (dC, dI)) (ci := 0) (v := .int (coS sx_2)) (C := R_Co) (T := T_Co) (N := 5) hx hb hts u_Co hown hK hP 1 rfl rfl 2 (by decide) (hts _ L_174) (fun _ h9 => h9) rfl d_Pa_program_124 ?_
        refine lv_if_eq (tgt := 134) hx hb d_Pa_program_127 (by decide) (fun c_4 => ?_) (fun c_4 => ?_)
        · refine lv_iconst (v := 0) hx hb d_Pa_program_134 (by decide) ?_
          refine pT_v (g := (p_setValue sx_2 r_1 0)) (st := sx_2) (As := [.int r_1, .int 0]) (rest := []) ⟨hx, hb, hml, hown, hts0⟩ (m_Tr_setValue l dC dI cI cZ sa rk ht ax_2 (sTr sx_2) okx_2.2.1 _ r_1 0) hP hD hK hS hA hC hZ L_488 L_489 L_490 L_85 L_491 ⟨rfl, k_Tr_setValue⟩ ⟨(by show _ ≤ fr0 + 4; omega), (by show _ ≤ lo0 + 323; omega)⟩ rfl rfl hl.1 (Nat.le_of_ble_eq_true rfl) d_Pa_program_135 rfl hcl hsl (Nat.zero_le _) (Nat.zero_le _) okx_2 (t_setValue_ok r_1 0 okx_2.2.1) rfl (fun ad_5 st_5 H locs w_5 ok_5 e1_5 e2_5 hP hD hS => ?_)
          have hcl := cl_next hcl e1_5
          have hsl := cl_next hsl e2_5
          refine lv_aload_n hx hb d_Pa_program_138 rfl (lv_at hl 0 rfl) ?_
          refine va_get (D := (dC, dI)) (ci := 2) (v := .ref ht) (C := R_Pa) (T := T_Pa) (N := 7) hx hb hts u_Pa hown hK hP 0 rfl rfl 0 (by decide) (hts _ L_208) (fun _ h9 => h9) rfl d_Pa_program_139 ?_
          refine lv_iload_n hx hb d_Pa_program_142 rfl (lv_at hl 1 rfl) ?_
          refine pT_v (g := (p_close st_5 r_1)) (st := st_5) (As := [.int r_1]) (rest := []) ⟨hx, hb, hml, hown, hts0⟩ (m_Tr_close l dC dI cI cZ sa rk ht ad_5 (sTr st_5) ok_5.2.1 _ r_1) hP hD hK hS hA hC hZ L_582 L_583 L_584 L_85 L_585 ⟨rfl, k_Tr_close⟩ ⟨(by show _ ≤ fr0 + 4; omega), (by show _ ≤ lo0 + 323; omega)⟩ rfl rfl hl.1 (Nat.le_of_ble_eq_true rfl) d_Pa_program_143 rfl hcl hsl (Nat.zero_le _) (Nat.zero_le _) ok_5 (t_close_ok r_1 ok_5.2.1) rfl (fun ad_6 st_6 H locs w_6 ok_6 e1_6 e2_6 hP hD hS => ?_)
          have hcl := cl_next hcl e1_6
          have hsl := cl_next hsl e2_6
          exact mx_vret (stF := st_6) hx hb hr hlocks hK hP hD hS hcl hsl (by unfold f_Pa_program; rw [bnd_r w_1, bnd_r we_2, if_pos c_4, bnd_r w_5, bnd_r w_6]) ok_6 d_Pa_program_146
        · refine lv_iconst (v := 1) hx hb d_Pa_program_130 (by decide) ?_
          refine lv_goto (tgt := 135) hx hb d_Pa_program_131 (by decide) ?_
          refine pT_v (g := (p_setValue sx_2 r_1 1)) (st := sx_2) (As := [.int r_1, .int 1]) (rest := []) ⟨hx, hb, hml, hown, hts0⟩ (m_Tr_setValue l dC dI cI cZ sa rk ht ax_2 (sTr sx_2) okx_2.2.1 _ r_1 1) hP hD hK hS hA hC hZ L_488 L_489 L_490 L_85 L_491 ⟨rfl, k_Tr_setValue⟩ ⟨(by show _ ≤ fr0 + 4; omega), (by show _ ≤ lo0 + 323; omega)⟩ rfl rfl hl.1 (Nat.le_of_ble_eq_true rfl) d_Pa_program_135 rfl hcl hsl (Nat.zero_le _) (Nat.zero_le _) okx_2 (t_setValue_ok r_1 1 okx_2.2.1) rfl (fun ad_7 st_7 H locs w_7 ok_7 e1_7 e2_7 hP hD hS => ?_)
          have hcl := cl_next hcl e1_7
          have hsl := cl_next hsl e2_7
          refine lv_aload_n hx hb d_Pa_program_138 rfl (lv_at hl 0 rfl) ?_
          refine va_get (D := (dC, dI)) (ci := 2) (v := .ref ht) (C := R_Pa) (T := T_Pa) (N := 7) hx hb hts u_Pa hown hK hP 0 rfl rfl 0 (by decide) (hts _ L_208) (fun _ h9 => h9) rfl d_Pa_program_139 ?_
          refine lv_iload_n hx hb d_Pa_program_142 rfl (lv_at hl 1 rfl) ?_
          refine pT_v (g := (p_close st_7 r_1)) (st := st_7) (As := [.int r_1]) (rest := []) ⟨hx, hb, hml, hown, hts0⟩ (m_Tr_close l dC dI cI cZ sa rk ht ad_7 (sTr st_7) ok_7.2.1 _ r_1) hP hD hK hS hA hC hZ L_582 L_583 L_584 L_85 L_585 ⟨rfl, k_Tr_close⟩ ⟨(by show _ ≤ fr0 + 4; omega), (by show _ ≤ lo0 + 323; omega)⟩ rfl rfl hl.1 (Nat.le_of_ble_eq_true rfl) d_Pa_program_143 rfl hcl hsl (Nat.zero_le _) (Nat.zero_le _) ok_7 (t_close_ok r_1 ok_7.2.1) rfl (fun ad_8 st_8 H locs w_8 ok_8 e1_8 e2_8 hP hD hS => ?_)
          have hcl := cl_next hcl e1_8
          have hsl := cl_next hsl e2_8
          exact mx_vret (stF := st_8) hx hb hr hlocks hK hP hD hS hcl hsl (by unfold f_Pa_program; rw [bnd_r w_1, bnd_r we_2, if_neg c_4, bnd_r w_7, bnd_r w_8]) ok_8 d_Pa_program_146
      · rw [if_neg c_3] at hL_2
        refine lv_aload_n hx hb d_Pa_program_22 rfl (lv_at hl 0 rfl) ?_
        refine rd_U (xm := ⟨"SyntaxTree$Parser", "atEnd", "()Z"⟩) (owner := R_Cu) (v := (f_Cu_atEnd sx_2)) (As := []) (rest := []) ⟨hx, hb, hml, hown, hts0⟩ (m_Cu_atEnd l dC dI cI cZ hp hc h a1 a2 a3 a4 ht ax_2.1 ax_2.2.1 ax_2.2.2.1 ax_2.2.2.2 hq n1 n2 sx_2 okx_2 ) hP hK [0, 1, 2, 3, 4, 5, 6, 7, 8, 9, 10, 11, 12, 13, 14] rfl [0, 1] rfl 0 2 rfl rfl L_429 L_430 L_432 L_433 L_86 L_434 rfl k_Cu_atEnd ⟨(by show _ ≤ fr0 + 4; omega), (by show _ ≤ lo0 + 323; omega)⟩ hl.1 ⟨Nat.le_trans (Nat.le_add_right _ _) hcl, Nat.le_trans (Nat.le_add_right _ _) hsl⟩ (Nat.le_of_ble_eq_true rfl) d_Pa_program_23 rfl ?_
        refine lv_if_ne (tgt := 115) hx hb d_Pa_program_26 (by decide) (fun c_9 => ?_) (fun c_9 => ?_)
        · rw [if_neg c_9] at hL_2
          have we_2 : f_Pa_program_L15 E S F 5000 1 0 st_1 = some (.inr (0, sx_2)) := hx_2.trans hL_2
          have hl := lv_sub hl (l' := [(0, .ref hp), (1, .int r_1)]) [0, 1] rfl
          refine lv_aload_n hx hb d_Pa_program_115 rfl (lv_at hl 0 rfl) ?_
          refine va_get (D := (dC, dI)) (ci := 2) (v := .ref ht) (C := R_Pa) (T := T_Pa) (N := 7) hx hb hts u_Pa hown hK hP 0 rfl rfl 0 (by decide) (hts _ L_208) (fun _ h9 => h9) rfl d_Pa_program_116 ?_
          refine lv_iload_n hx hb d_Pa_program_119 rfl (lv_at hl 1 rfl) ?_
          refine lv_aload_n hx hb d_Pa_program_120 rfl (lv_at hl 0 rfl) ?_
          refine va_get (D := (dC, dI)) (ci := 2) (v := .ref hc) (C := R_Pa) (T := T_Pa) (N := 7) hx hb hts u_Pa hown hK hP 0 rfl rfl 6 (by decide) (hts _ L_221) (fun x9 h9 => u_same (hts _ L_222) x9 h9) rfl d_Pa_program_121 ?_
          refine va_get (D := (dC, dI)) (ci := 0) (v := .int (coS sx_2)) (C := R_Co) (T := T_Co) (N := 5) hx hb hts u_Co hown hK hP 1 rfl rfl 2 (by decide) (hts _ L_174) (fun _ h9 => h9) rfl d_Pa_program_124 ?_
          refine lv_if_eq (tgt := 134) hx hb d_Pa_program_127 (by decide) (fun c_10 => ?_) (fun c_10 => ?_)
          · refine lv_iconst (v := 0) hx hb d_Pa_program_134 (by decide) ?_
            refine pT_v (g := (p_setValue sx_2 r_1 0)) (st := sx_2) (As := [.int r_1, .int 0]) (rest := []) ⟨hx, hb, hml, hown, hts0⟩ (m_Tr_setValue l dC dI cI cZ sa rk ht ax_2 (sTr sx_2) okx_2.2.1 _ r_1 0) hP hD hK hS hA hC hZ L_488 L_489 L_490 L_85 L_491 ⟨rfl, k_Tr_setValue⟩ ⟨(by show _ ≤ fr0 + 4; omega), (by show _ ≤ lo0 + 323; omega)⟩ rfl rfl hl.1 (Nat.le_of_ble_eq_true rfl) d_Pa_program_135 rfl hcl hsl (Nat.zero_le _) (Nat.zero_le _) okx_2 (t_setValue_ok r_1 0 okx_2.2.1) rfl (fun ad_11 st_11 H locs w_11 ok_11 e1_11 e2_11 hP hD hS => ?_)
            have hcl := cl_next hcl e1_11
            have hsl := cl_next hsl e2_11
            refine lv_aload_n hx hb d_Pa_program_138 rfl (lv_at hl 0 rfl) ?_
            refine va_get (D := (dC, dI)) (ci := 2) (v := .ref ht) (C := R_Pa) (T := T_Pa) (N := 7) hx hb hts u_Pa hown hK hP 0 rfl rfl 0 (by decide) (hts _ L_208) (fun _ h9 => h9) rfl d_Pa_program_139 ?_
            refine lv_iload_n hx hb d_Pa_program_142 rfl (lv_at hl 1 rfl) ?_
            refine pT_v (g := (p_close st_11 r_1)) (st := st_11) (As := [.int r_1]) (rest := []) ⟨hx, hb, hml, hown, hts0⟩ (m_Tr_close l dC dI cI cZ sa rk ht ad_11 (sTr st_11) ok_11.2.1 _ r_1) hP hD hK hS hA hC hZ L_582 L_583 L_584 L_85 L_585 ⟨rfl, k_Tr_close⟩ ⟨(by show _ ≤ fr0 + 4; omega), (by show _ ≤ lo0 + 323; omega)⟩ rfl rfl hl.1 (Nat.le_of_ble_eq_true rfl) d_Pa_program_143 rfl hcl hsl (Nat.zero_le _) (Nat.zero_le _) ok_11 (t_close_ok r_1 ok_11.2.1) rfl (fun ad_12 st_12 H locs w_12 ok_12 e1_12 e2_12 hP hD hS => ?_)
            have hcl := cl_next hcl e1_12
            have hsl := cl_next hsl e2_12
            exact mx_vret (stF := st_12) hx hb hr hlocks hK hP hD hS hcl hsl (by unfold f_Pa_program; rw [bnd_r w_1, bnd_r we_2, if_pos c_10, bnd_r w_11, bnd_r w_12]) ok_12 d_Pa_program_146
          · refine lv_iconst (v := 1) hx hb d_Pa_program_130 (by decide) ?_
            refine lv_goto (tgt := 135) hx hb d_Pa_program_131 (by decide) ?_
            refine pT_v (g := (p_setValue sx_2 r_1 1)) (st := sx_2) (As := [.int r_1, .int 1]) (rest := []) ⟨hx, hb, hml, hown, hts0⟩ (m_Tr_setValue l dC dI cI cZ sa rk ht ax_2 (sTr sx_2) okx_2.2.1 _ r_1 1) hP hD hK hS hA hC hZ L_488 L_489 L_490 L_85 L_491 ⟨rfl, k_Tr_setValue⟩ ⟨(by show _ ≤ fr0 + 4; omega), (by show _ ≤ lo0 + 323; omega)⟩ rfl rfl hl.1 (Nat.le_of_ble_eq_true rfl) d_Pa_program_135 rfl hcl hsl (Nat.zero_le _) (Nat.zero_le _) okx_2 (t_setValue_ok r_1 1 okx_2.2.1) rfl (fun ad_13 st_13 H locs w_13 ok_13 e1_13 e2_13 hP hD hS => ?_)
            have hcl := cl_next hcl e1_13
            have hsl := cl_next hsl e2_13
            refine lv_aload_n hx hb d_Pa_program_138 rfl (lv_at hl 0 rfl) ?_
            refine va_get (D := (dC, dI)) (ci := 2) (v := .ref ht) (C := R_Pa) (T := T_Pa) (N := 7) hx hb hts u_Pa hown hK hP 0 rfl rfl 0 (by decide) (hts _ L_208) (fun _ h9 => h9) rfl d_Pa_program_139 ?_
            refine lv_iload_n hx hb d_Pa_program_142 rfl (lv_at hl 1 rfl) ?_
            refine pT_v (g := (p_close st_13 r_1)) (st := st_13) (As := [.int r_1]) (rest := []) ⟨hx, hb, hml, hown, hts0⟩ (m_Tr_close l dC dI cI cZ sa rk ht ad_13 (sTr st_13) ok_13.2.1 _ r_1) hP hD hK hS hA hC hZ L_582 L_583 L_584 L_85 L_585 ⟨rfl, k_Tr_close⟩ ⟨(by show _ ≤ fr0 + 4; omega), (by show _ ≤ lo0 + 323; omega)⟩ rfl rfl hl.1 (Nat.le_of_ble_eq_true rfl) d_Pa_program_143 rfl hcl hsl (Nat.zero_le _) (Nat.zero_le _) ok_13 (t_close_ok r_1 ok_13.2.1) rfl (fun ad_14 st_14 H locs w_14 ok_14 e1_14 e2_14 hP hD hS => ?_)
            have hcl := cl_next hcl e1_14
            have hsl := cl_next hsl e2_14
            exact mx_vret (stF := st_14) hx hb hr hlocks hK hP hD hS hcl hsl (by unfold f_Pa_program; rw [bnd_r w_1, bnd_r we_2, if_neg c_10, bnd_r w_13, bnd_r w_14]) ok_14 d_Pa_program_146
        · rw [if_pos c_9] at hL_2
          refine lv_aload_n hx hb d_Pa_program_29 rfl (lv_at hl 0 rfl) ?_
          refine va_get (D := (dC, dI)) (ci := 2) (v := .int (sAt sx_2)) (C := R_Pa) (T := T_Pa) (N := 7) hx hb hts u_Pa hown hK hP 0 rfl rfl 4 (by decide) (hts _ L_215) (fun x9 h9 => u_same (hts _ L_216) x9 h9) rfl d_Pa_program_30 ?_
          refine lv_istore (lv' := [(4, .int (sAt sx_2)), (0, .ref hp), (1, .int r_1), (2, .int x2), (3, .int x3)]) hx hb d_Pa_program_33 hl (by decide) rfl (fun ls hl => ?_)
          refine lv_aload_n hx hb d_Pa_program_35 rfl (lv_at hl 1 rfl) ?_
          refine lv_bipush (v := 11) hx hb d_Pa_program_36 (by decide) ?_
          refine rd_U (xm := ⟨"SyntaxTree$Parser", "atWord", "(I)Z"⟩) (owner := R_Cu) (v := (f_Cu_atWord sx_2 11)) (As := [.int 11]) (rest := []) ⟨hx, hb, hml, hown, hts0⟩ (m_Cu_atWord l dC dI cI cZ hp hc h a1 a2 a3 a4 ht ax_2.1 ax_2.2.1 ax_2.2.2.1 ax_2.2.2.2 hq n1 n2 sx_2 okx_2 11) hP hK [0, 1, 2, 3, 4, 5, 6, 7, 8, 9, 10, 11, 12, 13, 14] rfl [0, 1] rfl 0 2 rfl rfl L_439 L_440 L_442 L_443 L_86 L_444 rfl k_Cu_atWord ⟨(by show _ ≤ fr0 + 4; omega), (by show _ ≤ lo0 + 323; omega)⟩ hl.1 ⟨Nat.le_trans (Nat.le_add_right _ _) hcl, Nat.le_trans (Nat.le_add_right _ _) hsl⟩ (Nat.le_of_ble_eq_true rfl) d_Pa_program_38 rfl ?_
          refine lv_if_eq (tgt := 54) hx hb d_Pa_program_41 (by decide) (fun c_15 => ?_) (fun c_15 => ?_)
          · rw [if_pos c_15] at hL_2
            refine lv_aload_n hx hb d_Pa_program_54 rfl (lv_at hl 1 rfl) ?_
            refine lv_iconst (v := 1) hx hb d_Pa_program_55 (by decide) ?_
            refine lv_aload_n hx hb d_Pa_program_56 rfl (lv_at hl 1 rfl) ?_
            refine va_get (D := (dC, dI)) (ci := 2) (v := .ref hq) (C := R_Pa) (T := T_Pa) (N := 7) hx hb hts u_Pa hown hK hP 0 rfl rfl 1 (by decide) (hts _ L_209) (fun _ h9 => h9) rfl d_Pa_program_57 ?_
            refine rd_V (v := (f_La_count (sLb sx_2))) (As := []) (rest := [.int 1, .ref hp]) ⟨hx, hb, hml, hown, hts0⟩ (m_La_count l dC dI cI cZ hq n1 n2 (sLb sx_2) okx_2.2.2.1 ) hP hK [12, 13, 14] rfl [0, 1] rfl 0 1 rfl rfl L_552 L_553 L_554 L_89 L_555 ⟨rfl, k_La_count⟩ ⟨(by show _ ≤ fr0 + 4; omega), (by show _ ≤ lo0 + 323; omega)⟩ hl.1 ⟨Nat.le_trans (Nat.le_add_right _ _) hcl, Nat.le_trans (Nat.le_add_right _ _) hsl⟩ (Nat.le_of_ble_eq_true rfl) d_Pa_program_60 rfl ?_
            refine mx_Vv (As := [.int 1, .int (f_La_count (sLb sx_2))]) (rest := []) ⟨hx, hb, hml, hown, hts0⟩ (hRS hc ax_2 sx_2 okx_2 _ 1 (f_La_count (sLb sx_2)) (fun z => hn_2 (hL_2.trans (bnd_n z)))) hP hD hK hS hA hC hZ hnt hlocks L_560 L_562 L_10 L_87 L_563 k_Pa_statement ⟨(by show _ ≤ fr0 + 4; omega), (by show _ ≤ lo0 + 323; omega)⟩ rfl rfl hl.1 (Nat.le_of_ble_eq_true rfl) d_Pa_program_63 rfl (fun q z => hX_2 q (hL_2.trans (bnd_l z))) hcl hsl (fun ad_16 st_16 H locs w_16 ok_16 e1_16 e2_16 hP hD hS => ?_)
            have hcl := cl_next hcl e1_16
            have hsl := cl_next hsl e2_16
            rw [bnd_r w_16] at hL_2
            refine lv_iload_n hx hb d_Pa_program_66 rfl (lv_at hl 3 rfl) ?_
            refine lv_if_eq (tgt := 83) hx hb d_Pa_program_67 (by decide) (fun c_17 => ?_) (fun c_17 => ?_)
            · rw [if_pos c_17] at hL_2
              refine lv_iconst (v := 0) hx hb d_Pa_program_83 (by decide) ?_
              refine lv_istore_n (lv' := [(2, .int 0), (4, .int (sAt sx_2)), (0, .ref hp), (1, .int r_1), (3, .int x3)]) hx hb d_Pa_program_84 rfl hl (by decide) rfl (fun ls hl => ?_)
              refine lv_iload_n hx hb d_Pa_program_85 rfl (lv_at hl 0 rfl) ?_
              refine lv_if_eq (tgt := 109) hx hb d_Pa_program_86 (by decide) (fun _ => ?_) (fun q9 => absurd q9 (by decide))
              refine lv_iinc (v := (x3 + 1)) (lv' := [(3, .int (x3 + 1)), (2, .int 0), (4, .int (sAt sx_2)), (0, .ref hp), (1, .int r_1)]) hx hb d_Pa_program_109 hl (k := 4) rfl rfl (by decide) rfl (fun ls hl => ?_)
              refine lv_goto (tgt := 15) hx hb d_Pa_program_112 (by decide) ?_
              exact ih_2 0 (x3 + 1) ad_16 st_16 ok_16 _ _ ls _ _ hP hD hS (lv_sub hl [3, 4, 1, 0] rfl) hcl hsl hL_2
            · rw [if_neg c_17] at hL_2
              refine lv_aload_n hx hb d_Pa_program_70 rfl (lv_at hl 1 rfl) ?_
              refine lv_iload hx hb d_Pa_program_71 (lv_at hl 0 rfl) ?_
              refine rd_U (xm := ⟨"SyntaxTree$Parser", "wasTextAlone", "(I)Z"⟩) (owner := R_Cu) (v := (f_Cu_wasTextAlone st_16 (sAt sx_2))) (As := [.int (sAt sx_2)]) (rest := []) ⟨hx, hb, hml, hown, hts0⟩ (m_Cu_wasTextAlone l dC dI cI cZ hp hc h a1 a2 a3 a4 ht ad_16.1 ad_16.2.1 ad_16.2.2.1 ad_16.2.2.2 hq n1 n2 st_16 ok_16 (sAt sx_2)) hP hK [0, 1, 2, 3, 4, 5, 6, 7, 8, 9, 10, 11, 12, 13, 14] rfl [0, 1] rfl 0 2 rfl rfl L_843 L_844 L_846 L_847 L_86 L_848 rfl k_Cu_wasTextAlone ⟨(by show _ ≤ fr0 + 4; omega), (by show _ ≤ lo0 + 323; omega)⟩ hl.1 ⟨Nat.le_trans (Nat.le_add_right _ _) hcl, Nat.le_trans (Nat.le_add_right _ _) hsl⟩ (Nat.le_of_ble_eq_true rfl) d_Pa_program_73 rfl ?_
              refine lv_if_eq (tgt := 83) hx hb d_Pa_program_76 (by decide) (fun c_18 => ?_) (fun c_18 => ?_)
              · rw [if_pos c_18] at hL_2
                refine lv_iconst (v := 0) hx hb d_Pa_program_83 (by decide) ?_
                refine lv_istore_n (lv' := [(2, .int 0), (4, .int (sAt sx_2)), (0, .ref hp), (1, .int r_1), (3, .int x3)]) hx hb d_Pa_program_84 rfl hl (by decide) rfl (fun ls hl => ?_)
                refine lv_iload_n hx hb d_Pa_program_85 rfl (lv_at hl 0 rfl) ?_
                refine lv_if_eq (tgt := 109) hx hb d_Pa_program_86 (by decide) (fun _ => ?_) (fun q9 => absurd q9 (by decide))
                refine lv_iinc (v := (x3 + 1)) (lv' := [(3, .int (x3 + 1)), (2, .int 0), (4, .int (sAt sx_2)), (0, .ref hp), (1, .int r_1)]) hx hb d_Pa_program_109 hl (k := 4) rfl rfl (by decide) rfl (fun ls hl => ?_)
                refine lv_goto (tgt := 15) hx hb d_Pa_program_112 (by decide) ?_
                exact ih_2 0 (x3 + 1) ad_16 st_16 ok_16 _ _ ls _ _ hP hD hS (lv_sub hl [3, 4, 1, 0] rfl) hcl hsl hL_2
              · rw [if_neg c_18] at hL_2
                refine lv_iconst (v := 1) hx hb d_Pa_program_79 (by decide) ?_
                refine lv_goto (tgt := 84) hx hb d_Pa_program_80 (by decide) ?_
                refine lv_istore_n (lv' := [(2, .int 1), (4, .int (sAt sx_2)), (0, .ref hp), (1, .int r_1), (3, .int x3)]) hx hb d_Pa_program_84 rfl hl (by decide) rfl (fun ls hl => ?_)
                refine lv_iload_n hx hb d_Pa_program_85 rfl (lv_at hl 0 rfl) ?_
                refine lv_if_eq (tgt := 109) hx hb d_Pa_program_86 (by decide) (fun q9 => absurd q9 (by decide)) (fun _ => ?_)
                refine lv_aload_n hx hb d_Pa_program_89 rfl (lv_at hl 2 rfl) ?_
                refine va_get (D := (dC, dI)) (ci := 2) (v := .ref h) (C := R_Pa) (T := T_Pa) (N := 7) hx hb hts u_Pa hown hK hP 0 rfl rfl 3 (by decide) (hts _ L_212) (fun x9 h9 => u_same (hts _ L_213) x9 h9) rfl d_Pa_program_90 ?_
                refine lv_iload hx hb d_Pa_program_93 (lv_at hl 1 rfl) ?_
                refine rd_V (v := (f_Tk_asksForStrict (sTk st_16) (sAt sx_2))) (As := [.int (sAt sx_2)]) (rest := []) ⟨hx, hb, hml, hown, hts0⟩ (m_Tk_asksForStrict l dC dI cI cZ h a1 a2 a3 a4 (sTk st_16) ok_16.1 (sAt sx_2)) hP hK [2, 3, 4, 5, 6] rfl [0, 1] rfl 0 3 rfl rfl L_849 L_850 L_851 L_84 L_852 ⟨rfl, k_Tk_asksForStrict⟩ ⟨(by show _ ≤ fr0 + 4; omega), (by show _ ≤ lo0 + 323; omega)⟩ hl.1 ⟨Nat.le_trans (Nat.le_add_right _ _) hcl, Nat.le_trans (Nat.le_add_right _ _) hsl⟩ (Nat.le_of_ble_eq_true rfl) d_Pa_program_95 rfl ?_
                refine lv_if_eq (tgt := 109) hx hb d_Pa_program_98 (by decide) (fun c_19 => ?_) (fun c_19 => ?_)
                · rw [if_pos c_19] at hL_2
                  refine lv_iinc (v := (x3 + 1)) (lv' := [(3, .int (x3 + 1)), (2, .int 1), (4, .int (sAt sx_2)), (0, .ref hp), (1, .int r_1)]) hx hb d_Pa_program_109 hl (k := 4) rfl rfl (by decide) rfl (fun ls hl => ?_)
                  refine lv_goto (tgt := 15) hx hb d_Pa_program_112 (by decide) ?_
                  exact ih_2 1 (x3 + 1) ad_16 st_16 ok_16 _ _ ls _ _ hP hD hS (lv_sub hl [3, 4, 1, 0] rfl) hcl hsl hL_2
                · rw [if_neg c_19] at hL_2
                  refine lv_aload_n hx hb d_Pa_program_101 rfl (lv_at hl 2 rfl) ?_
                  refine va_get (D := (dC, dI)) (ci := 2) (v := .ref hc) (C := R_Pa) (T := T_Pa) (N := 7) hx hb hts u_Pa hown hK hP 0 rfl rfl 6 (by decide) (hts _ L_221) (fun x9 h9 => u_same (hts _ L_222) x9 h9) rfl d_Pa_program_102 ?_
                  refine lv_iconst (v := 1) hx hb d_Pa_program_105 (by decide) ?_
                  refine va_put (D := (dC, dI)) (ci := 0) (v := .int 1) (ty := .boolean) (C := R_Co) (T := T_Co) (N := 5) hx hb hts u_Co ty_Co tk_Co nm_Co hown hK hP hD hS 1 rfl rfl 2 (by decide) (hts _ L_174) (fun _ h9 => h9) rfl (by decide +kernel) rfl rfl (Nat.le_of_ble_eq_true rfl) d_Pa_program_106 (fun H locs hP hD hS => ?_)
                  have hP : va_P (dC, dI) cls (wQ cI cZ hp hc h a1 a2 a3 a4 ht hq n1 n2 (ad_16, (setCo st_16 ((coF st_16), (coL st_16), 1, (coP st_16), (coW st_16))))) H := hP
                  have hD : va_D A (wQ cI cZ hp hc h a1 a2 a3 a4 ht hq n1 n2 (ad_16, (setCo st_16 ((coF st_16), (coL st_16), 1, (coP st_16), (coW st_16))))) := hD
                  refine lv_iinc (v := (x3 + 1)) (lv' := [(3, .int (x3 + 1)), (2, .int 1), (4, .int (sAt sx_2)), (0, .ref hp), (1, .int r_1)]) hx hb d_Pa_program_109 hl (k := 4) rfl rfl (by decide) rfl (fun ls hl => ?_)
                  refine lv_goto (tgt := 15) hx hb d_Pa_program_112 (by decide) ?_
                  exact ih_2 1 (x3 + 1) ad_16 (setCo st_16 ((coF st_16), (coL st_16), 1, (coP st_16), (coW st_16))) (show okSt (setCo st_16 ((coF st_16), (coL st_16), 1, (coP st_16), (coW st_16))) from ⟨ok_16.1, ok_16.2.1, ok_16.2.2.1, (Or.inr rfl)⟩) _ _ ls _ _ hP hD hS (lv_sub hl [3, 4, 1, 0] rfl) hcl hsl hL_2
          · rw [if_neg c_15] at hL_2
            refine lv_aload_n hx hb d_Pa_program_44 rfl (lv_at hl 1 rfl) ?_
            refine lv_bipush (v := 24) hx hb d_Pa_program_45 (by decide) ?_
            refine lv_iconst (v := 1) hx hb d_Pa_program_47 (by decide) ?_
            refine mx_Vv (As := [.int 24, .int 1]) (rest := []) ⟨hx, hb, hml, hown, hts0⟩ (hRF hc ax_2 sx_2 okx_2 _ 24 1 (fun z => hn_2 (hL_2.trans (bnd_n z)))) hP hD hK hS hA hC hZ hnt hlocks L_449 L_451 L_5 L_87 L_452 k_Pa_function ⟨(by show _ ≤ fr0 + 4; omega), (by show _ ≤ lo0 + 323; omega)⟩ rfl rfl hl.1 (Nat.le_of_ble_eq_true rfl) d_Pa_program_48 rfl (fun q z => hX_2 q (hL_2.trans (bnd_l z))) hcl hsl (fun ad_20 st_20 H locs w_20 ok_20 e1_20 e2_20 hP hD hS => ?_)
            have hcl := cl_next hcl e1_20
            have hsl := cl_next hsl e2_20
            rw [bnd_r w_20] at hL_2
            refine lv_goto (tgt := 66) hx hb d_Pa_program_51 (by decide) ?_
            refine lv_iload_n hx hb d_Pa_program_66 rfl (lv_at hl 3 rfl) ?_
            refine lv_if_eq (tgt := 83) hx hb d_Pa_program_67 (by decide) (fun c_21 => ?_) (fun c_21 => ?_)
            · rw [if_pos c_21] at hL_2
              refine lv_iconst (v := 0) hx hb d_Pa_program_83 (by decide) ?_
              refine lv_istore_n (lv' := [(2, .int 0), (4, .int (sAt sx_2)), (0, .ref hp), (1, .int r_1), (3, .int x3)]) hx hb d_Pa_program_84 rfl hl (by decide) rfl (fun ls hl => ?_)
              refine lv_iload_n hx hb d_Pa_program_85 rfl (lv_at hl 0 rfl) ?_
              refine lv_if_eq (tgt := 109) hx hb d_Pa_program_86 (by decide) (fun _ => ?_) (fun q9 => absurd q9 (by decide))
              refine lv_iinc (v := (x3 + 1)) (lv' := [(3, .int (x3 + 1)), (2, .int 0), (4, .int (sAt sx_2)), (0, .ref hp), (1, .int r_1)]) hx hb d_Pa_program_109 hl (k := 4) rfl rfl (by decide) rfl (fun ls hl => ?_)
              refine lv_goto (tgt := 15) hx hb d_Pa_program_112 (by decide) ?_
              exact ih_2 0 (x3 + 1) ad_20 st_20 ok_20 _ _ ls _ _ hP hD hS (lv_sub hl [3, 4, 1, 0] rfl) hcl hsl hL_2
            · rw [if_neg c_21] at hL_2
              refine lv_aload_n hx hb d_Pa_program_70 rfl (lv_at hl 1 rfl) ?_
              refine lv_iload hx hb d_Pa_program_71 (lv_at hl 0 rfl) ?_
              refine rd_U (xm := ⟨"SyntaxTree$Parser", "wasTextAlone", "(I)Z"⟩) (owner := R_Cu) (v := (f_Cu_wasTextAlone st_20 (sAt sx_2))) (As := [.int (sAt sx_2)]) (rest := []) ⟨hx, hb, hml, hown, hts0⟩ (m_Cu_wasTextAlone l dC dI cI cZ hp hc h a1 a2 a3 a4 ht ad_20.1 ad_20.2.1 ad_20.2.2.1 ad_20.2.2.2 hq n1 n2 st_20 ok_20 (sAt sx_2)) hP hK [0, 1, 2, 3, 4, 5, 6, 7, 8, 9, 10, 11, 12, 13, 14] rfl [0, 1] rfl 0 2 rfl rfl L_843 L_844 L_846 L_847 L_86 L_848 rfl k_Cu_wasTextAlone ⟨(by show _ ≤ fr0 + 4; omega), (by show _ ≤ lo0 + 323; omega)⟩ hl.1 ⟨Nat.le_trans (Nat.le_add_right _ _) hcl, Nat.le_trans (Nat.le_add_right _ _) hsl⟩ (Nat.le_of_ble_eq_true rfl) d_Pa_program_73 rfl ?_
              refine lv_if_eq (tgt := 83) hx hb d_Pa_program_76 (by decide) (fun c_22 => ?_) (fun c_22 => ?_)
              · rw [if_pos c_22] at hL_2
                refine lv_iconst (v := 0) hx hb d_Pa_program_83 (by decide) ?_
                refine lv_istore_n (lv' := [(2, .int 0), (4, .int (sAt sx_2)), (0, .ref hp), (1, .int r_1), (3, .int x3)]) hx hb d_Pa_program_84 rfl hl (by decide) rfl (fun ls hl => ?_)
                refine lv_iload_n hx hb d_Pa_program_85 rfl (lv_at hl 0 rfl) ?_
                refine lv_if_eq (tgt := 109) hx hb d_Pa_program_86 (by decide) (fun _ => ?_) (fun q9 => absurd q9 (by decide))
                refine lv_iinc (v := (x3 + 1)) (lv' := [(3, .int (x3 + 1)), (2, .int 0), (4, .int (sAt sx_2)), (0, .ref hp), (1, .int r_1)]) hx hb d_Pa_program_109 hl (k := 4) rfl rfl (by decide) rfl (fun ls hl => ?_)
                refine lv_goto (tgt := 15) hx hb d_Pa_program_112 (by decide) ?_
                exact ih_2 0 (x3 + 1) ad_20 st_20 ok_20 _ _ ls _ _ hP hD hS (lv_sub hl [3, 4, 1, 0] rfl) hcl hsl hL_2
              · rw [if_neg c_22] at hL_2
                refine lv_iconst (v := 1) hx hb d_Pa_program_79 (by decide) ?_
                refine lv_goto (tgt := 84) hx hb d_Pa_program_80 (by decide) ?_
                refine lv_istore_n (lv' := [(2, .int 1), (4, .int (sAt sx_2)), (0, .ref hp), (1, .int r_1), (3, .int x3)]) hx hb d_Pa_program_84 rfl hl (by decide) rfl (fun ls hl => ?_)
                refine lv_iload_n hx hb d_Pa_program_85 rfl (lv_at hl 0 rfl) ?_
                refine lv_if_eq (tgt := 109) hx hb d_Pa_program_86 (by decide) (fun q9 => absurd q9 (by decide)) (fun _ => ?_)
                refine lv_aload_n hx hb d_Pa_program_89 rfl (lv_at hl 2 rfl) ?_
                refine va_get (D := (dC, dI)) (ci := 2) (v := .ref h) (C := R_Pa) (T := T_Pa) (N := 7) hx hb hts u_Pa hown hK hP 0 rfl rfl 3 (by decide) (hts _ L_212) (fun x9 h9 => u_same (hts _ L_213) x9 h9) rfl d_Pa_program_90 ?_
                refine lv_iload hx hb d_Pa_program_93 (lv_at hl 1 rfl) ?_
                refine rd_V (v := (f_Tk_asksForStrict (sTk st_20) (sAt sx_2))) (As := [.int (sAt sx_2)]) (rest := []) ⟨hx, hb, hml, hown, hts0⟩ (m_Tk_asksForStrict l dC dI cI cZ h a1 a2 a3 a4 (sTk st_20) ok_20.1 (sAt sx_2)) hP hK [2, 3, 4, 5, 6] rfl [0, 1] rfl 0 3 rfl rfl L_849 L_850 L_851 L_84 L_852 ⟨rfl, k_Tk_asksForStrict⟩ ⟨(by show _ ≤ fr0 + 4; omega), (by show _ ≤ lo0 + 323; omega)⟩ hl.1 ⟨Nat.le_trans (Nat.le_add_right _ _) hcl, Nat.le_trans (Nat.le_add_right _ _) hsl⟩ (Nat.le_of_ble_eq_true rfl) d_Pa_program_95 rfl ?_
                refine lv_if_eq (tgt := 109) hx hb d_Pa_program_98 (by decide) (fun c_23 => ?_) (fun c_23 => ?_)
                · rw [if_pos c_23] at hL_2
                  refine lv_iinc (v := (x3 + 1)) (lv' := [(3, .int (x3 + 1)), (2, .int 1), (4, .int (sAt sx_2)), (0, .ref hp), (1, .int r_1)]) hx hb d_Pa_program_109 hl (k := 4) rfl rfl (by decide) rfl (fun ls hl => ?_)
                  refine lv_goto (tgt := 15) hx hb d_Pa_program_112 (by decide) ?_
                  exact ih_2 1 (x3 + 1) ad_20 st_20 ok_20 _ _ ls _ _ hP hD hS (lv_sub hl [3, 4, 1, 0] rfl) hcl hsl hL_2
                · rw [if_neg c_23] at hL_2
                  refine lv_aload_n hx hb d_Pa_program_101 rfl (lv_at hl 2 rfl) ?_
                  refine va_get (D := (dC, dI)) (ci := 2) (v := .ref hc) (C := R_Pa) (T := T_Pa) (N := 7) hx hb hts u_Pa hown hK hP 0 rfl rfl 6 (by decide) (hts _ L_221) (fun x9 h9 => u_same (hts _ L_222) x9 h9) rfl d_Pa_program_102 ?_
                  refine lv_iconst (v := 1) hx hb d_Pa_program_105 (by decide) ?_
                  refine va_put (D := (dC, dI)) (ci := 0) (v := .int 1) (ty := .boolean) (C := R_Co) (T := T_Co) (N := 5) hx hb hts u_Co ty_Co tk_Co nm_Co hown hK hP hD hS 1 rfl rfl 2 (by decide) (hts _ L_174) (fun _ h9 => h9) rfl (by decide +kernel) rfl rfl (Nat.le_of_ble_eq_true rfl) d_Pa_program_106 (fun H locs hP hD hS => ?_)
                  have hP : va_P (dC, dI) cls (wQ cI cZ hp hc h a1 a2 a3 a4 ht hq n1 n2 (ad_20, (setCo st_20 ((coF st_20), (coL st_20), 1, (coP st_20), (coW st_20))))) H := hP
                  have hD : va_D A (wQ cI cZ hp hc h a1 a2 a3 a4 ht hq n1 n2 (ad_20, (setCo st_20 ((coF st_20), (coL st_20), 1, (coP st_20), (coW st_20))))) := hD
                  refine lv_iinc (v := (x3 + 1)) (lv' := [(3, .int (x3 + 1)), (2, .int 1), (4, .int (sAt sx_2)), (0, .ref hp), (1, .int r_1)]) hx hb d_Pa_program_109 hl (k := 4) rfl rfl (by decide) rfl (fun ls hl => ?_)
                  refine lv_goto (tgt := 15) hx hb d_Pa_program_112 (by decide) ?_
                  exact ih_2 1 (x3 + 1) ad_20 (setCo st_20 ((coF st_20), (coL st_20), 1, (coP st_20), (coW st_20))) (show okSt (setCo st_20 ((coF st_20), (coL st_20), 1, (coP st_20), (coW st_20))) from ⟨ok_20.1, ok_20.2.1, ok_20.2.2.1, (Or.inr rfl)⟩) _ _ ls _ _ hP hD hS (lv_sub hl [3, 4, 1, 0] rfl) hcl hsl hL_2
  exact lp_2 5000 1 0 ad_1 st_1 ok_1 _ _ ls _ _ hP hD hS (lv_sub hl [3, 2, 1, 0] rfl) hcl hsl hx_2.symm
