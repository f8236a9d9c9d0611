def f_Pa_parameter (st : ST) (made : Int32) : Rz := (bnd (f_Cu_boundName st) (fun r_1 st_1 => (if (coS st_1) = 0 then (bnd (p_open st_1 25 r_1 (sAt st)) (fun r_3 st_3 => (some (.inr (0, st_3))))) else (bnO (f_Pa_hasParameter st_1 made (f_Tr_count (sTr st_1)) r_1) (fun v_4 => (if v_4 = 0 then (bnd (p_open st_1 25 r_1 (sAt st)) (fun r_6 st_6 => (some (.inr (0, st_6))))) else (bnd (f_Cu_refuse st_1 (sAt st)) (fun _ st_7 => (bnd (p_open st_7 25 r_1 (sAt st)) (fun r_8 st_8 => (some (.inr (0, st_8)))))))))))))
set_option maxRecDepth 100000 in
set_option maxHeartbeats 4000000 in
theorem m_Pa_parameter (l : Launch) (hlt : l.stackTraces = false) (dC : Nat → ClassId) (dI : Nat → Nat → Nat) (cI cZ : ClassId) (sa rk hp hc h a1 a2 a3 a4 ht hq n1 n2 : Nat) (ad : AD) (st : ST) (hst : okSt st) (sz : Nat) (made : Int32) (hg : f_Pa_parameter st made ≠ none) : cPv l y_Pa_parameter c_Pa_parameter 4 8 323 (dC, dI) cI cZ sa rk hp hc h a1 a2 a3 a4 ht hq n1 n2 ad st sz [.ref hp, .int made] (f_Pa_parameter st made) := by
  refine vx_ofW (cc := c_Pa_parameter) (maxL := 4) (ret := none) (by decide) rfl ?_
  intro p e s m args below meth c s₁ B hml hnt hv
  obtain ⟨rfl, hsz, hP, hK, hD0, hC, hZ⟩ := hv
  have hx := B.exec
  have hb := B.bytes
  have hr := B.returns
  have hts0 := atoms_spec (ws := wy y_Pa_parameter c_Pa_parameter 4 none) B.pre
  have hts := htsL hts0
  have hown : s.vm.findClass R_Pa = some m.cls := findClass_of_methodNamed B.named
  have hlocks := B.notSynchronized
  subst hsz
  have hD := hD0.self (sz := s.heap.size)
  generalize hAe : va_A (wQ cI cZ hp hc h a1 a2 a3 a4 ht hq n1 n2 (ad, st)) s.heap.size = A at hD hZ ⊢
  have hA : ∀ q : Nat, s.heap.size ≤ q → A q := fun q h => by rw [← hAe]; exact Or.inr h
  have hS : va_S A s.heap s.heap [] := va_S.rf
  have hcl : 0 + bC st ≤ bC st := Nat.le_of_eq (Nat.zero_add _)
  have hsl : 0 + bS st ≤ bS st := Nat.le_of_eq (Nat.zero_add _)
  have hl := lv_entry ([.ref hp, .int made]) (n := 4) (Nat.le_of_ble_eq_true rfl)
  rw [lg_entry_eq]
  generalize (lg_sl ([.ref hp, .int made]) ++ List.replicate (4 - (lg_sl ([.ref hp, .int made])).length) Slot.unset).toArray = ls at hl ⊢
  have hl : lv_has ls 4 [(0, .ref hp), (1, .int made)] := hl
  refine lv_aload_n hx hb d_Pa_parameter_0 rfl (lv_at hl 0 rfl) ?_
  refine va_get (D := (dC, dI)) (ci := 2) (v := .int (sAt st)) (C := R_Pa) (T := T_Pa) (N := 7) hx hb hts u_Pa hown hK hP 0 rfl rfl 4 (by decide) (hts _ L_215) (fun x9 h9 => u_same (hts _ L_216) x9 h9) rfl d_Pa_parameter_1 ?_
  refine lv_istore_n (lv' := [(2, .int (sAt st)), (0, .ref hp), (1, .int made)]) hx hb d_Pa_parameter_4 rfl hl (by decide) rfl (fun ls hl => ?_)
  refine lv_aload_n hx hb d_Pa_parameter_5 rfl (lv_at hl 1 rfl) ?_
  refine mx_Ui (xm := ⟨"SyntaxTree$Parser", "boundName", "()I"⟩) (owner := R_Cu) (As := []) (rest := []) ⟨hx, hb, hml, hown, hts0⟩ (m_Cu_boundName l hlt dC dI cI cZ sa rk hp hc h a1 a2 a3 a4 ht hq n1 n2 ad st hst _  (fun z => hg (by unfold f_Pa_parameter; rw [bnd_n z]))) hP hD hK hS hA hC hZ hnt hlocks L_471 L_472 L_474 L_475 L_86 L_476 rfl k_Cu_boundName ⟨Nat.le_of_ble_eq_true rfl, Nat.le_of_ble_eq_true rfl⟩ rfl rfl hl.1 (Nat.le_of_ble_eq_true rfl) d_Pa_parameter_6 rfl (fun q z => by unfold f_Pa_parameter; rw [bnd_l z]) hcl hsl (fun r_1 ad_1 st_1 H locs w_1 ok_1 e1_1 e2_1 hP hD hS => ?_)
  have hcl := cl_next hcl e1_1
  have hsl := cl_next hsl e2_1
  refine lv_istore_n (lv' := [(3, .int r_1), (2, .int (sAt st)), (0, .ref hp), (1, .int made)]) hx hb d_Pa_parameter_9 rfl hl (by decide) rfl (fun ls hl => ?_)
  refine lv_aload_n hx hb d_Pa_parameter_10 rfl (lv_at hl 2 rfl) ?_
  refine va_get (D := (dC, dI)) (ci := 2) (v := .ref hc) (C := R_Pa) (T := T_Pa) (N := 7) hx hb hts u_Pa hown hK hP 0 rfl rfl 6 (by decide) (hts _ L_221) (fun x9 h9 => u_same (hts _ L_222) x9 h9) rfl d_Pa_parameter_11 ?_
  refine va_get (D := (dC, dI)) (ci := 0) (v := .int (coS st_1)) (C := R_Co) (T := T_Co) (N := 5) hx hb hts u_Co hown hK hP 1 rfl rfl 2 (by decide) (hts _ L_174) (fun _ h9 => h9) rfl d_Pa_parameter_14 ?_
  refine lv_if_eq (tgt := 41) hx hb d_Pa_parameter_17 (by decide) (fun c_2 => ?_) (fun c_2 => ?_)
  · refine lv_aload_n hx hb d_Pa_parameter_41 rfl (lv_at hl 2 rfl) ?_
    refine va_get (D := (dC, dI)) (ci := 2) (v := .ref ht) (C := R_Pa) (T := T_Pa) (N := 7) hx hb hts u_Pa hown hK hP 0 rfl rfl 0 (by decide) (hts _ L_208) (fun _ h9 => h9) rfl d_Pa_parameter_42 ?_
    refine lv_bipush (v := 25) hx hb d_Pa_parameter_45 (by decide) ?_
    refine lv_iload_n hx hb d_Pa_parameter_47 rfl (lv_at hl 0 rfl) ?_
    refine lv_iload_n hx hb d_Pa_parameter_48 rfl (lv_at hl 1 rfl) ?_
    have hn_3 : (p_open st_1 25 r_1 (sAt st)) ≠ none := (fun z => hg (by unfold f_Pa_parameter; rw [bnd_r w_1, if_pos c_2, bnd_n z]))
    refine pT_i (g := (p_open st_1 25 r_1 (sAt st))) (st := st_1) (As := [.int 25, .int r_1, .int (sAt st)]) (rest := []) ⟨hx, hb, hml, hown, hts0⟩ (m_Tr_open l dC dI cI cZ sa rk ht ad_1 (sTr st_1) ok_1.2.1 _ 25 r_1 (sAt st) (p_open_c hn_3).1 (p_open_c hn_3).2.1) hP hD hK hS hA hC hZ L_416 L_417 L_418 L_85 L_419 ⟨rfl, k_Tr_open⟩ ⟨Nat.le_of_ble_eq_true rfl, Nat.le_of_ble_eq_true rfl⟩ rfl rfl hl.1 (Nat.le_of_ble_eq_true rfl) d_Pa_parameter_49 rfl hcl hsl (p_open_c hn_3).2.2.1 (p_open_c hn_3).2.2.2 ok_1 (t_open_ok 25 r_1 (sAt st) ok_1.2.1 (p_open_c hn_3).1 (p_open_c hn_3).2.1) (p_open_e hn_3) (fun r_3 ad_3 st_3 H locs w_3 ok_3 e1_3 e2_3 hP hD hS => ?_)
    have hcl := cl_next hcl e1_3
    have hsl := cl_next hsl e2_3
    refine lv_pop hx hb d_Pa_parameter_52 rfl ?_
    exact mx_vret (stF := st_3) hx hb hr hlocks hK hP hD hS hcl hsl (by unfold f_Pa_parameter; rw [bnd_r w_1, if_pos c_2, bnd_r w_3]) ok_3 d_Pa_parameter_53
  · refine lv_aload_n hx hb d_Pa_parameter_20 rfl (lv_at hl 2 rfl) ?_
    refine lv_iload_n hx hb d_Pa_parameter_21 rfl (lv_at hl 3 rfl) ?_
    refine lv_aload_n hx hb d_Pa_parameter_22 rfl (lv_at hl 2 rfl) ?_
    refine va_get (D := (dC, dI)) (ci := 2) (v := .ref ht) (C := R_Pa) (T := T_Pa) (N := 7) hx hb hts u_Pa hown hK hP 0 rfl rfl 0 (by decide) (hts _ L_208) (fun _ h9 => h9) rfl d_Pa_parameter_23 ?_
    refine rd_V (v := (f_Tr_count (sTr st_1))) (As := []) (rest := [.int made, .ref hp]) ⟨hx, hb, hml, hown, hts0⟩ (m_Tr_count l dC dI cI cZ ht ad_1.1 ad_1.2.1 ad_1.2.2.1 ad_1.2.2.2 (sTr st_1) ok_1.2.1 ) hP hK [7, 8, 9, 10, 11] rfl [0, 1] rfl 0 4 rfl rfl L_520 L_521 L_522 L_85 L_523 ⟨rfl, k_Tr_count⟩ ⟨Nat.le_of_ble_eq_true rfl, Nat.le_of_ble_eq_true rfl⟩ hl.1 ⟨Nat.le_trans (Nat.le_add_right _ _) hcl, Nat.le_trans (Nat.le_add_right _ _) hsl⟩ (Nat.le_of_ble_eq_true rfl) d_Pa_parameter_26 rfl ?_
    refine lv_iload_n hx hb d_Pa_parameter_29 rfl (lv_at hl 0 rfl) ?_
    obtain ⟨v_4, w_4⟩ : ∃ v9, (f_Pa_hasParameter st_1 made (f_Tr_count (sTr st_1)) r_1) = some v9 := bnO_ex ((fun z => hg (by unfold f_Pa_parameter; rw [bnd_r w_1, if_neg c_2, bnO_n z])))
    refine rd_V (v := v_4) (As := [.int made, .int (f_Tr_count (sTr st_1)), .int r_1]) (rest := []) ⟨hx, hb, hml, hown, hts0⟩ (m_Pa_hasParameter l dC dI cI cZ hp hc h a1 a2 a3 a4 ht ad_1.1 ad_1.2.1 ad_1.2.2.1 ad_1.2.2.2 hq n1 n2 st_1 ok_1 made (f_Tr_count (sTr st_1)) r_1 v_4 w_4) hP hK [0, 1, 2, 3, 4, 5, 6, 7, 8, 9, 10, 11, 12, 13, 14] rfl [0, 1] rfl 0 2 rfl rfl L_524 L_526 L_9 L_87 L_527 ⟨rfl, k_Pa_hasParameter⟩ ⟨Nat.le_of_ble_eq_true rfl, Nat.le_of_ble_eq_true rfl⟩ hl.1 ⟨Nat.le_trans (Nat.le_add_right _ _) hcl, Nat.le_trans (Nat.le_add_right _ _) hsl⟩ (Nat.le_of_ble_eq_true rfl) d_Pa_parameter_30 rfl ?_
    refine lv_if_eq (tgt := 41) hx hb d_Pa_parameter_33 (by decide) (fun c_5 => ?_) (fun c_5 => ?_)
    · refine lv_aload_n hx hb d_Pa_parameter_41 rfl (lv_at hl 2 rfl) ?_
      refine va_get (D := (dC, dI)) (ci := 2) (v := .ref ht) (C := R_Pa) (T := T_Pa) (N := 7) hx hb hts u_Pa hown hK hP 0 rfl rfl 0 (by decide) (hts _ L_208) (fun _ h9 => h9) rfl d_Pa_parameter_42 ?_
      refine lv_bipush (v := 25) hx hb d_Pa_parameter_45 (by decide) ?_
      refine lv_iload_n hx hb d_Pa_parameter_47 rfl (lv_at hl 0 rfl) ?_
      refine lv_iload_n hx hb d_Pa_parameter_48 rfl (lv_at hl 1 rfl) ?_
      have hn_6 : (p_open st_1 25 r_1 (sAt st)) ≠ none := (fun z => hg (by unfold f_Pa_parameter; rw [bnd_r w_1, if_neg c_2, bnO_s w_4, if_pos c_5, bnd_n z]))
      refine pT_i (g := (p_open st_1 25 r_1 (sAt st))) (st := st_1) (As := [.int 25, .int r_1, .int (sAt st)]) (rest := []) ⟨hx, hb, hml, hown, hts0⟩ (m_Tr_open l dC dI cI cZ sa rk ht ad_1 (sTr st_1) ok_1.2.1 _ 25 r_1 (sAt st) (p_open_c hn_6).1 (p_open_c hn_6).2.1) hP hD hK hS hA hC hZ L_416 L_417 L_418 L_85 L_419 ⟨rfl, k_Tr_open⟩ ⟨Nat.le_of_ble_eq_true rfl, Nat.le_of_ble_eq_true rfl⟩ rfl rfl hl.1 (Nat.le_of_ble_eq_true rfl) d_Pa_parameter_49 rfl hcl hsl (p_open_c hn_6).2.2.1 (p_open_c hn_6).2.2.2 ok_1 (t_open_ok 25 r_1 (sAt st) ok_1.2.1 (p_open_c hn_6).1 (p_open_c hn_6).2.1) (p_open_e hn_6) (fun r_6 ad_6 st_6 H locs w_6 ok_6 e1_6 e2_6 hP hD hS => ?_)
      have hcl := cl_next hcl e1_6
      have hsl := cl_next hsl e2_6
      refine lv_pop hx hb d_Pa_parameter_52 rfl ?_
      exact mx_vret (stF := st_6) hx hb hr hlocks hK hP hD hS hcl hsl (by unfold f_Pa_parameter; rw [bnd_r w_1, if_neg c_2, bnO_s w_4, if_pos c_5, bnd_r w_6]) ok_6 d_Pa_parameter_53
    · refine lv_aload_n hx hb d_Pa_parameter_36 rfl (lv_at hl 2 rfl) ?_
      refine lv_iload_n hx hb d_Pa_parameter_37 rfl (lv_at hl 1 rfl) ?_
      refine mx_Uv (xm := ⟨"SyntaxTree$Parser", "refuse", "(I)V"⟩) (owner := R_Cu) (As := [.int (sAt st)]) (rest := []) ⟨hx, hb, hml, hown, hts0⟩ (m_Cu_refuse l hlt dC dI cI cZ sa rk hp hc h a1 a2 a3 a4 ht hq n1 n2 ad_1 st_1 ok_1 _ (sAt st) (fun z => hg (by unfold f_Pa_parameter; rw [bnd_r w_1, if_neg c_2, bnO_s w_4, if_neg c_5, bnd_n z]))) hP hD hK hS hA hC hZ hnt hlocks L_536 L_537 L_539 L_460 L_86 L_463 rfl k_Cu_refuse ⟨Nat.le_of_ble_eq_true rfl, Nat.le_of_ble_eq_true rfl⟩ rfl rfl hl.1 (Nat.le_of_ble_eq_true rfl) d_Pa_parameter_38 rfl (fun q z => by unfold f_Pa_parameter; rw [bnd_r w_1, if_neg c_2, bnO_s w_4, if_neg c_5, bnd_l z]) hcl hsl (fun ad_7 st_7 H locs w_7 ok_7 e1_7 e2_7 hP hD hS => ?_)
      have hcl := cl_next hcl e1_7
      have hsl := cl_next hsl e2_7
      refine lv_aload_n hx hb d_Pa_parameter_41 rfl (lv_at hl 2 rfl) ?_
      refine va_get (D := (dC, dI)) (ci := 2) (v := .ref ht) (C := R_Pa) (T := T_Pa) (N := 7) hx hb hts u_Pa hown hK hP 0 rfl rfl 0 (by decide) (hts _ L_208) (fun _ h9 => h9) rfl d_Pa_parameter_42 ?_
      refine lv_bipush (v := 25) hx hb d_Pa_parameter_45 (by decide) ?_
      refine lv_iload_n hx hb d_Pa_parameter_47 rfl (lv_at hl 0 rfl) ?_
      refine lv_iload_n hx hb d_Pa_parameter_48 rfl (lv_at hl 1 rfl) ?_
      have hn_8 : (p_open st_7 25 r_1 (sAt st)) ≠ none := (fun z => hg (by unfold f_Pa_parameter; rw [bnd_r w_1, if_neg c_2, bnO_s w_4, if_neg c_5, bnd_r w_7, bnd_n z]))
      refine pT_i (g := (p_open st_7 25 r_1 (sAt st))) (st := st_7) (As := [.int 25, .int r_1, .int (sAt st)]) (rest := []) ⟨hx, hb, hml, hown, hts0⟩ (m_Tr_open l dC dI cI cZ sa rk ht ad_7 (sTr st_7) ok_7.2.1 _ 25 r_1 (sAt st) (p_open_c hn_8).1 (p_open_c hn_8).2.1) hP hD hK hS hA hC hZ L_416 L_417 L_418 L_85 L_419 ⟨rfl, k_Tr_open⟩ ⟨Nat.le_of_ble_eq_true rfl, Nat.le_of_ble_eq_true rfl⟩ rfl rfl hl.1 (Nat.le_of_ble_eq_true rfl) d_Pa_parameter_49 rfl hcl hsl (p_open_c hn_8).2.2.1 (p_open_c hn_8).2.2.2 ok_7 (t_open_ok 25 r_1 (sAt st) ok_7.2.1 (p_open_c hn_8).1 (p_open_c hn_8).2.1) (p_open_e hn_8) (fun r_8 ad_8 st_8 H locs w_8 ok_8 e1_8 e2_8 hP hD hS => ?_)
      have hcl := cl_next hcl e1_8
      have hsl := cl_next hsl e2_8
      refine lv_pop hx hb d_Pa_parameter_52 rfl ?_
      exact mx_vret (stF := st_8) hx hb hr hlocks hK hP hD hS hcl hsl (by unfold f_Pa_parameter; rw [bnd_r w_1, if_neg c_2, bnO_s w_4, if_neg c_5, bnd_r w_7, bnd_r w_8]) ok_8 d_Pa_parameter_53
def f_Pa_mayTakeKeys (st : ST) (initial : Int32) : Rz := (if (f_Tr_kind (sTr st) initial) = 2 then (bnO (f_Tr_children (sTr st) initial) (fun v_2 => (if v_2 = 1 then (some (.inr (1, st))) else (some (.inr (0, st)))))) else (some (.inr ((f_Pa_assignable st initial), st))))
set_option maxRecDepth 100000 in
set_option maxHeartbeats 4000000 in
theorem m_Pa_mayTakeKeys (l : Launch) (hlt : l.stackTraces = false) (dC : Nat → ClassId) (dI : Nat → Nat → Nat) (cI cZ : ClassId) (sa rk hp hc h a1 a2 a3 a4 ht hq n1 n2 : Nat) (ad : AD) (st : ST) (hst : okSt st) (sz : Nat) (initial : Int32) (hg : f_Pa_mayTakeKeys st initial ≠ none) : cPi l y_Pa_mayTakeKeys c_Pa_mayTakeKeys 2 .boolean 3 67 (dC, dI) cI cZ sa rk hp hc h a1 a2 a3 a4 ht hq n1 n2 ad st sz [.ref hp, .int initial] (f_Pa_mayTakeKeys st initial) := by
  refine vx_ofW (cc := c_Pa_mayTakeKeys) (maxL := 2) (ret := (some .boolean)) (by decide) rfl ?_
  intro p e s m args below meth c s₁ B hml hnt hv
  obtain ⟨rfl, hsz, hP, hK, hD0, hC, hZ⟩ := hv
  have hx := B.exec
  have hb := B.bytes
  have hr := B.returns
  have hts0 := atoms_spec (ws := wy y_Pa_mayTakeKeys c_Pa_mayTakeKeys 2 (some .boolean)) B.pre
  have hts := htsL hts0
  have hown : s.vm.findClass R_Pa = some m.cls := findClass_of_methodNamed B.named
  have hlocks := B.notSynchronized
  subst hsz
  have hD := hD0.self (sz := s.heap.size)
  generalize hAe : va_A (wQ cI cZ hp hc h a1 a2 a3 a4 ht hq n1 n2 (ad, st)) s.heap.size = A at hD hZ ⊢
  have hA : ∀ q : Nat, s.heap.size ≤ q → A q := fun q h => by rw [← hAe]; exact Or.inr h
  have hS : va_S A s.heap s.heap [] := va_S.rf
  have hcl : 0 + bC st ≤ bC st := Nat.le_of_eq (Nat.zero_add _)
  have hsl : 0 + bS st ≤ bS st := Nat.le_of_eq (Nat.zero_add _)
  have hl := lv_entry ([.ref hp, .int initial]) (n := 2) (Nat.le_of_ble_eq_true rfl)
  rw [lg_entry_eq]
  generalize (lg_sl ([.ref hp, .int initial]) ++ List.replicate (2 - (lg_sl ([.ref hp, .int initial])).length) Slot.unset).toArray = ls at hl ⊢
  have hl : lv_has ls 2 [(0, .ref hp), (1, .int initial)] := hl
  refine lv_aload_n hx hb d_Pa_mayTakeKeys_0 rfl (lv_at hl 0 rfl) ?_
  refine va_get (D := (dC, dI)) (ci := 2) (v := .ref ht) (C := R_Pa) (T := T_Pa) (N := 7) hx hb hts u_Pa hown hK hP 0 rfl rfl 0 (by decide) (hts _ L_208) (fun _ h9 => h9) rfl d_Pa_mayTakeKeys_1 ?_
  refine lv_iload_n hx hb d_Pa_mayTakeKeys_4 rfl (lv_at hl 1 rfl) ?_
  refine rd_V (v := (f_Tr_kind (sTr st) initial)) (As := [.int initial]) (rest := []) ⟨hx, hb, hml, hown, hts0⟩ (m_Tr_kind l dC dI cI cZ ht ad.1 ad.2.1 ad.2.2.1 ad.2.2.2 (sTr st) hst.2.1 initial) hP hK [7, 8, 9, 10, 11] rfl [0, 1] rfl 0 4 rfl rfl L_528 L_529 L_530 L_85 L_531 ⟨rfl, k_Tr_kind⟩ ⟨Nat.le_of_ble_eq_true rfl, Nat.le_of_ble_eq_true rfl⟩ hl.1 ⟨Nat.le_trans (Nat.le_add_right _ _) hcl, Nat.le_trans (Nat.le_add_right _ _) hsl⟩ (Nat.le_of_ble_eq_true rfl) d_Pa_mayTakeKeys_5 rfl ?_
  refine lv_iconst (v := 2) hx hb d_Pa_mayTakeKeys_8 (by decide) ?_
  refine lv_icmp_ne (tgt := 30) hx hb d_Pa_mayTakeKeys_9 (by decide) (fun c_1 => ?_) (fun c_1 => ?_)
  · refine lv_aload_n hx hb d_Pa_mayTakeKeys_30 rfl (lv_at hl 0 rfl) ?_
    refine lv_iload_n hx hb d_Pa_mayTakeKeys_31 rfl (lv_at hl 1 rfl) ?_
    refine rd_V (v := (f_Pa_assignable st initial)) (As := [.int initial]) (rest := []) ⟨hx, hb, hml, hown, hts0⟩ (m_Pa_assignable l dC dI cI cZ hp hc h a1 a2 a3 a4 ht ad.1 ad.2.1 ad.2.2.1 ad.2.2.2 hq n1 n2 st hst initial) hP hK [0, 1, 2, 3, 4, 5, 6, 7, 8, 9, 10, 11, 12, 13, 14] rfl [0, 1] rfl 0 2 rfl rfl L_586 L_588 L_15 L_87 L_589 ⟨rfl, k_Pa_assignable⟩ ⟨Nat.le_of_ble_eq_true rfl, Nat.le_of_ble_eq_true rfl⟩ hl.1 ⟨Nat.le_trans (Nat.le_add_right _ _) hcl, Nat.le_trans (Nat.le_add_right _ _) hsl⟩ (Nat.le_of_ble_eq_true rfl) d_Pa_mayTakeKeys_32 rfl ?_
    exact mx_zret (v := (f_Pa_assignable st initial)) (stF := st) hx hb hr (nB f_Pa_assignable_b) hlocks hK hP hD hS hcl hsl (by unfold f_Pa_mayTakeKeys; rw [if_neg c_1]) hst d_Pa_mayTakeKeys_35
  · refine lv_aload_n hx hb d_Pa_mayTakeKeys_12 rfl (lv_at hl 0 rfl) ?_
    refine va_get (D := (dC, dI)) (ci := 2) (v := .ref ht) (C := R_Pa) (T := T_Pa) (N := 7) hx hb hts u_Pa hown hK hP 0 rfl rfl 0 (by decide) (hts _ L_208) (fun _ h9 => h9) rfl d_Pa_mayTakeKeys_13 ?_
    refine lv_iload_n hx hb d_Pa_mayTakeKeys_16 rfl (lv_at hl 1 rfl) ?_
    obtain ⟨v_2, w_2⟩ : ∃ v9, (f_Tr_children (sTr st) initial) = some v9 := bnO_ex ((fun z => hg (by unfold f_Pa_mayTakeKeys; rw [if_pos c_1, bnO_n z])))
    refine rd_V (v := v_2) (As := [.int initial]) (rest := []) ⟨hx, hb, hml, hown, hts0⟩ (m_Tr_children l dC dI cI cZ ht ad.1 ad.2.1 ad.2.2.1 ad.2.2.2 (sTr st) hst.2.1 initial v_2 w_2) hP hK [7, 8, 9, 10, 11] rfl [0, 1] rfl 0 4 rfl rfl L_762 L_763 L_764 L_85 L_765 ⟨rfl, k_Tr_children⟩ ⟨Nat.le_of_ble_eq_true rfl, Nat.le_of_ble_eq_true rfl⟩ hl.1 ⟨Nat.le_trans (Nat.le_add_right _ _) hcl, Nat.le_trans (Nat.le_add_right _ _) hsl⟩ (Nat.le_of_ble_eq_true rfl) d_Pa_mayTakeKeys_17 rfl ?_
    refine lv_iconst (v := 1) hx hb d_Pa_mayTakeKeys_20 (by decide) ?_
    refine lv_icmp_ne (tgt := 28) hx hb d_Pa_mayTakeKeys_21 (by decide) (fun c_3 => ?_) (fun c_3 => ?_)
    · refine lv_iconst (v := 0) hx hb d_Pa_mayTakeKeys_28 (by decide) ?_
      exact mx_zret (v := 0) (stF := st) hx hb hr rfl hlocks hK hP hD hS hcl hsl (by unfold f_Pa_mayTakeKeys; rw [if_pos c_1, bnO_s w_2, if_neg c_3]) hst d_Pa_mayTakeKeys_29
    · refine lv_iconst (v := 1) hx hb d_Pa_mayTakeKeys_24 (by decide) ?_
      refine lv_goto (tgt := 29) hx hb d_Pa_mayTakeKeys_25 (by decide) ?_
      exact mx_zret (v := 1) (stF := st) hx hb hr rfl hlocks hK hP hD hS hcl hsl (by unfold f_Pa_mayTakeKeys; rw [if_pos c_1, bnO_s w_2, if_pos c_3]) hst d_Pa_mayTakeKeys_29
def f_Pa_openFor (st : ST) (first : Int32) : Rz := (bnd (p_lab st (l_markAsLoops (sLb st) first)) (fun _ st_1 => (bnd (p_open st_1 9 0 (sAt st_1)) (fun r_2 st_2 => (bnd (f_Cu_expect (setAt st_2 ((sAt st_2) + 1)) 60) (fun _ st_3 => (some (.inr (r_2, st_3)))))))))
set_option maxRecDepth 100000 in
set_option maxHeartbeats 4000000 in
theorem m_Pa_openFor (l : Launch) (hlt : l.stackTraces = false) (dC : Nat → ClassId) (dI : Nat → Nat → Nat) (cI cZ : ClassId) (sa rk hp hc h a1 a2 a3 a4 ht hq n1 n2 : Nat) (ad : AD) (st : ST) (hst : okSt st) (sz : Nat) (first : Int32) (hg : f_Pa_openFor st first ≠ none) : cPi l y_Pa_openFor c_Pa_openFor 3 .int 8 323 (dC, dI) cI cZ sa rk hp hc h a1 a2 a3 a4 ht hq n1 n2 ad st sz [.ref hp, .int first] (f_Pa_openFor st first) := by
  refine vx_ofW (cc := c_Pa_openFor) (maxL := 3) (ret := (some .int)) (by decide) rfl ?_
  intro p e s m args below meth c s₁ B hml hnt hv
  obtain ⟨rfl, hsz, hP, hK, hD0, hC, hZ⟩ := hv
  have hx := B.exec
  have hb := B.bytes
  have hr := B.returns
  have hts0 := atoms_spec (ws := wy y_Pa_openFor c_Pa_openFor 3 (some .int)) B.pre
  have hts := htsL hts0
  have hown : s.vm.findClass R_Pa = some m.cls := findClass_of_methodNamed B.named
  have hlocks := B.notSynchronized
  subst hsz
  have hD := hD0.self (sz := s.heap.size)
  generalize hAe : va_A (wQ cI cZ hp hc h a1 a2 a3 a4 ht hq n1 n2 (ad, st)) s.heap.size = A at hD hZ ⊢
  have hA : ∀ q : Nat, s.heap.size ≤ q → A q := fun q h => by rw [← hAe]; exact Or.inr h
  have hS : va_S A s.heap s.heap [] := va_S.rf
  have hcl : 0 + bC st ≤ bC st := Nat.le_of_eq (Nat.zero_add _)
  have hsl : 0 + bS st ≤ bS st := Nat.le_of_eq (Nat.zero_add _)
  have hl := lv_entry ([.ref hp, .int first]) (n := 3) (Nat.le_of_ble_eq_true rfl)
  rw [lg_entry_eq]
  generalize (lg_sl ([.ref hp, .int first]) ++ List.replicate (3 - (lg_sl ([.ref hp, .int first])).length) Slot.unset).toArray = ls at hl ⊢
  have hl : lv_has ls 3 [(0, .ref hp), (1, .int first)] := hl
  refine lv_aload_n hx hb d_Pa_openFor_0 rfl (lv_at hl 0 rfl) ?_
  refine va_get (D := (dC, dI)) (ci := 2) (v := .ref hq) (C := R_Pa) (T := T_Pa) (N := 7) hx hb hts u_Pa hown hK hP 0 rfl rfl 1 (by decide) (hts _ L_209) (fun _ h9 => h9) rfl d_Pa_openFor_1 ?_
  refine lv_iload_n hx hb d_Pa_openFor_4 rfl (lv_at hl 1 rfl) ?_
  obtain ⟨lb_1, eb_1, ob_1, eg_1⟩ := p_lab_e ((fun z => hg (by unfold f_Pa_openFor; rw [bnd_n z])) : (p_lab st (l_markAsLoops (sLb st) first)) ≠ none)
  refine pL_v (g := (p_lab st (l_markAsLoops (sLb st) first))) (st := st) (As := [.int first]) (rest := []) ⟨hx, hb, hml, hown, hts0⟩ (m_La_markAsLoops l dC dI cI cZ sa rk hq n1 n2 (sLb st) lb_1 hst.2.2.1 _ first eb_1) hP hD hK hS hA hC hZ L_731 L_732 L_733 L_89 L_734 ⟨rfl, k_La_markAsLoops⟩ ⟨Nat.le_of_ble_eq_true rfl, Nat.le_of_ble_eq_true rfl⟩ rfl rfl hl.1 (Nat.le_of_ble_eq_true rfl) d_Pa_openFor_5 rfl hcl hsl hst ob_1 eg_1 (fun ad_1 st_1 H locs w_1 ok_1 e1_1 e2_1 hP hD hS => ?_)
  have hcl := cl_next hcl e1_1
  have hsl := cl_next hsl e2_1
  refine lv_aload_n hx hb d_Pa_openFor_8 rfl (lv_at hl 0 rfl) ?_
  refine va_get (D := (dC, dI)) (ci := 2) (v := .ref ht) (C := R_Pa) (T := T_Pa) (N := 7) hx hb hts u_Pa hown hK hP 0 rfl rfl 0 (by decide) (hts _ L_208) (fun _ h9 => h9) rfl d_Pa_openFor_9 ?_
  refine lv_bipush (v := 9) hx hb d_Pa_openFor_12 (by decide) ?_
  refine lv_iconst (v := 0) hx hb d_Pa_openFor_14 (by decide) ?_
  refine lv_aload_n hx hb d_Pa_openFor_15 rfl (lv_at hl 0 rfl) ?_
  refine va_get (D := (dC, dI)) (ci := 2) (v := .int (sAt st_1)) (C := R_Pa) (T := T_Pa) (N := 7) hx hb hts u_Pa hown hK hP 0 rfl rfl 4 (by decide) (hts _ L_215) (fun x9 h9 => u_same (hts _ L_216) x9 h9) rfl d_Pa_openFor_16 ?_
  have hn_2 : (p_open st_1 9 0 (sAt st_1)) ≠ none := (fun z => hg (by unfold f_Pa_openFor; rw [bnd_r w_1, bnd_n z]))
  refine pT_i (g := (p_open st_1 9 0 (sAt st_1))) (st := st_1) (As := [.int 9, .int 0, .int (sAt st_1)]) (rest := []) ⟨hx, hb, hml, hown, hts0⟩ (m_Tr_open l dC dI cI cZ sa rk ht ad_1 (sTr st_1) ok_1.2.1 _ 9 0 (sAt st_1) (p_open_c hn_2).1 (p_open_c hn_2).2.1) hP hD hK hS hA hC hZ L_416 L_417 L_418 L_85 L_419 ⟨rfl, k_Tr_open⟩ ⟨Nat.le_of_ble_eq_true rfl, Nat.le_of_ble_eq_true rfl⟩ rfl rfl hl.1 (Nat.le_of_ble_eq_true rfl) d_Pa_openFor_19 rfl hcl hsl (p_open_c hn_2).2.2.1 (p_open_c hn_2).2.2.2 ok_1 (t_open_ok 9 0 (sAt st_1) ok_1.2.1 (p_open_c hn_2).1 (p_open_c hn_2).2.1) (p_open_e hn_2) (fun r_2 ad_2 st_2 H locs w_2 ok_2 e1_2 e2_2 hP hD hS => ?_)
  have hcl := cl_next hcl e1_2
  have hsl := cl_next hsl e2_2
  refine lv_istore_n (lv' := [(2, .int r_2), (0, .ref hp), (1, .int first)]) hx hb d_Pa_openFor_22 rfl hl (by decide) rfl (fun ls hl => ?_)
  refine lv_aload_n hx hb d_Pa_openFor_23 rfl (lv_at hl 1 rfl) ?_
  refine lv_dup hx hb d_Pa_openFor_24 rfl ?_
  refine va_get (D := (dC, dI)) (ci := 2) (v := .int (sAt st_2)) (C := R_Pa) (T := T_Pa) (N := 7) hx hb hts u_Pa hown hK hP 0 rfl rfl 4 (by decide) (hts _ L_215) (fun x9 h9 => u_same (hts _ L_216) x9 h9) rfl d_Pa_openFor_25 ?_
  refine lv_iconst (v := 1) hx hb d_Pa_openFor_28 (by decide) ?_
  refine lv_iadd hx hb d_Pa_openFor_29 ?_
  refine va_put (D := (dC, dI)) (ci := 2) (v := .int ((sAt st_2) + 1)) (ty := .int) (C := R_Pa) (T := T_Pa) (N := 7) hx hb hts u_Pa ty_Pa tk_Pa nm_Pa hown hK hP hD hS 0 rfl rfl 4 (by decide) (hts _ L_215) (fun x9 h9 => u_same (hts _ L_216) x9 h9) rfl (by decide +kernel) rfl rfl (Nat.le_of_ble_eq_true rfl) d_Pa_openFor_30 (fun H locs hP hD hS => ?_)
  have hP : va_P (dC, dI) cls (wQ cI cZ hp hc h a1 a2 a3 a4 ht hq n1 n2 (ad_2, (setAt st_2 ((sAt st_2) + 1)))) H := hP
  have hD : va_D A (wQ cI cZ hp hc h a1 a2 a3 a4 ht hq n1 n2 (ad_2, (setAt st_2 ((sAt st_2) + 1)))) := hD
  refine lv_aload_n hx hb d_Pa_openFor_33 rfl (lv_at hl 1 rfl) ?_
  refine lv_bipush (v := 60) hx hb d_Pa_openFor_34 (by decide) ?_
  refine mx_Uv (xm := ⟨"SyntaxTree$Parser", "expect", "(I)V"⟩) (owner := R_Cu) (As := [.int 60]) (rest := []) ⟨hx, hb, hml, hown, hts0⟩ (m_Cu_expect l hlt dC dI cI cZ sa rk hp hc h a1 a2 a3 a4 ht hq n1 n2 ad_2 (setAt st_2 ((sAt st_2) + 1)) (show okSt (setAt st_2 ((sAt st_2) + 1)) from ⟨ok_2.1, ok_2.2.1, ok_2.2.2.1, ok_2.2.2.2⟩) _ 60 (fun z => hg (by unfold f_Pa_openFor; rw [bnd_r w_1, bnd_r w_2, bnd_n z]))) hP hD hK hS hA hC hZ hnt hlocks L_510 L_511 L_513 L_514 L_86 L_515 rfl k_Cu_expect ⟨Nat.le_of_ble_eq_true rfl, Nat.le_of_ble_eq_true rfl⟩ rfl rfl hl.1 (Nat.le_of_ble_eq_true rfl) d_Pa_openFor_36 rfl (fun q z => by unfold f_Pa_openFor; rw [bnd_r w_1, bnd_r w_2, bnd_l z]) hcl hsl (fun ad_3 st_3 H locs w_3 ok_3 e1_3 e2_3 hP hD hS => ?_)
  have hcl := cl_next hcl e1_3
  have hsl := cl_next hsl e2_3
  refine lv_iload_n hx hb d_Pa_openFor_39 rfl (lv_at hl 0 rfl) ?_
  exact mx_iret (v := r_2) (stF := st_3) hx hb hr hlocks hK hP hD hS hcl hsl (by unfold f_Pa_openFor; rw [bnd_r w_1, bnd_r w_2, bnd_r w_3]) ok_3 d_Pa_openFor_40
def f_Pa_openProperty (st : ST) (object : Int32) : Rz := (if (f_Pa_propertyKind st) = 47 then (if (f_Tk_propertyName (sTk st) (sAt st)) = 0 then (bnd (f_Cu_refuse st (sAt st)) (fun _ st_9 => (bnd (f_Cu_expect (setAt st_9 ((sAt st_9) + 1)) 70) (fun _ st_10 => (bnO (f_Pa_clashes st_10 object (f_Pa_propertyKind st) (f_Tk_name (sTk st_10) (sAt st))) (fun v_11 => (if v_11 = 0 then (bnd (p_open st_10 (f_Pa_propertyKind st) (f_Tk_name (sTk st_10) (sAt st)) (sAt st)) (fun r_13 st_13 => (some (.inr (r_13, st_13))))) else (bnd (f_Cu_refuse st_10 (sAt st)) (fun _ st_14 => (bnd (p_open st_14 (f_Pa_propertyKind st) (f_Tk_name (sTk st_10) (sAt st)) (sAt st)) (fun r_15 st_15 => (some (.inr (r_15, st_15)))))))))))))) else (bnd (f_Cu_expect (setAt st ((sAt st) + 1)) 70) (fun _ st_3 => (bnO (f_Pa_clashes st_3 object (f_Pa_propertyKind st) (f_Tk_name (sTk st_3) (sAt st))) (fun v_4 => (if v_4 = 0 then (bnd (p_open st_3 (f_Pa_propertyKind st) (f_Tk_name (sTk st_3) (sAt st)) (sAt st)) (fun r_6 st_6 => (some (.inr (r_6, st_6))))) else (bnd (f_Cu_refuse st_3 (sAt st)) (fun _ st_7 => (bnd (p_open st_7 (f_Pa_propertyKind st) (f_Tk_name (sTk st_3) (sAt st)) (sAt st)) (fun r_8 st_8 => (some (.inr (r_8, st_8))))))))))))) else (if (f_Tk_propertyName (sTk st) ((sAt st) + 1)) = 0 then (bnd (f_Cu_refuse (setAt st ((sAt st) + 1)) ((sAt st) + 1)) (fun _ st_22 => (bnO (f_Pa_clashes (setAt st_22 ((sAt st_22) + 1)) object (f_Pa_propertyKind st) (f_Tk_name (sTk st_22) ((sAt st) + 1))) (fun v_23 => (if v_23 = 0 then (bnd (p_open (setAt st_22 ((sAt st_22) + 1)) (f_Pa_propertyKind st) (f_Tk_name (sTk st_22) ((sAt st) + 1)) (sAt st)) (fun r_25 st_25 => (some (.inr (r_25, st_25))))) else (bnd (f_Cu_refuse (setAt st_22 ((sAt st_22) + 1)) ((sAt st) + 1)) (fun _ st_26 => (bnd (p_open st_26 (f_Pa_propertyKind st) (f_Tk_name (sTk st_22) ((sAt st) + 1)) (sAt st)) (fun r_27 st_27 => (some (.inr (r_27, st_27)))))))))))) else (bnO (f_Pa_clashes (setAt st (((sAt st) + 1) + 1)) object (f_Pa_propertyKind st) (f_Tk_name (sTk st) ((sAt st) + 1))) (fun v_17 => (if v_17 = 0 then (bnd (p_open (setAt st (((sAt st) + 1) + 1)) (f_Pa_propertyKind st) (f_Tk_name (sTk st) ((sAt st) + 1)) (sAt st)) (fun r_19 st_19 => (some (.inr (r_19, st_19))))) else (bnd (f_Cu_refuse (setAt st (((sAt st) + 1) + 1)) ((sAt st) + 1)) (fun _ st_20 => (bnd (p_open st_20 (f_Pa_propertyKind st) (f_Tk_name (sTk st) ((sAt st) + 1)) (sAt st)) (fun r_21 st_21 => (some (.inr (r_21, st_21))))))))))))
set_option maxRecDepth 100000 in
set_option maxHeartbeats 4000000 in
theorem m_Pa_openProperty (l : Launch) (hlt : l.stackTraces = false) (dC : Nat → ClassId) (dI : Nat → Nat → Nat) (cI cZ : ClassId) (sa rk hp hc h a1 a2 a3 a4 ht hq n1 n2 : Nat) (ad : AD) (st : ST) (hst : okSt st) (sz : Nat) (object : Int32) (hg : f_Pa_openProperty st object ≠ none) : cPi l y_Pa_openProperty c_Pa_openProperty 6 .int 8 323 (dC, dI) cI cZ sa rk hp hc h a1 a2 a3 a4 ht hq n1 n2 ad st sz [.ref hp, .int object] (f_Pa_openProperty st object) := by
  refine vx_ofW (cc := c_Pa_openProperty) (maxL := 6) (ret := (some .int)) (by decide) rfl ?_
  intro p e s m args below meth c s₁ B hml hnt hv
  obtain ⟨rfl, hsz, hP, hK, hD0, hC, hZ⟩ := hv
  have hx := B.exec
  have hb := B.bytes
  have hr := B.returns
  have hts0 := atoms_spec (ws := wy y_Pa_openProperty c_Pa_openProperty 6 (some .int)) B.pre
  have hts := htsL hts0
  have hown : s.vm.findClass R_Pa = some m.cls := findClass_of_methodNamed B.named
  have hlocks := B.notSynchronized
  subst hsz
  have hD := hD0.self (sz := s.heap.size)
  generalize hAe : va_A (wQ cI cZ hp hc h a1 a2 a3 a4 ht hq n1 n2 (ad, st)) s.heap.size = A at hD hZ ⊢
  have hA : ∀ q : Nat, s.heap.size ≤ q → A q := fun q h => by rw [← hAe]; exact Or.inr h
  have hS : va_S A s.heap s.heap [] := va_S.rf
  have hcl : 0 + bC st ≤ bC st := Nat.le_of_eq (Nat.zero_add _)
  have hsl : 0 + bS st ≤ bS st := Nat.le_of_eq (Nat.zero_add _)
  have hl := lv_entry ([.ref hp, .int object]) (n := 6) (Nat.le_of_ble_eq_true rfl)
  rw [lg_entry_eq]
  generalize (lg_sl ([.ref hp, .int object]) ++ List.replicate (6 - (lg_sl ([.ref hp, .int object])).length) Slot.unset).toArray = ls at hl ⊢
  have hl : lv_has ls 6 [(0, .ref hp), (1, .int object)] := hl
  refine lv_aload_n hx hb d_Pa_openProperty_0 rfl (lv_at hl 0 rfl) ?_
  refine va_get (D := (dC, dI)) (ci := 2) (v := .int (sAt st)) (C := R_Pa) (T := T_Pa) (N := 7) hx hb hts u_Pa hown hK hP 0 rfl rfl 4 (by decide) (hts _ L_215) (fun x9 h9 => u_same (hts _ L_216) x9 h9) rfl d_Pa_openProperty_1 ?_
  refine lv_istore_n (lv' := [(2, .int (sAt st)), (0, .ref hp), (1, .int object)]) hx hb d_Pa_openProperty_4 rfl hl (by decide) rfl (fun ls hl => ?_)
  refine lv_aload_n hx hb d_Pa_openProperty_5 rfl (lv_at hl 1 rfl) ?_
  refine rd_V (v := (f_Pa_propertyKind st)) (As := []) (rest := []) ⟨hx, hb, hml, hown, hts0⟩ (m_Pa_propertyKind l dC dI cI cZ hp hc h a1 a2 a3 a4 ht ad.1 ad.2.1 ad.2.2.1 ad.2.2.2 hq n1 n2 st hst ) hP hK [0, 1, 2, 3, 4, 5, 6, 7, 8, 9, 10, 11, 12, 13, 14] rfl [0, 1] rfl 0 2 rfl rfl L_613 L_615 L_20 L_87 L_616 ⟨rfl, k_Pa_propertyKind⟩ ⟨Nat.le_of_ble_eq_true rfl, Nat.le_of_ble_eq_true rfl⟩ hl.1 ⟨Nat.le_trans (Nat.le_add_right _ _) hcl, Nat.le_trans (Nat.le_add_right _ _) hsl⟩ (Nat.le_of_ble_eq_true rfl) d_Pa_openProperty_6 rfl ?_
  refine lv_istore_n (lv' := [(3, .int (f_Pa_propertyKind st)), (2, .int (sAt st)), (0, .ref hp), (1, .int object)]) hx hb d_Pa_openProperty_9 rfl hl (by decide) rfl (fun ls hl => ?_)
  refine lv_iload_n hx hb d_Pa_openProperty_10 rfl (lv_at hl 0 rfl) ?_
  refine lv_bipush (v := 47) hx hb d_Pa_openProperty_11 (by decide) ?_
  refine lv_icmp_eq (tgt := 26) hx hb d_Pa_openProperty_13 (by decide) (fun c_1 => ?_) (fun c_1 => ?_)
  · refine lv_aload_n hx hb d_Pa_openProperty_26 rfl (lv_at hl 2 rfl) ?_
    refine va_get (D := (dC, dI)) (ci := 2) (v := .int (sAt st)) (C := R_Pa) (T := T_Pa) (N := 7) hx hb hts u_Pa hown hK hP 0 rfl rfl 4 (by decide) (hts _ L_215) (fun x9 h9 => u_same (hts _ L_216) x9 h9) rfl d_Pa_openProperty_27 ?_
    refine lv_istore (lv' := [(4, .int (sAt st)), (3, .int (f_Pa_propertyKind st)), (2, .int (sAt st)), (0, .ref hp), (1, .int object)]) hx hb d_Pa_openProperty_30 hl (by decide) rfl (fun ls hl => ?_)
    refine lv_aload_n hx hb d_Pa_openProperty_32 rfl (lv_at hl 3 rfl) ?_
    refine va_get (D := (dC, dI)) (ci := 2) (v := .ref h) (C := R_Pa) (T := T_Pa) (N := 7) hx hb hts u_Pa hown hK hP 0 rfl rfl 3 (by decide) (hts _ L_212) (fun x9 h9 => u_same (hts _ L_213) x9 h9) rfl d_Pa_openProperty_33 ?_
    refine lv_iload hx hb d_Pa_openProperty_36 (lv_at hl 0 rfl) ?_
    refine rd_V (v := (f_Tk_propertyName (sTk st) (sAt st))) (As := [.int (sAt st)]) (rest := []) ⟨hx, hb, hml, hown, hts0⟩ (m_Tk_propertyName l dC dI cI cZ h a1 a2 a3 a4 (sTk st) hst.1 (sAt st)) hP hK [2, 3, 4, 5, 6] rfl [0, 1] rfl 0 3 rfl rfl L_618 L_619 L_620 L_84 L_621 ⟨rfl, k_Tk_propertyName⟩ ⟨Nat.le_of_ble_eq_true rfl, Nat.le_of_ble_eq_true rfl⟩ hl.1 ⟨Nat.le_trans (Nat.le_add_right _ _) hcl, Nat.le_trans (Nat.le_add_right _ _) hsl⟩ (Nat.le_of_ble_eq_true rfl) d_Pa_openProperty_38 rfl ?_
    refine lv_if_ne (tgt := 50) hx hb d_Pa_openProperty_41 (by decide) (fun c_2 => ?_) (fun c_2 => ?_)
    · refine lv_aload_n hx hb d_Pa_openProperty_50 rfl (lv_at hl 3 rfl) ?_
      refine lv_dup hx hb d_Pa_openProperty_51 rfl ?_
      refine va_get (D := (dC, dI)) (ci := 2) (v := .int (sAt st)) (C := R_Pa) (T := T_Pa) (N := 7) hx hb hts u_Pa hown hK hP 0 rfl rfl 4 (by decide) (hts _ L_215) (fun x9 h9 => u_same (hts _ L_216) x9 h9) rfl d_Pa_openProperty_52 ?_
      refine lv_iconst (v := 1) hx hb d_Pa_openProperty_55 (by decide) ?_
      refine lv_iadd hx hb d_Pa_openProperty_56 ?_
      refine va_put (D := (dC, dI)) (ci := 2) (v := .int ((sAt st) + 1)) (ty := .int) (C := R_Pa) (T := T_Pa) (N := 7) hx hb hts u_Pa ty_Pa tk_Pa nm_Pa hown hK hP hD hS 0 rfl rfl 4 (by decide) (hts _ L_215) (fun x9 h9 => u_same (hts _ L_216) x9 h9) rfl (by decide +kernel) rfl rfl (Nat.le_of_ble_eq_true rfl) d_Pa_openProperty_57 (fun H locs hP hD hS => ?_)
      have hP : va_P (dC, dI) cls (wQ cI cZ hp hc h a1 a2 a3 a4 ht hq n1 n2 (ad, (setAt st ((sAt st) + 1)))) H := hP
      have hD : va_D A (wQ cI cZ hp hc h a1 a2 a3 a4 ht hq n1 n2 (ad, (setAt st ((sAt st) + 1)))) := hD
      refine lv_iload_n hx hb d_Pa_openProperty_60 rfl (lv_at hl 1 rfl) ?_
      refine lv_bipush (v := 47) hx hb d_Pa_openProperty_61 (by decide) ?_
      refine lv_icmp_ne (tgt := 72) hx hb d_Pa_openProperty_63 (by decide) (fun q9 => absurd c_1 q9) (fun _ => ?_)
      refine lv_aload_n hx hb d_Pa_openProperty_66 rfl (lv_at hl 3 rfl) ?_
      refine lv_bipush (v := 70) hx hb d_Pa_openProperty_67 (by decide) ?_
      refine mx_Uv (xm := ⟨"SyntaxTree$Parser", "expect", "(I)V"⟩) (owner := R_Cu) (As := [.int 70]) (rest := []) ⟨hx, hb, hml, hown, hts0⟩ (m_Cu_expect l hlt dC dI cI cZ sa rk hp hc h a1 a2 a3 a4 ht hq n1 n2 ad (setAt st ((sAt st) + 1)) (show okSt (setAt st ((sAt st) + 1)) from ⟨hst.1, hst.2.1, hst.2.2.1, hst.2.2.2⟩) _ 70 (fun z => hg (by unfold f_Pa_openProperty; rw [if_pos c_1, if_neg c_2, bnd_n z]))) hP hD hK hS hA hC hZ hnt hlocks L_510 L_511 L_513 L_514 L_86 L_515 rfl k_Cu_expect ⟨Nat.le_of_ble_eq_true rfl, Nat.le_of_ble_eq_true rfl⟩ rfl rfl hl.1 (Nat.le_of_ble_eq_true rfl) d_Pa_openProperty_69 rfl (fun q z => by unfold f_Pa_openProperty; rw [if_pos c_1, if_neg c_2, bnd_l z]) hcl hsl (fun ad_3 st_3 H locs w_3 ok_3 e1_3 e2_3 hP hD hS => ?_)
      have hcl := cl_next hcl e1_3
      have hsl := cl_next hsl e2_3
      refine lv_aload_n hx hb d_Pa_openProperty_72 rfl (lv_at hl 3 rfl) ?_
      refine va_get (D := (dC, dI)) (ci := 2) (v := .ref h) (C := R_Pa) (T := T_Pa) (N := 7) hx hb hts u_Pa hown hK hP 0 rfl rfl 3 (by decide) (hts _ L_212) (fun x9 h9 => u_same (hts _ L_213) x9 h9) rfl d_Pa_openProperty_73 ?_
      refine lv_iload hx hb d_Pa_openProperty_76 (lv_at hl 0 rfl) ?_
      refine rd_V (v := (f_Tk_name (sTk st_3) (sAt st))) (As := [.int (sAt st)]) (rest := []) ⟨hx, hb, hml, hown, hts0⟩ (m_Tk_name l dC dI cI cZ h a1 a2 a3 a4 (sTk st_3) ok_3.1 (sAt st)) hP hK [2, 3, 4, 5, 6] rfl [0, 1] rfl 0 3 rfl rfl L_623 L_478 L_479 L_84 L_480 ⟨rfl, k_Tk_name⟩ ⟨Nat.le_of_ble_eq_true rfl, Nat.le_of_ble_eq_true rfl⟩ hl.1 ⟨Nat.le_trans (Nat.le_add_right _ _) hcl, Nat.le_trans (Nat.le_add_right _ _) hsl⟩ (Nat.le_of_ble_eq_true rfl) d_Pa_openProperty_78 rfl ?_
      refine lv_istore (lv' := [(5, .int (f_Tk_name (sTk st_3) (sAt st))), (4, .int (sAt st)), (3, .int (f_Pa_propertyKind st)), (2, .int (sAt st)), (0, .ref hp), (1, .int object)]) hx hb d_Pa_openProperty_81 hl (by decide) rfl (fun ls hl => ?_)
      refine lv_aload_n hx hb d_Pa_openProperty_83 rfl (lv_at hl 4 rfl) ?_
      refine lv_iload_n hx hb d_Pa_openProperty_84 rfl (lv_at hl 5 rfl) ?_
      refine lv_iload_n hx hb d_Pa_openProperty_85 rfl (lv_at hl 2 rfl) ?_
      refine lv_iload hx hb d_Pa_openProperty_86 (lv_at hl 0 rfl) ?_
      obtain ⟨v_4, w_4⟩ : ∃ v9, (f_Pa_clashes st_3 object (f_Pa_propertyKind st) (f_Tk_name (sTk st_3) (sAt st))) = some v9 := bnO_ex ((fun z => hg (by unfold f_Pa_openProperty; rw [if_pos c_1, if_neg c_2, bnd_r w_3, bnO_n z])))
      refine rd_V (v := v_4) (As := [.int object, .int (f_Pa_propertyKind st), .int (f_Tk_name (sTk st_3) (sAt st))]) (rest := []) ⟨hx, hb, hml, hown, hts0⟩ (m_Pa_clashes l dC dI cI cZ hp hc h a1 a2 a3 a4 ht ad_3.1 ad_3.2.1 ad_3.2.2.1 ad_3.2.2.2 hq n1 n2 st_3 ok_3 object (f_Pa_propertyKind st) (f_Tk_name (sTk st_3) (sAt st)) v_4 w_4) hP hK [0, 1, 2, 3, 4, 5, 6, 7, 8, 9, 10, 11, 12, 13, 14] rfl [0, 1] rfl 0 2 rfl rfl L_624 L_626 L_21 L_87 L_627 ⟨rfl, k_Pa_clashes⟩ ⟨Nat.le_of_ble_eq_true rfl, Nat.le_of_ble_eq_true rfl⟩ hl.1 ⟨Nat.le_trans (Nat.le_add_right _ _) hcl, Nat.le_trans (Nat.le_add_right _ _) hsl⟩ (Nat.le_of_ble_eq_true rfl) d_Pa_openProperty_88 rfl ?_
      refine lv_if_eq (tgt := 100) hx hb d_Pa_openProperty_91 (by decide) (fun c_5 => ?_) (fun c_5 => ?_)
      · refine lv_aload_n hx hb d_Pa_openProperty_100 rfl (lv_at hl 4 rfl) ?_
        refine va_get (D := (dC, dI)) (ci := 2) (v := .ref ht) (C := R_Pa) (T := T_Pa) (N := 7) hx hb hts u_Pa hown hK hP 0 rfl rfl 0 (by decide) (hts _ L_208) (fun _ h9 => h9) rfl d_Pa_openProperty_101 ?_
        refine lv_iload_n hx hb d_Pa_openProperty_104 rfl (lv_at hl 2 rfl) ?_
        refine lv_iload hx hb d_Pa_openProperty_105 (lv_at hl 0 rfl) ?_
        refine lv_iload_n hx hb d_Pa_openProperty_107 rfl (lv_at hl 3 rfl) ?_
        have hn_6 : (p_open st_3 (f_Pa_propertyKind st) (f_Tk_name (sTk st_3) (sAt st)) (sAt st)) ≠ none := (fun z => hg (by unfold f_Pa_openProperty; rw [if_pos c_1, if_neg c_2, bnd_r w_3, bnO_s w_4, if_pos c_5, bnd_n z]))
        refine pT_i (g := (p_open st_3 (f_Pa_propertyKind st) (f_Tk_name (sTk st_3) (sAt st)) (sAt st))) (st := st_3) (As := [.int (f_Pa_propertyKind st), .int (f_Tk_name (sTk st_3) (sAt st)), .int (sAt st)]) (rest := []) ⟨hx, hb, hml, hown, hts0⟩ (m_Tr_open l dC dI cI cZ sa rk ht ad_3 (sTr st_3) ok_3.2.1 _ (f_Pa_propertyKind st) (f_Tk_name (sTk st_3) (sAt st)) (sAt st) (p_open_c hn_6).1 (p_open_c hn_6).2.1) hP hD hK hS hA hC hZ L_416 L_417 L_418 L_85 L_419 ⟨rfl, k_Tr_open⟩ ⟨Nat.le_of_ble_eq_true rfl, Nat.le_of_ble_eq_true rfl⟩ rfl rfl hl.1 (Nat.le_of_ble_eq_true rfl) d_Pa_openProperty_108 rfl hcl hsl (p_open_c hn_6).2.2.1 (p_open_c hn_6).2.2.2 ok_3 (t_open_ok (f_Pa_propertyKind st) (f_Tk_name (sTk st_3) (sAt st)) (sAt st) ok_3.2.1 (p_open_c hn_6).1 (p_open_c hn_6).2.1) (p_open_e hn_6) (fun r_6 ad_6 st_6 H locs w_6 ok_6 e1_6 e2_6 hP hD hS => ?_)
        have hcl := cl_next hcl e1_6
        have hsl := cl_next hsl e2_6
        exact mx_iret (v := r_6) (stF := st_6) hx hb hr hlocks hK hP hD hS hcl hsl (by unfold f_Pa_openProperty; rw [if_pos c_1, if_neg c_2, bnd_r w_3, bnO_s w_4, if_pos c_5, bnd_r w_6]) ok_6 d_Pa_openProperty_111
      · refine lv_aload_n hx hb d_Pa_openProperty_94 rfl (lv_at hl 4 rfl) ?_
        refine lv_iload hx hb d_Pa_openProperty_95 (lv_at hl 1 rfl) ?_
        refine mx_Uv (xm := ⟨"SyntaxTree$Parser", "refuse", "(I)V"⟩) (owner := R_Cu) (As := [.int (sAt st)]) (rest := []) ⟨hx, hb, hml, hown, hts0⟩ (m_Cu_refuse l hlt dC dI cI cZ sa rk hp hc h a1 a2 a3 a4 ht hq n1 n2 ad_3 st_3 ok_3 _ (sAt st) (fun z => hg (by unfold f_Pa_openProperty; rw [if_pos c_1, if_neg c_2, bnd_r w_3, bnO_s w_4, if_neg c_5, bnd_n z]))) hP hD hK hS hA hC hZ hnt hlocks L_536 L_537 L_539 L_460 L_86 L_463 rfl k_Cu_refuse ⟨Nat.le_of_ble_eq_true rfl, Nat.le_of_ble_eq_true rfl⟩ rfl rfl hl.1 (Nat.le_of_ble_eq_true rfl) d_Pa_openProperty_97 rfl (fun q z => by unfold f_Pa_openProperty; rw [if_pos c_1, if_neg c_2, bnd_r w_3, bnO_s w_4, if_neg c_5, bnd_l z]) hcl hsl (fun ad_7 st_7 H locs w_7 ok_7 e1_7 e2_7 hP hD hS => ?_)
        have hcl := cl_next hcl e1_7
        have hsl := cl_next hsl e2_7
        refine lv_aload_n hx hb d_Pa_openProperty_100 rfl (lv_at hl 4 rfl) ?_
        refine va_get (D := (dC, dI)) (ci := 2) (v := .ref ht) (C := R_Pa) (T := T_Pa) (N := 7) hx hb hts u_Pa hown hK hP 0 rfl rfl 0 (by decide) (hts _ L_208) (fun _ h9 => h9) rfl d_Pa_openProperty_101 ?_
        refine lv_iload_n hx hb d_Pa_openProperty_104 rfl (lv_at hl 2 rfl) ?_
        refine lv_iload hx hb d_Pa_openProperty_105 (lv_at hl 0 rfl) ?_
        refine lv_iload_n hx hb d_Pa_openProperty_107 rfl (lv_at hl 3 rfl) ?_
        have hn_8 : (p_open st_7 (f_Pa_propertyKind st) (f_Tk_name (sTk st_3) (sAt st)) (sAt st)) ≠ none := (fun z => hg (by unfold f_Pa_openProperty; rw [if_pos c_1, if_neg c_2, bnd_r w_3, bnO_s w_4, if_neg c_5, bnd_r w_7, bnd_n z]))
        refine pT_i (g := (p_open st_7 (f_Pa_propertyKind st) (f_Tk_name (sTk st_3) (sAt st)) (sAt st))) (st := st_7) (As := [.int (f_Pa_propertyKind st), .int (f_Tk_name (sTk st_3) (sAt st)), .int (sAt st)]) (rest := []) ⟨hx, hb, hml, hown, hts0⟩ (m_Tr_open l dC dI cI cZ sa rk ht ad_7 (sTr st_7) ok_7.2.1 _ (f_Pa_propertyKind st) (f_Tk_name (sTk st_3) (sAt st)) (sAt st) (p_open_c hn_8).1 (p_open_c hn_8).2.1) hP hD hK hS hA hC hZ L_416 L_417 L_418 L_85 L_419 ⟨rfl, k_Tr_open⟩ ⟨Nat.le_of_ble_eq_true rfl, Nat.le_of_ble_eq_true rfl⟩ rfl rfl hl.1 (Nat.le_of_ble_eq_true rfl) d_Pa_openProperty_108 rfl hcl hsl (p_open_c hn_8).2.2.1 (p_open_c hn_8).2.2.2 ok_7 (t_open_ok (f_Pa_propertyKind st) (f_Tk_name (sTk st_3) (sAt st)) (sAt st) ok_7.2.1 (p_open_c hn_8).1 (p_open_c hn_8).2.1) (p_open_e hn_8) (fun r_8 ad_8 st_8 H locs w_8 ok_8 e1_8 e2_8 hP hD hS => ?_)
        have hcl := cl_next hcl e1_8
        have hsl := cl_next hsl e2_8
        exact mx_iret (v := r_8) (stF := st_8) hx hb hr hlocks hK hP hD hS hcl hsl (by unfold f_Pa_openProperty; rw [if_pos c_1, if_neg c_2, bnd_r w_3, bnO_s w_4, if_neg c_5, bnd_r w_7, bnd_r w_8]) ok_8 d_Pa_openProperty_111
    · refine lv_aload_n hx hb d_Pa_openProperty_44 rfl (lv_at hl 3 rfl) ?_
      refine lv_iload hx hb d_Pa_openProperty_45 (lv_at hl 0 rfl) ?_
      refine mx_Uv (xm := ⟨"SyntaxTree$Parser", "refuse", "(I)V"⟩) (owner := R_Cu) (As := [.int (sAt st)]) (rest := []) ⟨hx, hb, hml, hown, hts0⟩ (m_Cu_refuse l hlt dC dI cI cZ sa rk hp hc h a1 a2 a3 a4 ht hq n1 n2 ad st hst _ (sAt st) (fun z => hg (by unfold f_Pa_openProperty; rw [if_pos c_1, if_pos c_2, bnd_n z]))) hP hD hK hS hA hC hZ hnt hlocks L_536 L_537 L_539 L_460 L_86 L_463 rfl k_Cu_refuse ⟨Nat.le_of_ble_eq_true rfl, Nat.le_of_ble_eq_true rfl⟩ rfl rfl hl.1 (Nat.le_of_ble_eq_true rfl) d_Pa_openProperty_47 rfl (fun q z => by unfold f_Pa_openProperty; rw [if_pos c_1, if_pos c_2, bnd_l z]) hcl hsl (fun ad_9 st_9 H locs w_9 ok_9 e1_9 e2_9 hP hD hS => ?_)
      have hcl := cl_next hcl e1_9
      have hsl := cl_next hsl e2_9
      refine lv_aload_n hx hb d_Pa_openProperty_50 rfl (lv_at hl 3 rfl) ?_
      refine lv_dup hx hb d_Pa_openProperty_51 rfl ?_
      refine va_get (D := (dC, dI)) (ci := 2) (v := .int (sAt st_9)) (C := R_Pa) (T := T_Pa) (N := 7) hx hb hts u_Pa hown hK hP 0 rfl rfl 4 (by decide) (hts _ L_215) (fun x9 h9 => u_same (hts _ L_216) x9 h9) rfl d_Pa_openProperty_52 ?_
      refine lv_iconst (v := 1) hx hb d_Pa_openProperty_55 (by decide) ?_
      refine lv_iadd hx hb d_Pa_openProperty_56 ?_
      refine va_put (D := (dC, dI)) (ci := 2) (v := .int ((sAt st_9) + 1)) (ty := .int) (C := R_Pa) (T := T_Pa) (N := 7) hx hb hts u_Pa ty_Pa tk_Pa nm_Pa hown hK hP hD hS 0 rfl rfl 4 (by decide) (hts _ L_215) (fun x9 h9 => u_same (hts _ L_216) x9 h9) rfl (by decide +kernel) rfl rfl (Nat.le_of_ble_eq_true rfl) d_Pa_openProperty_57 (fun H locs hP hD hS => ?_)
      have hP : va_P (dC, dI) cls (wQ cI cZ hp hc h a1 a2 a3 a4 ht hq n1 n2 (ad_9, (setAt st_9 ((sAt st_9) + 1)))) H := hP
      have hD : va_D A (wQ cI cZ hp hc h a1 a2 a3 a4 ht hq n1 n2 (ad_9, (setAt st_9 ((sAt st_9) + 1)))) := hD
      refine lv_iload_n hx hb d_Pa_openProperty_60 rfl (lv_at hl 1 rfl) ?_
      refine lv_bipush (v := 47) hx hb d_Pa_openProperty_61 (by decide) ?_
      refine lv_icmp_ne (tgt := 72) hx hb d_Pa_openProperty_63 (by decide) (fun q9 => absurd c_1 q9) (fun _ => ?_)
      refine lv_aload_n hx hb d_Pa_openProperty_66 rfl (lv_at hl 3 rfl) ?_
      refine lv_bipush (v := 70) hx hb d_Pa_openProperty_67 (by decide) ?_
      refine mx_Uv (xm := ⟨"SyntaxTree$Parser", "expect", "(I)V"⟩) (owner := R_Cu) (As := [.int 70]) (rest := []) ⟨hx, hb, hml, hown, hts0⟩ (m_Cu_expect l hlt dC dI cI cZ sa rk hp hc h a1 a2 a3 a4 ht hq n1 n2 ad_9 (setAt st_9 ((sAt st_9) + 1)) (show okSt (setAt st_9 ((sAt st_9) + 1)) from ⟨ok_9.1, ok_9.2.1, ok_9.2.2.1, ok_9.2.2.2⟩) _ 70 (fun z => hg (by unfold f_Pa_openProperty; rw [if_pos c_1, if_pos c_2, bnd_r w_9, bnd_n z]))) hP hD hK hS hA hC hZ hnt hlocks L_510 L_511 L_513 L_514 L_86 L_515 rfl k_Cu_expect ⟨Nat.le_of_ble_eq_true rfl, Nat.le_of_ble_eq_true rfl⟩ rfl rfl hl.1 (Nat.le_of_ble_eq_true rfl) d_Pa_openProperty_69 rfl (fun q z => by unfold f_Pa_openProperty; rw [if_pos c_1, if_pos c_2, bnd_r w_9, bnd_l z]) hcl hsl (fun ad_10 st_10 H locs w_10 ok_10 e1_10 e2_10 hP hD hS => ?_)
      have hcl := cl_next hcl e1_10
      have hsl := cl_next hsl e2_10
      refine lv_aload_n hx hb d_Pa_openProperty_72 rfl (lv_at hl 3 rfl) ?_
      refine va_get (D := (dC, dI)) (ci := 2) (v := .ref h) (C := R_Pa) (T := T_Pa) (N := 7) hx hb hts u_Pa hown hK hP 0 rfl rfl 3 (by decide) (hts _ L_212) (fun x9 h9 => u_same (hts _ L_213) x9 h9) rfl d_Pa_openProperty_73 ?_
      refine lv_iload hx hb d_Pa_openProperty_76 (lv_at hl 0 rfl) ?_
      refine rd_V (v := (f_Tk_name (sTk st_10) (sAt st))) (As := [.int (sAt st)]) (rest := []) ⟨hx, hb, hml, hown, hts0⟩ (m_Tk_name l dC dI cI cZ h a1 a2 a3 a4 (sTk st_10) ok_10.1 (sAt st)) hP hK [2, 3, 4, 5, 6] rfl [0, 1] rfl 0 3 rfl rfl L_623 L_478 L_479 L_84 L_480 ⟨rfl, k_Tk_name⟩ ⟨Nat.le_of_ble_eq_true rfl, Nat.le_of_ble_eq_true rfl⟩ hl.1 ⟨Nat.le_trans (Nat.le_add_right _ _) hcl, Nat.le_trans (Nat.le_add_right _ _) hsl⟩ (Nat.le_of_ble_eq_true rfl) d_Pa_openProperty_78 rfl ?_
      refine lv_istore (lv' := [(5, .int (f_Tk_name (sTk st_10) (sAt st))), (4, .int (sAt st)), (3, .int (f_Pa_propertyKind st)), (2, .int (sAt st)), (0, .ref hp), (1, .int object)]) hx hb d_Pa_openProperty_81 hl (by decide) rfl (fun ls hl => ?_)
      refine lv_aload_n hx hb d_Pa_openProperty_83 rfl (lv_at hl 4 rfl) ?_
      refine lv_iload_n hx hb d_Pa_openProperty_84 rfl (lv_at hl 5 rfl) ?_
      refine lv_iload_n hx hb d_Pa_openProperty_85 rfl (lv_at hl 2 rfl) ?_
      refine lv_iload hx hb d_Pa_openProperty_86 (lv_at hl 0 rfl) ?_
      obtain ⟨v_11, w_11⟩ : ∃ v9, (f_Pa_clashes st_10 object (f_Pa_propertyKind st) (f_Tk_name (sTk st_10) (sAt st))) = some v9 := bnO_ex ((fun z => hg (by unfold f_Pa_openProperty; rw [if_pos c_1, if_pos c_2, bnd_r w_9, bnd_r w_10, bnO_n z])))
      refine rd_V (v := v_11) (As := [.int object, .int (f_Pa_propertyKind st), .int (f_Tk_name (sTk st_10) (sAt st))]) (rest := []) ⟨hx, hb, hml, hown, hts0⟩ (m_Pa_clashes l dC dI cI cZ hp hc h a1 a2 a3 a4 ht ad_10.1 ad_10.2.1 ad_10.2.2.1 ad_10.2.2.2 hq n1 n2 st_10 ok_10 object (f_Pa_propertyKind st) (f_Tk_name (sTk st_10) (sAt st)) v_11 w_11) hP hK [0, 1, 2, 3, 4, 5, 6, 7, 8, 9, 10, 11, 12, 13, 14] rfl [0, 1] rfl 0 2 rfl rfl L_624 L_626 L_21 L_87 L_627 ⟨rfl, k_Pa_clashes⟩ ⟨Nat.le_of_ble_eq_true rfl, Nat.le_of_ble_eq_true rfl⟩ hl.1 ⟨Nat.le_trans (Nat.le_add_right _ _) hcl, Nat.le_trans (Nat.le_add_right _ _) hsl⟩ (Nat.le_of_ble_eq_true rfl) d_Pa_openProperty_88 rfl ?_
      refine lv_if_eq (tgt := 100) hx hb d_Pa_openProperty_91 (by decide) (fun c_12 => ?_) (fun c_12 => ?_)
      · refine lv_aload_n hx hb d_Pa_openProperty_100 rfl (lv_at hl 4 rfl) ?_
        refine va_get (D := (dC, dI)) (ci := 2) (v := .ref ht) (C := R_Pa) (T := T_Pa) (N := 7) hx hb hts u_Pa hown hK hP 0 rfl rfl 0 (by decide) (hts _ L_208) (fun _ h9 => h9) rfl d_Pa_openProperty_101 ?_
        refine lv_iload_n hx hb d_Pa_openProperty_104 rfl (lv_at hl 2 rfl) ?_
        refine lv_iload hx hb d_Pa_openProperty_105 (lv_at hl 0 rfl) ?_
        refine lv_iload_n hx hb d_Pa_openProperty_107 rfl (lv_at hl 3 rfl) ?_
        have hn_13 : (p_open st_10 (f_Pa_propertyKind st) (f_Tk_name (sTk st_10) (sAt st)) (sAt st)) ≠ none := (fun z => hg (by unfold f_Pa_openProperty; rw [if_pos c_1, if_pos c_2, bnd_r w_9, bnd_r w_10, bnO_s w_11, if_pos c_12, bnd_n z]))
        refine pT_i (g := (p_open st_10 (f_Pa_propertyKind st) (f_Tk_name (sTk st_10) (sAt st)) (sAt st))) (st := st_10) (As := [.int (f_Pa_propertyKind st), .int (f_Tk_name (sTk st_10) (sAt st)), .int (sAt st)]) (rest := []) ⟨hx, hb, hml, hown, hts0⟩ (m_Tr_open l dC dI cI cZ sa rk ht ad_10 (sTr st_10) ok_10.2.1 _ (f_Pa_propertyKind st) (f_Tk_name (sTk st_10) (sAt st)) (sAt st) (p_open_c hn_13).1 (p_open_c hn_13).2.1) hP hD hK hS hA hC hZ L_416 L_417 L_418 L_85 L_419 ⟨rfl, k_Tr_open⟩ ⟨Nat.le_of_ble_eq_true rfl, Nat.le_of_ble_eq_true rfl⟩ rfl rfl hl.1 (Nat.le_of_ble_eq_true rfl) d_Pa_openProperty_108 rfl hcl hsl (p_open_c hn_13).2.2.1 (p_open_c hn_13).2.2.2 ok_10 (t_open_ok (f_Pa_propertyKind st) (f_Tk_name (sTk st_10) (sAt st)) (sAt st) ok_10.2.1 (p_open_c hn_13).1 (p_open_c hn_13).2.1) (p_open_e hn_13) (fun r_13 ad_13 st_13 H locs w_13 ok_13 e1_13 e2_13 hP hD hS => ?_)
        have hcl := cl_next hcl e1_13
        have hsl := cl_next hsl e2_13
        exact mx_iret (v := r_13) (stF := st_13) hx hb hr hlocks hK hP hD hS hcl hsl (by unfold f_Pa_openProperty; rw [if_pos c_1, if_pos c_2, bnd_r w_9, bnd_r w_10, bnO_s w_11, if_pos c_12, bnd_r w_13]) ok_13 d_Pa_openProperty_111
      · refine lv_aload_n hx hb d_Pa_openProperty_94 rfl (lv_at hl 4 rfl) ?_
        refine lv_iload hx hb d_Pa_openProperty_95 (lv_at hl 1 rfl) ?_
        refine mx_Uv (xm := ⟨"SyntaxTree$Parser", "refuse", "(I)V"⟩) (owner := R_Cu) (As := [.int (sAt st)]) (rest := []) ⟨hx, hb, hml, hown, hts0⟩ (m_Cu_refuse l hlt dC dI cI cZ sa rk hp hc h a1 a2 a3 a4 ht hq n1 n2 ad_10 st_10 ok_10 _ (sAt st) (fun z => hg (by unfold f_Pa_openProperty; rw [if_pos c_1, if_pos c_2, bnd_r w_9, bnd_r w_10, bnO_s w_11, if_neg c_12, bnd_n z]))) hP hD hK hS hA hC hZ hnt hlocks L_536 L_537 L_539 L_460 L_86 L_463 rfl k_Cu_refuse ⟨Nat.le_of_ble_eq_true rfl, Nat.le_of_ble_eq_true rfl⟩ rfl rfl hl.1 (Nat.le_of_ble_eq_true rfl) d_Pa_openProperty_97 rfl (fun q z => by unfold f_Pa_openProperty; rw [if_pos c_1, if_pos c_2, bnd_r w_9, bnd_r w_10, bnO_s w_11, if_neg c_12, bnd_l z]) hcl hsl (fun ad_14 st_14 H locs w_14 ok_14 e1_14 e2_14 hP hD hS => ?_)
        have hcl := cl_next hcl e1_14
        have hsl := cl_next hsl e2_14
        refine lv_aload_n hx hb d_Pa_openProperty_100 rfl (lv_at hl 4 rfl) ?_
        refine va_get (D := (dC, dI)) (ci := 2) (v := .ref ht) (C := R_Pa) (T := T_Pa) (N := 7) hx hb hts u_Pa hown hK hP 0 rfl rfl 0 (by decide) (hts _ L_208) (fun _ h9 => h9) rfl d_Pa_openProperty_101 ?_
        refine lv_iload_n hx hb d_Pa_openProperty_104 rfl (lv_at hl 2 rfl) ?_
        refine lv_iload hx hb d_Pa_openProperty_105 (lv_at hl 0 rfl) ?_
        refine lv_iload_n hx hb d_Pa_openProperty_107 rfl (lv_at hl 3 rfl) ?_
        have hn_15 : (p_open st_14 (f_Pa_propertyKind st) (f_Tk_name (sTk st_10) (sAt st)) (sAt st)) ≠ none := (fun z => hg (by unfold f_Pa_openProperty; rw [if_pos c_1, if_pos c_2, bnd_r w_9, bnd_r w_10, bnO_s w_11, if_neg c_12, bnd_r w_14, bnd_n z]))
        refine pT_i (g := (p_open st_14 (f_Pa_propertyKind st) (f_Tk_name (sTk st_10) (sAt st)) (sAt st))) (st := st_14) (As := [.int (f_Pa_propertyKind st), .int (f_Tk_name (sTk st_10) (sAt st)), .int (sAt st)]) (rest := []) ⟨hx, hb, hml, hown, hts0⟩ (m_Tr_open l dC dI cI cZ sa rk ht ad_14 (sTr st_14) ok_14.2.1 _ (f_Pa_propertyKind st) (f_Tk_name (sTk st_10) (sAt st)) (sAt st) (p_open_c hn_15).1 (p_open_c hn_15).2.1) hP hD hK hS hA hC hZ L_416 L_417 L_418 L_85 L_419 ⟨rfl, k_Tr_open⟩ ⟨Nat.le_of_ble_eq_true rfl, Nat.le_of_ble_eq_true rfl⟩ rfl rfl hl.1 (Nat.le_of_ble_eq_true rfl) d_Pa_openProperty_108 rfl hcl hsl (p_open_c hn_15).2.2.1 (p_open_c hn_15).2.2.2 ok_14 (t_open_ok (f_Pa_propertyKind st) (f_Tk_name (sTk st_10) (sAt st)) (sAt st) ok_14.2.1 (p_open_c hn_15).1 (p_open_c hn_15).2.1) (p_open_e hn_15) (fun r_15 ad_15 st_15 H locs w_15 ok_15 e1_15 e2_15 hP hD hS => ?_)
        have hcl := cl_next hcl e1_15
        have hsl := cl_next hsl e2_15
        exact mx_iret (v := r_15) (stF := st_15) hx hb hr hlocks hK hP hD hS hcl hsl (by unfold f_Pa_openProperty; rw [if_pos c_1, if_pos c_2, bnd_r w_9, bnd_r w_10, bnO_s w_11, if_neg c_12, bnd_r w_14, bnd_r w_15]) ok_15 d_Pa_openProperty_111
  · refine lv_aload_n hx hb d_Pa_openProperty_16 rfl (lv_at hl 2 rfl) ?_
    refine lv_dup hx hb d_Pa_openProperty_17 rfl ?_
    refine va_get (D := (dC, dI)) (ci := 2) (v := .int (sAt st)) (C := R_Pa) (T := T_Pa) (N := 7) hx hb hts u_Pa hown hK hP 0 rfl rfl 4 (by decide) (hts _ L_215) (fun x9 h9 => u_same (hts _ L_216) x9 h9) rfl d_Pa_openProperty_18 ?_
    refine lv_iconst (v := 1) hx hb d_Pa_openProperty_21 (by decide) ?_
    refine lv_iadd hx hb d_Pa_openProperty_22 ?_
    refine va_put (D := (dC, dI)) (ci := 2) (v := .int ((sAt st) + 1)) (ty := .int) (C := R_Pa) (T := T_Pa) (N := 7) hx hb hts u_Pa ty_Pa tk_Pa nm_Pa hown hK hP hD hS 0 rfl rfl 4 (by decide) (hts _ L_215) (fun x9 h9 => u_same (hts _ L_216) x9 h9) rfl (by decide +kernel) rfl rfl (Nat.le_of_ble_eq_true rfl) d_Pa_openProperty_23 (fun H locs hP hD hS => ?_)
    have hP : va_P (dC, dI) cls (wQ cI cZ hp hc h a1 a2 a3 a4 ht hq n1 n2 (ad, (setAt st ((sAt st) + 1)))) H := hP
    have hD : va_D A (wQ cI cZ hp hc h a1 a2 a3 a4 ht hq n1 n2 (ad, (setAt st ((sAt st) + 1)))) := hD
    refine lv_aload_n hx hb d_Pa_openProperty_26 rfl (lv_at hl 2 rfl) ?_
    refine va_get (D := (dC, dI)) (ci := 2) (v := .int ((sAt st) + 1)) (C := R_Pa) (T := T_Pa) (N := 7) hx hb hts u_Pa hown hK hP 0 rfl rfl 4 (by decide) (hts _ L_215) (fun x9 h9 => u_same (hts _ L_216) x9 h9) rfl d_Pa_openProperty_27 ?_
    refine lv_istore (lv' := [(4, .int ((sAt st) + 1)), (3, .int (f_Pa_propertyKind st)), (2, .int (sAt st)), (0, .ref hp), (1, .int object)]) hx hb d_Pa_openProperty_30 hl (by decide) rfl (fun ls hl => ?_)
    refine lv_aload_n hx hb d_Pa_openProperty_32 rfl (lv_at hl 3 rfl) ?_
    refine va_get (D := (dC, dI)) (ci := 2) (v := .ref h) (C := R_Pa) (T := T_Pa) (N := 7) hx hb hts u_Pa hown hK hP 0 rfl rfl 3 (by decide) (hts _ L_212) (fun x9 h9 => u_same (hts _ L_213) x9 h9) rfl d_Pa_openProperty_33 ?_
    refine lv_iload hx hb d_Pa_openProperty_36 (lv_at hl 0 rfl) ?_
    refine rd_V (v := (f_Tk_propertyName (sTk st) ((sAt st) + 1))) (As := [.int ((sAt st) + 1)]) (rest := []) ⟨hx, hb, hml, hown, hts0⟩ (m_Tk_propertyName l dC dI cI cZ h a1 a2 a3 a4 (sTk st) hst.1 ((sAt st) + 1)) hP hK [2, 3, 4, 5, 6] rfl [0, 1] rfl 0 3 rfl rfl L_618 L_619 L_620 L_84 L_621 ⟨rfl, k_Tk_propertyName⟩ ⟨Nat.le_of_ble_eq_true rfl, Nat.le_of_ble_eq_true rfl⟩ hl.1 ⟨Nat.le_trans (Nat.le_add_right _ _) hcl, Nat.le_trans (Nat.le_add_right _ _) hsl⟩ (Nat.le_of_ble_eq_true rfl) d_Pa_openProperty_38 rfl ?_
    refine lv_if_ne (tgt := 50) hx hb d_Pa_openProperty_41 (by decide) (fun c_16 => ?_) (fun c_16 => ?_)
    · refine lv_aload_n hx hb d_Pa_openProperty_50 rfl (lv_at hl 3 rfl) ?_
      refine lv_dup hx hb d_Pa_openProperty_51 rfl ?_
      refine va_get (D := (dC, dI)) (ci := 2) (v := .int ((sAt st) + 1)) (C := R_Pa) (T := T_Pa) (N := 7) hx hb hts u_Pa hown hK hP 0 rfl rfl 4 (by decide) (hts _ L_215) (fun x9 h9 => u_same (hts _ L_216) x9 h9) rfl d_Pa_openProperty_52 ?_
      refine lv_iconst (v := 1) hx hb d_Pa_openProperty_55 (by decide) ?_
      refine lv_iadd hx hb d_Pa_openProperty_56 ?_
      refine va_put (D := (dC, dI)) (ci := 2) (v := .int (((sAt st) + 1) + 1)) (ty := .int) (C := R_Pa) (T := T_Pa) (N := 7) hx hb hts u_Pa ty_Pa tk_Pa nm_Pa hown hK hP hD hS 0 rfl rfl 4 (by decide) (hts _ L_215) (fun x9 h9 => u_same (hts _ L_216) x9 h9) rfl (by decide +kernel) rfl rfl (Nat.le_of_ble_eq_true rfl) d_Pa_openProperty_57 (fun H locs hP hD hS => ?_)
      have hP : va_P (dC, dI) cls (wQ cI cZ hp hc h a1 a2 a3 a4 ht hq n1 n2 (ad, (setAt st (((sAt st) + 1) + 1)))) H := hP
      have hD : va_D A (wQ cI cZ hp hc h a1 a2 a3 a4 ht hq n1 n2 (ad, (setAt st (((sAt st) + 1) + 1)))) := hD
      refine lv_iload_n hx hb d_Pa_openProperty_60 rfl (lv_at hl 1 rfl) ?_
      refine lv_bipush (v := 47) hx hb d_Pa_openProperty_61 (by decide) ?_
      refine lv_icmp_ne (tgt := 72) hx hb d_Pa_openProperty_63 (by decide) (fun _ => ?_) (fun q9 => absurd q9 c_1)
      refine lv_aload_n hx hb d_Pa_openProperty_72 rfl (lv_at hl 3 rfl) ?_
      refine va_get (D := (dC, dI)) (ci := 2) (v := .ref h) (C := R_Pa) (T := T_Pa) (N := 7) hx hb hts u_Pa hown hK hP 0 rfl rfl 3 (by decide) (hts _ L_212) (fun x9 h9 => u_same (hts _ L_213) x9 h9) rfl d_Pa_openProperty_73 ?_
      refine lv_iload hx hb d_Pa_openProperty_76 (lv_at hl 0 rfl) ?_
      refine rd_V (v := (f_Tk_name (sTk st) ((sAt st) + 1))) (As := [.int ((sAt st) + 1)]) (rest := []) ⟨hx, hb, hml, hown, hts0⟩ (m_Tk_name l dC dI cI cZ h a1 a2 a3 a4 (sTk st) hst.1 ((sAt st) + 1)) hP hK [2, 3, 4, 5, 6] rfl [0, 1] rfl 0 3 rfl rfl L_623 L_478 L_479 L_84 L_480 ⟨rfl, k_Tk_name⟩ ⟨Nat.le_of_ble_eq_true rfl, Nat.le_of_ble_eq_true rfl⟩ hl.1 ⟨Nat.le_trans (Nat.le_add_right _ _) hcl, Nat.le_trans (Nat.le_add_right _ _) hsl⟩ (Nat.le_of_ble_eq_true rfl) d_Pa_openProperty_78 rfl ?_
      refine lv_istore (lv' := [(5, .int (f_Tk_name (sTk st) ((sAt st) + 1))), (4, .int ((sAt st) + 1)), (3, .int (f_Pa_propertyKind st)), (2, .int (sAt st)), (0, .ref hp), (1, .int object)]) hx hb d_Pa_openProperty_81 hl (by decide) rfl (fun ls hl => ?_)
      refine lv_aload_n hx hb d_Pa_openProperty_83 rfl (lv_at hl 4 rfl) ?_
      refine lv_iload_n hx hb d_Pa_openProperty_84 rfl (lv_at hl 5 rfl) ?_
      refine lv_iload_n hx hb d_Pa_openProperty_85 rfl (lv_at hl 2 rfl) ?_
      refine lv_iload hx hb d_Pa_openProperty_86 (lv_at hl 0 rfl) ?_
      obtain ⟨v_17, w_17⟩ : ∃ v9, (f_Pa_clashes (setAt st (((sAt st) + 1) + 1)) object (f_Pa_propertyKind st) (f_Tk_name (sTk st) ((sAt st) + 1))) = some v9 := bnO_ex ((fun z => hg (by unfold f_Pa_openProperty; rw [if_neg c_1, if_neg c_16, bnO_n z])))
      refine rd_V (v := v_17) (As := [.int object, .int (f_Pa_propertyKind st), .int (f_Tk_name (sTk st) ((sAt st) + 1))]) (rest := []) ⟨hx, hb, hml, hown, hts0⟩ (m_Pa_clashes l dC dI cI cZ hp hc h a1 a2 a3 a4 ht ad.1 ad.2.1 ad.2.2.1 ad.2.2.2 hq n1 n2 (setAt st (((sAt st) + 1) + 1)) (show okSt (setAt st (((sAt st) + 1) + 1)) from ⟨hst.1, hst.2.1, hst.2.2.1, hst.2.2.2⟩) object (f_Pa_propertyKind st) (f_Tk_name (sTk st) ((sAt st) + 1)) v_17 w_17) hP hK [0, 1, 2, 3, 4, 5, 6, 7, 8, 9, 10, 11, 12, 13, 14] rfl [0, 1] rfl 0 2 rfl rfl L_624 L_626 L_21 L_87 L_627 ⟨rfl, k_Pa_clashes⟩ ⟨Nat.le_of_ble_eq_true rfl, Nat.le_of_ble_eq_true rfl⟩ hl.1 ⟨Nat.le_trans (Nat.le_add_right _ _) hcl, Nat.le_trans (Nat.le_add_right _ _) hsl⟩ (Nat.le_of_ble_eq_true rfl) d_Pa_openProperty_88 rfl ?_
      refine lv_if_eq (tgt := 100) hx hb d_Pa_openProperty_91 (by decide) (fun c_18 => ?_) (fun c_18 => ?_)
      · refine lv_aload_n hx hb d_Pa_openProperty_100 rfl (lv_at hl 4 rfl) ?_
        refine va_get (D := (dC, dI)) (ci := 2) (v := .ref ht) (C := R_Pa) (T := T_Pa) (N := 7) hx hb hts u_Pa hown hK hP 0 rfl rfl 0 (by decide) (hts _ L_208) (fun _ h9 => h9) rfl d_Pa_openProperty_101 ?_
        refine lv_iload_n hx hb d_Pa_openProperty_104 rfl (lv_at hl 2 rfl) ?_
        refine lv_iload hx hb d_Pa_openProperty_105 (lv_at hl 0 rfl) ?_
        refine lv_iload_n hx hb d_Pa_openProperty_107 rfl (lv_at hl 3 rfl) ?_
        have hn_19 : (p_open (setAt st (((sAt st) + 1) + 1)) (f_Pa_propertyKind st) (f_Tk_name (sTk st) ((sAt st) + 1)) (sAt st)) ≠ none := (fun z => hg (by unfold f_Pa_openProperty; rw [if_neg c_1, if_neg c_16, bnO_s w_17, if_pos c_18, bnd_n z]))
        refine pT_i (g := (p_open (setAt st (((sAt st) + 1) + 1)) (f_Pa_propertyKind st) (f_Tk_name (sTk st) ((sAt st) + 1)) (sAt st))) (st := (setAt st (((sAt st) + 1) + 1))) (As := [.int (f_Pa_propertyKind st), .int (f_Tk_name (sTk st) ((sAt st) + 1)), .int (sAt st)]) (rest := []) ⟨hx, hb, hml, hown, hts0⟩ (m_Tr_open l dC dI cI cZ sa rk ht ad (sTr st) hst.2.1 _ (f_Pa_propertyKind st) (f_Tk_name (sTk st) ((sAt st) + 1)) (sAt st) (p_open_c hn_19).1 (p_open_c hn_19).2.1) hP hD hK hS hA hC hZ L_416 L_417 L_418 L_85 L_419 ⟨rfl, k_Tr_open⟩ ⟨Nat.le_of_ble_eq_true rfl, Nat.le_of_ble_eq_true rfl⟩ rfl rfl hl.1 (Nat.le_of_ble_eq_true rfl) d_Pa_openProperty_108 rfl hcl hsl (p_open_c hn_19).2.2.1 (p_open_c hn_19).2.2.2 (show okSt (setAt st (((sAt st) + 1) + 1)) from ⟨hst.1, hst.2.1, hst.2.2.1, hst.2.2.2⟩) (t_open_ok (f_Pa_propertyKind st) (f_Tk_name (sTk st) ((sAt st) + 1)) (sAt st) hst.2.1 (p_open_c hn_19).1 (p_open_c hn_19).2.1) (p_open_e hn_19) (fun r_19 ad_19 st_19 H locs w_19 ok_19 e1_19 e2_19 hP hD hS => ?_)
        have hcl := cl_next hcl e1_19
        have hsl := cl_next hsl e2_19
        exact mx_iret (v := r_19) (stF := st_19) hx hb hr hlocks hK hP hD hS hcl hsl (by unfold f_Pa_openProperty; rw [if_neg c_1, if_neg c_16, bnO_s w_17, if_pos c_18, bnd_r w_19]) ok_19 d_Pa_openProperty_111
      · refine lv_aload_n hx hb d_Pa_openProperty_94 rfl (lv_at hl 4 rfl) ?_
        refine lv_iload hx hb d_Pa_openProperty_95 (lv_at hl 1 rfl) ?_
        refine mx_Uv (xm := ⟨"SyntaxTree$Parser", "refuse", "(I)V"⟩) (owner := R_Cu) (As := [.int ((sAt st) + 1)]) (rest := []) ⟨hx, hb, hml, hown, hts0⟩ (m_Cu_refuse l hlt dC dI cI cZ sa rk hp hc h a1 a2 a3 a4 ht hq n1 n2 ad (setAt st (((sAt st) + 1) + 1)) (show okSt (setAt st (((sAt st) + 1) + 1)) from ⟨hst.1, hst.2.1, hst.2.2.1, hst.2.2.2⟩) _ ((sAt st) + 1) (fun z => hg (by unfold f_Pa_openProperty; rw [if_neg c_1, if_neg c_16, bnO_s w_17, if_neg c_18, bnd_n z]))) hP hD hK hS hA hC hZ hnt hlocks L_536 L_537 L_539 L_460 L_86 L_463 rfl k_Cu_refuse ⟨Nat.le_of_ble_eq_true rfl, Nat.le_of_ble_eq_true rfl⟩ rfl rfl hl.1 (Nat.le_of_ble_eq_true rfl) d_Pa_openProperty_97 rfl (fun q z => by unfold f_Pa_openProperty; rw [if_neg c_1, if_neg c_16, bnO_s w_17, if_neg c_18, bnd_l z]) hcl hsl (fun ad_20 st_20 H locs w_20 ok_20 e1_20 e2_20 hP hD hS => ?_)
        have hcl := cl_next hcl e1_20
        have hsl := cl_next hsl e2_20
        refine lv_aload_n hx hb d_Pa_openProperty_100 rfl (lv_at hl 4 rfl) ?_
        refine va_get (D := (dC, dI)) (ci := 2) (v := .ref ht) (C := R_Pa) (T := T_Pa) (N := 7) hx hb hts u_Pa hown hK hP 0 rfl rfl 0 (by decide) (hts _ L_208) (fun _ h9 => h9) rfl d_Pa_openProperty_101 ?_
        refine lv_iload_n hx hb d_Pa_openProperty_104 rfl (lv_at hl 2 rfl) ?_
        refine lv_iload hx hb d_Pa_openProperty_105 (lv_at hl 0 rfl) ?_
        refine lv_iload_n hx hb d_Pa_openProperty_107 rfl (lv_at hl 3 rfl) ?_
        have hn_21 : (p_open st_20 (f_Pa_propertyKind st) (f_Tk_name (sTk st) ((sAt st) + 1)) (sAt st)) ≠ none := (fun z => hg (by unfold f_Pa_openProperty; rw [if_neg c_1, if_neg c_16, bnO_s w_17, if_neg c_18, bnd_r w_20, bnd_n z]))
        refine pT_i (g := (p_open st_20 (f_Pa_propertyKind st) (f_Tk_name (sTk st) ((sAt st) + 1)) (sAt st))) (st := st_20) (As := [.int (f_Pa_propertyKind st), .int (f_Tk_name (sTk st) ((sAt st) + 1)), .int (sAt st)]) (rest := []) ⟨hx, hb, hml, hown, hts0⟩ (m_Tr_open l dC dI cI cZ sa rk ht ad_20 (sTr st_20) ok_20.2.1 _ (f_Pa_propertyKind st) (f_Tk_name (sTk st) ((sAt st) + 1)) (sAt st) (p_open_c hn_21).1 (p_open_c hn_21).2.1) hP hD hK hS hA hC hZ L_416 L_417 L_418 L_85 L_419 ⟨rfl, k_Tr_open⟩ ⟨Nat.le_of_ble_eq_true rfl, Nat.le_of_ble_eq_true rfl⟩ rfl rfl hl.1 (Nat.le_of_ble_eq_true rfl) d_Pa_openProperty_108 rfl hcl hsl (p_open_c hn_21).2.2.1 (p_open_c hn_21).2.2.2 ok_20 (t_open_ok (f_Pa_propertyKind st) (f_Tk_name (sTk st) ((sAt st) + 1)) (sAt st) ok_20.2.1 (p_open_c hn_21).1 (p_open_c hn_21).2.1) (p_open_e hn_21) (fun r_21 ad_21 st_21 H locs w_21 ok_21 e1_21 e2_21 hP hD hS => ?_)
        have hcl := cl_next hcl e1_21
        have hsl := cl_next hsl e2_21
        exact mx_iret (v := r_21) (stF := st_21) hx hb hr hlocks hK hP hD hS hcl hsl (by unfold f_Pa_openProperty; rw [if_neg c_1, if_neg c_16, bnO_s w_17, if_neg c_18, bnd_r w_20, bnd_r w_21]) ok_21 d_Pa_openProperty_111
    · refine lv_aload_n hx hb d_Pa_openProperty_44 rfl (lv_at hl 3 rfl) ?_
      refine lv_iload hx hb d_Pa_openProperty_45 (lv_at hl 0 rfl) ?_
      refine mx_Uv (xm := ⟨"SyntaxTree$Parser", "refuse", "(I)V"⟩) (owner := R_Cu) (As := [.int ((sAt st) + 1)]) (rest := []) ⟨hx, hb, hml, hown, hts0⟩ (m_Cu_refuse l hlt dC dI cI cZ sa rk hp hc h a1 a2 a3 a4 ht hq n1 n2 ad (setAt st ((sAt st) + 1)) (show okSt (setAt st ((sAt st) + 1)) from ⟨hst.1, hst.2.1, hst.2.2.1, hst.2.2.2⟩) _ ((sAt st) + 1) (fun z => hg (by unfold f_Pa_openProperty; rw [if_neg c_1, if_pos c_16, bnd_n z]))) hP hD hK hS hA hC hZ hnt hlocks L_536 L_537 L_539 L_460 L_86 L_463 rfl k_Cu_refuse ⟨Nat.le_of_ble_eq_true rfl, Nat.le_of_ble_eq_true rfl⟩ rfl rfl hl.1 (Nat.le_of_ble_eq_true rfl) d_Pa_openProperty_47 rfl (fun q z => by unfold f_Pa_openProperty; rw [if_neg c_1, if_pos c_16, bnd_l z]) hcl hsl (fun ad_22 st_22 H locs w_22 ok_22 e1_22 e2_22 hP hD hS => ?_)
      have hcl := cl_next hcl e1_22
      have hsl := cl_next hsl e2_22
      refine lv_aload_n hx hb d_Pa_openProperty_50 rfl (lv_at hl 3 rfl) ?_
      refine lv_dup hx hb d_Pa_openProperty_51 rfl ?_
      refine va_get (D := (dC, dI)) (ci := 2) (v := .int (sAt st_22)) (C := R_Pa) (T := T_Pa) (N := 7) hx hb hts u_Pa hown hK hP 0 rfl rfl 4 (by decide) (hts _ L_215) (fun x9 h9 => u_same (hts _ L_216) x9 h9) rfl d_Pa_openProperty_52 ?_
      refine lv_iconst (v := 1) hx hb d_Pa_openProperty_55 (by decide) ?_
      refine lv_iadd hx hb d_Pa_openProperty_56 ?_
      refine va_put (D := (dC, dI)) (ci := 2) (v := .int ((sAt st_22) + 1)) (ty := .int) (C := R_Pa) (T := T_Pa) (N := 7) hx hb hts u_Pa ty_Pa tk_Pa nm_Pa hown hK hP hD hS 0 rfl rfl 4 (by decide) (hts _ L_215) (fun x9 h9 => u_same (hts _ L_216) x9 h9) rfl (by decide +kernel) rfl rfl (Nat.le_of_ble_eq_true rfl) d_Pa_openProperty_57 (fun H locs hP hD hS => ?_)
      have hP : va_P (dC, dI) cls (wQ cI cZ hp hc h a1 a2 a3 a4 ht hq n1 n2 (ad_22, (setAt st_22 ((sAt st_22) + 1)))) H := hP
      have hD : va_D A (wQ cI cZ hp hc h a1 a2 a3 a4 ht hq n1 n2 (ad_22, (setAt st_22 ((sAt st_22) + 1)))) := hD
      refine lv_iload_n hx hb d_Pa_openProperty_60 rfl (lv_at hl 1 rfl) ?_
      refine lv_bipush (v := 47) hx hb d_Pa_openProperty_61 (by decide) ?_
      refine lv_icmp_ne (tgt := 72) hx hb d_Pa_openProperty_63 (by decide) (fun _ => ?_) (fun q9 => absurd q9 c_1)
      refine lv_aload_n hx hb d_Pa_openProperty_72 rfl (lv_at hl 3 rfl) ?_
      refine va_get (D := (dC, dI)) (ci := 2) (v := .ref h) (C := R_Pa) (T := T_Pa) (N := 7) hx hb hts u_Pa hown hK hP 0 rfl rfl 3 (by decide) (hts _ L_212) (fun x9 h9 => u_same (hts _ L_213) x9 h9) rfl d_Pa_openProperty_73 ?_
      refine lv_iload hx hb d_Pa_openProperty_76 (lv_at hl 0 rfl) ?_
      refine rd_V (v := (f_Tk_name (sTk st_22) ((sAt st) + 1))) (As := [.int ((sAt st) + 1)]) (rest := []) ⟨hx, hb, hml, hown, hts0⟩ (m_Tk_name l dC dI cI cZ h a1 a2 a3 a4 (sTk st_22) ok_22.1 ((sAt st) + 1)) hP hK [2, 3, 4, 5, 6] rfl [0, 1] rfl 0 3 rfl rfl L_623 L_478 L_479 L_84 L_480 ⟨rfl, k_Tk_name⟩ ⟨Nat.le_of_ble_eq_true rfl, Nat.le_of_ble_eq_true rfl⟩ hl.1 ⟨Nat.le_trans (Nat.le_add_right _ _) hcl, Nat.le_trans (Nat.le_add_right _ _) hsl⟩ (Nat.le_of_ble_eq_true rfl) d_Pa_openProperty_78 rfl ?_
      refine lv_istore (lv' := [(5, .int (f_Tk_name (sTk st_22) ((sAt st) + 1))), (4, .int ((sAt st) + 1)), (3, .int (f_Pa_propertyKind st)), (2, .int (sAt st)), (0, .ref hp), (1, .int object)]) hx hb d_Pa_openProperty_81 hl (by decide) rfl (fun ls hl => ?_)
      refine lv_aload_n hx hb d_Pa_openProperty_83 rfl (lv_at hl 4 rfl) ?_
      refine lv_iload_n hx hb d_Pa_openProperty_84 rfl (lv_at hl 5 rfl) ?_
      refine lv_iload_n hx hb d_Pa_openProperty_85 rfl (lv_at hl 2 rfl) ?_
      refine lv_iload hx hb d_Pa_openProperty_86 (lv_at hl 0 rfl) ?_
      obtain ⟨v_23, w_23⟩ : ∃ v9, (f_Pa_clashes (setAt st_22 ((sAt st_22) + 1)) object (f_Pa_propertyKind st) (f_Tk_name (sTk st_22) ((sAt st) + 1))) = some v9 := bnO_ex ((fun z => hg (by unfold f_Pa_openProperty; rw [if_neg c_1, if_pos c_16, bnd_r w_22, bnO_n z])))
      refine rd_V (v := v_23) (As := [.int object, .int (f_Pa_propertyKind st), .int (f_Tk_name (sTk st_22) ((sAt st) + 1))]) (rest := []) ⟨hx, hb, hml, hown, hts0⟩ (m_Pa_clashes l dC dI cI cZ hp hc h a1 a2 a3 a4 ht ad_22.1 ad_22.2.1 ad_22.2.2.1 ad_22.2.2.2 hq n1 n2 (setAt st_22 ((sAt st_22) + 1)) (show okSt (setAt st_22 ((sAt st_22) + 1)) from ⟨ok_22.1, ok_22.2.1, ok_22.2.2.1, ok_22.2.2.2⟩) object (f_Pa_propertyKind st) (f_Tk_name (sTk st_22) ((sAt st) + 1)) v_23 w_23) hP hK [0, 1, 2, 3, 4, 5, 6, 7, 8, 9, 10, 11, 12, 13, 14] rfl [0, 1] rfl 0 2 rfl rfl L_624 L_626 L_21 L_87 L_627 ⟨rfl, k_Pa_clashes⟩ ⟨Nat.le_of_ble_eq_true rfl, Nat.le_of_ble_eq_true rfl⟩ hl.1 ⟨Nat.le_trans (Nat.le_add_right _ _) hcl, Nat.le_trans (Nat.le_add_right _ _) hsl⟩ (Nat.le_of_ble_eq_true rfl) d_Pa_openProperty_88 rfl ?_
      refine lv_if_eq (tgt := 100) hx hb d_Pa_openProperty_91 (by decide) (fun c_24 => ?_) (fun c_24 => ?_)
      · refine lv_aload_n hx hb d_Pa_openProperty_100 rfl (lv_at hl 4 rfl) ?_
        refine va_get (D := (dC, dI)) (ci := 2) (v := .ref ht) (C := R_Pa) (T := T_Pa) (N := 7) hx hb hts u_Pa hown hK hP 0 rfl rfl 0 (by decide) (hts _ L_208) (fun _ h9 => h9) rfl d_Pa_openProperty_101 ?_
        refine lv_iload_n hx hb d_Pa_openProperty_104 rfl (lv_at hl 2 rfl) ?_
        refine lv_iload hx hb d_Pa_openProperty_105 (lv_at hl 0 rfl) ?_
        refine lv_iload_n hx hb d_Pa_openProperty_107 rfl (lv_at hl 3 rfl) ?_
        have hn_25 : (p_open (setAt st_22 ((sAt st_22) + 1)) (f_Pa_propertyKind st) (f_Tk_name (sTk st_22) ((sAt st) + 1)) (sAt st)) ≠ none := (fun z => hg (by unfold f_Pa_openProperty; rw [if_neg c_1, if_pos c_16, bnd_r w_22, bnO_s w_23, if_pos c_24, bnd_n z]))
        refine pT_i (g := (p_open (setAt st_22 ((sAt st_22) + 1)) (f_Pa_propertyKind st) (f_Tk_name (sTk st_22) ((sAt st) + 1)) (sAt st))) (st := (setAt st_22 ((sAt st_22) + 1))) (As := [.int (f_Pa_propertyKind st), .int (f_Tk_name (sTk st_22) ((sAt st) + 1)), .int (sAt st)]) (rest := []) ⟨hx, hb, hml, hown, hts0⟩ (m_Tr_open l dC dI cI cZ sa rk ht ad_22 (sTr st_22) ok_22.2.1 _ (f_Pa_propertyKind st) (f_Tk_name (sTk st_22) ((sAt st) + 1)) (sAt st) (p_open_c hn_25).1 (p_open_c hn_25).2.1) hP hD hK hS hA hC hZ L_416 L_417 L_418 L_85 L_419 ⟨rfl, k_Tr_open⟩ ⟨Nat.le_of_ble_eq_true rfl, Nat.le_of_ble_eq_true rfl⟩ rfl rfl hl.1 (Nat.le_of_ble_eq_true rfl) d_Pa_openProperty_108 rfl hcl hsl (p_open_c hn_25).2.2.1 (p_open_c hn_25).2.2.2 (show okSt (setAt st_22 ((sAt st_22) + 1)) from ⟨ok_22.1, ok_22.2.1, ok_22.2.2.1, ok_22.2.2.2⟩) (t_open_ok (f_Pa_propertyKind st) (f_Tk_name (sTk st_22) ((sAt st) + 1)) (sAt st) ok_22.2.1 (p_open_c hn_25).1 (p_open_c hn_25).2.1) (p_open_e hn_25) (fun r_25 ad_25 st_25 H locs w_25 ok_25 e1_25 e2_25 hP hD hS => ?_)
        have hcl := cl_next hcl e1_25
        have hsl := cl_next hsl e2_25
        exact mx_iret (v := r_25) (stF := st_25) hx hb hr hlocks hK hP hD hS hcl hsl (by unfold f_Pa_openProperty; rw [if_neg c_1, if_pos c_16, bnd_r w_22, bnO_s w_23, if_pos c_24, bnd_r w_25]) ok_25 d_Pa_openProperty_111
      · refine lv_aload_n hx hb d_Pa_openProperty_94 rfl (lv_at hl 4 rfl) ?_
        refine lv_iload hx hb d_Pa_openProperty_95 (lv_at hl 1 rfl) ?_
        refine mx_Uv (xm := ⟨"SyntaxTree$Parser", "refuse", "(I)V"⟩) (owner := R_Cu) (As := [.int ((sAt st) + 1)]) (rest := []) ⟨hx, hb, hml, hown, hts0⟩ (m_Cu_refuse l hlt dC dI cI cZ sa rk hp hc h a1 a2 a3 a4 ht hq n1 n2 ad_22 (setAt st_22 ((sAt st_22) + 1)) (show okSt (setAt st_22 ((sAt st_22) + 1)) from ⟨ok_22.1, ok_22.2.1, ok_22.2.2.1, ok_22.2.2.2⟩) _ ((sAt st) + 1) (fun z => hg (by unfold f_Pa_openProperty; rw [if_neg c_1, if_pos c_16, bnd_r w_22, bnO_s w_23, if_neg c_24, bnd_n z]))) hP hD hK hS hA hC hZ hnt hlocks L_536 L_537 L_539 L_460 L_86 L_463 rfl k_Cu_refuse ⟨Nat.le_of_ble_eq_true rfl, Nat.le_of_ble_eq_true rfl⟩ rfl rfl hl.1 (Nat.le_of_ble_eq_true rfl) d_Pa_openProperty_97 rfl (fun q z => by unfold f_Pa_openProperty; rw [if_neg c_1, if_pos c_16, bnd_r w_22, bnO_s w_23, if_neg c_24, bnd_l z]) hcl hsl (fun ad_26 st_26 H locs w_26 ok_26 e1_26 e2_26 hP hD hS => ?_)
        have hcl := cl_next hcl e1_26
        have hsl := cl_next hsl e2_26
        refine lv_aload_n hx hb d_Pa_openProperty_100 rfl (lv_at hl 4 rfl) ?_
        refine va_get (D := (dC, dI)) (ci := 2) (v := .ref ht) (C := R_Pa) (T := T_Pa) (N := 7) hx hb hts u_Pa hown hK hP 0 rfl rfl 0 (by decide) (hts _ L_208) (fun _ h9 => h9) rfl d_Pa_openProperty_101 ?_
        refine lv_iload_n hx hb d_Pa_openProperty_104 rfl (lv_at hl 2 rfl) ?_
        refine lv_iload hx hb d_Pa_openProperty_105 (lv_at hl 0 rfl) ?_
        refine lv_iload_n hx hb d_Pa_openProperty_107 rfl (lv_at hl 3 rfl) ?_
        have hn_27 : (p_open st_26 (f_Pa_propertyKind st) (f_Tk_name (sTk st_22) ((sAt st) + 1)) (sAt st)) ≠ none := (fun z => hg (by unfold f_Pa_openProperty; rw [if_neg c_1, if_pos c_16, bnd_r w_22, bnO_s w_23, if_neg c_24, bnd_r w_26, bnd_n z]))
        refine pT_i (g := (p_open st_26 (f_Pa_propertyKind st) (f_Tk_name (sTk st_22) ((sAt st) + 1)) (sAt st))) (st := st_26) (As := [.int (f_Pa_propertyKind st), .int (f_Tk_name (sTk st_22) ((sAt st) + 1)), .int (sAt st)]) (rest := []) ⟨hx, hb, hml, hown, hts0⟩ (m_Tr_open l dC dI cI cZ sa rk ht ad_26 (sTr st_26) ok_26.2.1 _ (f_Pa_propertyKind st) (f_Tk_name (sTk st_22) ((sAt st) + 1)) (sAt st) (p_open_c hn_27).1 (p_open_c hn_27).2.1) hP hD hK hS hA hC hZ L_416 L_417 L_418 L_85 L_419 ⟨rfl, k_Tr_open⟩ ⟨Nat.le_of_ble_eq_true rfl, Nat.le_of_ble_eq_true rfl⟩ rfl rfl hl.1 (Nat.le_of_ble_eq_true rfl) d_Pa_openProperty_108 rfl hcl hsl (p_open_c hn_27).2.2.1 (p_open_c hn_27).2.2.2 ok_26 (t_open_ok (f_Pa_propertyKind st) (f_Tk_name (sTk st_22) ((sAt st) + 1)) (sAt st) ok_26.2.1 (p_open_c hn_27).1 (p_open_c hn_27).2.1) (p_open_e hn_27) (fun r_27 ad_27 st_27 H locs w_27 ok_27 e1_27 e2_27 hP hD hS => ?_)
        have hcl := cl_next hcl e1_27
        have hsl := cl_next hsl e2_27
        exact mx_iret (v := r_27) (stF := st_27) hx hb hr hlocks hK hP hD hS hcl hsl (by unfold f_Pa_openProperty; rw [if_neg c_1, if_pos c_16, bnd_r w_22, bnO_s w_23, if_neg c_24, bnd_r w_26, bnd_r w_27]) ok_27 d_Pa_openProperty_111
def f_Pa_jump (st : ST) (kind : Int32) : Rz := (bnd (p_open st kind 0 (sAt st)) (fun r_1 st_1 => (if (f_Cu_atIdentifier (setAt st_1 ((sAt st_1) + 1))) = 0 then (if (coP st_1) = 0 then (if kind = 11 then (bnd (f_Cu_refuse (setAt st_1 ((sAt st_1) + 1)) (sAt st)) (fun _ st_6 => (bnd (f_Cu_semicolon st_6) (fun _ st_7 => (some (.inr (0, st_7))))))) else (if (coW st_1) = 0 then (bnd (f_Cu_refuse (setAt st_1 ((sAt st_1) + 1)) (sAt st)) (fun _ st_10 => (bnd (f_Cu_semicolon st_10) (fun _ st_11 => (some (.inr (0, st_11))))))) else (bnd (f_Cu_semicolon (setAt st_1 ((sAt st_1) + 1))) (fun _ st_9 => (some (.inr (0, st_9))))))) else (bnd (f_Cu_semicolon (setAt st_1 ((sAt st_1) + 1))) (fun _ st_4 => (some (.inr (0, st_4)))))) else (if (f_Tk_line (sTk st_1) ((sAt st_1) + 1)) = 0 then (bnO (f_La_find (sLb st_1) (coL st_1) (f_Tk_name (sTk st_1) ((sAt st_1) + 1))) (fun v_22 => (if kind = 12 then (if v_22 = (-1) then (bnd (f_Cu_refuse (setAt st_1 ((sAt st_1) + 1)) ((sAt st_1) + 1)) (fun _ st_25 => (bnd (p_setValue st_25 r_1 ((f_Tk_name (sTk st_25) (sAt st_25)) + 1)) (fun _ st_26 => (bnd (f_Cu_semicolon (setAt st_26 ((sAt st_26) + 1))) (fun _ st_27 => (some (.inr (0, st_27))))))))) else (bnd (p_setValue (setAt st_1 ((sAt st_1) + 1)) r_1 ((f_Tk_name (sTk st_1) ((sAt st_1) + 1)) + 1)) (fun _ st_28 => (bnd (f_Cu_semicolon (setAt st_28 ((sAt st_28) + 1))) (fun _ st_29 => (some (.inr (0, st_29)))))))) else (if (f_La_ofLoop (sLb st_1) v_22) = 0 then (if v_22 = (-1) then (bnd (f_Cu_refuse (setAt st_1 ((sAt st_1) + 1)) ((sAt st_1) + 1)) (fun _ st_32 => (bnd (p_setValue st_32 r_1 ((f_Tk_name (sTk st_32) (sAt st_32)) + 1)) (fun _ st_33 => (bnd (f_Cu_semicolon (setAt st_33 ((sAt st_33) + 1))) (fun _ st_34 => (some (.inr (0, st_34))))))))) else (bnd (f_Cu_refuse (setAt st_1 ((sAt st_1) + 1)) ((sAt st_1) + 1)) (fun _ st_35 => (bnd (p_setValue st_35 r_1 ((f_Tk_name (sTk st_35) (sAt st_35)) + 1)) (fun _ st_36 => (bnd (f_Cu_semicolon (setAt st_36 ((sAt st_36) + 1))) (fun _ st_37 => (some (.inr (0, st_37)))))))))) else (if v_22 = (-1) then (bnd (f_Cu_refuse (setAt st_1 ((sAt st_1) + 1)) ((sAt st_1) + 1)) (fun _ st_39 => (bnd (p_setValue st_39 r_1 ((f_Tk_name (sTk st_39) (sAt st_39)) + 1)) (fun _ st_40 => (bnd (f_Cu_semicolon (setAt st_40 ((sAt st_40) + 1))) (fun _ st_41 => (some (.inr (0, st_41))))))))) else (bnd (p_setValue (setAt st_1 ((sAt st_1) + 1)) r_1 ((f_Tk_name (sTk st_1) ((sAt st_1) + 1)) + 1)) (fun _ st_42 => (bnd (f_Cu_semicolon (setAt st_42 ((sAt st_42) + 1))) (fun _ st_43 => (some (.inr (0, st_43)))))))))))) else (if (coP st_1) = 0 then (if kind = 11 then (bnd (f_Cu_refuse (setAt st_1 ((sAt st_1) + 1)) (sAt st)) (fun _ st_16 => (bnd (f_Cu_semicolon st_16) (fun _ st_17 => (some (.inr (0, st_17))))))) else (if (coW st_1) = 0 then (bnd (f_Cu_refuse (setAt st_1 ((sAt st_1) + 1)) (sAt st)) (fun _ st_20 => (bnd (f_Cu_semicolon st_20) (fun _ st_21 => (some (.inr (0, st_21))))))) else (bnd (f_Cu_semicolon (setAt st_1 ((sAt st_1) + 1))) (fun _ st_19 => (some (.inr (0, st_19))))))) else (bnd (f_Cu_semicolon (setAt st_1 ((sAt st_1) + 1))) (fun _ st_14 => (some (.inr (0, st_14))))))))))
set_option maxRecDepth 100000 in
set_option maxHeartbeats 4000000 in
theorem m_Pa_jump (l : Launch) (hlt : l.stackTraces = false) (dC : Nat → ClassId) (dI : Nat → Nat → Nat) (cI cZ : ClassId) (sa rk hp hc h a1 a2 a3 a4 ht hq n1 n2 : Nat) (ad : AD) (st : ST) (hst : okSt st) (sz : Nat) (kind : Int32) (hg : f_Pa_jump st kind ≠ none) : cPv l y_Pa_jump c_Pa_jump 6 8 323 (dC, dI) cI cZ sa rk hp hc h a1 a2 a3 a4 ht hq n1 n2 ad st sz [.ref hp, .int kind] (f_Pa_jump st kind) := by
  refine vx_ofW (cc := c_Pa_jump) (maxL := 6) (ret := none) (by decide) rfl ?_
  intro p e s m args below meth c s₁ B hml hnt hv
  obtain ⟨rfl, hsz, hP, hK, hD0, hC, hZ⟩ := hv
  have hx := B.exec
  have hb := B.bytes
  have hr := B.returns
  have hts0 := atoms_spec (ws := wy y_Pa_jump c_Pa_jump 6 none) B.pre
  have hts := htsL hts0
  have hown : s.vm.findClass R_Pa = some m.cls := findClass_of_methodNamed B.named
  have hlocks := B.notSynchronized
  subst hsz
  have hD := hD0.self (sz := s.heap.size)
  generalize hAe : va_A (wQ cI cZ hp hc h a1 a2 a3 a4 ht hq n1 n2 (ad, st)) s.heap.size = A at hD hZ ⊢
  have hA : ∀ q : Nat, s.heap.size ≤ q → A q := fun q h => by rw [← hAe]; exact Or.inr h
  have hS : va_S A s.heap s.heap [] := va_S.rf
  have hcl : 0 + bC st ≤ bC st := Nat.le_of_eq (Nat.zero_add _)
  have hsl : 0 + bS st ≤ bS st := Nat.le_of_eq (Nat.zero_add _)
  have hl := lv_entry ([.ref hp, .int kind]) (n := 6) (Nat.le_of_ble_eq_true rfl)
  rw [lg_entry_eq]
  generalize (lg_sl ([.ref hp, .int kind]) ++ List.replicate (6 - (lg_sl ([.ref hp, .int kind])).length) Slot.unset).toArray = ls at hl ⊢
  have hl : lv_has ls 6 [(0, .ref hp), (1, .int kind)] := hl
  refine lv_aload_n hx hb d_Pa_jump_0 rfl (lv_at hl 0 rfl) ?_
  refine va_get (D := (dC, dI)) (ci := 2) (v := .int (sAt st)) (C := R_Pa) (T := T_Pa) (N := 7) hx hb hts u_Pa hown hK hP 0 rfl rfl 4 (by decide) (hts _ L_215) (fun x9 h9 => u_same (hts _ L_216) x9 h9) rfl d_Pa_jump_1 ?_
  refine lv_istore_n (lv' := [(2, .int (sAt st)), (0, .ref hp), (1, .int kind)]) hx hb d_Pa_jump_4 rfl hl (by decide) rfl (fun ls hl => ?_)
  refine lv_aload_n hx hb d_Pa_jump_5 rfl (lv_at hl 1 rfl) ?_
  refine va_get (D := (dC, dI)) (ci := 2) (v := .ref ht) (C := R_Pa) (T := T_Pa) (N := 7) hx hb hts u_Pa hown hK hP 0 rfl rfl 0 (by decide) (hts _ L_208) (fun _ h9 => h9) rfl d_Pa_jump_6 ?_
  refine lv_iload_n hx hb d_Pa_jump_9 rfl (lv_at hl 2 rfl) ?_
  refine lv_iconst (v := 0) hx hb d_Pa_jump_10 (by decide) ?_
  refine lv_iload_n hx hb d_Pa_jump_11 rfl (lv_at hl 0 rfl) ?_
  have hn_1 : (p_open st kind 0 (sAt st)) ≠ none := (fun z => hg (by unfold f_Pa_jump; rw [bnd_n z]))
  refine pT_i (g := (p_open st kind 0 (sAt st))) (st := st) (As := [.int kind, .int 0, .int (sAt st)]) (rest := []) ⟨hx, hb, hml, hown, hts0⟩ (m_Tr_open l dC dI cI cZ sa rk ht ad (sTr st) hst.2.1 _ kind 0 (sAt st) (p_open_c hn_1).1 (p_open_c hn_1).2.1) hP hD hK hS hA hC hZ L_416 L_417 L_418 L_85 L_419 ⟨rfl, k_Tr_open⟩ ⟨Nat.le_of_ble_eq_true rfl, Nat.le_of_ble_eq_true rfl⟩ rfl rfl hl.1 (Nat.le_of_ble_eq_true rfl) d_Pa_jump_12 rfl hcl hsl (p_open_c hn_1).2.2.1 (p_open_c hn_1).2.2.2 hst (t_open_ok kind 0 (sAt st) hst.2.1 (p_open_c hn_1).1 (p_open_c hn_1).2.1) (p_open_e hn_1) (fun r_1 ad_1 st_1 H locs w_1 ok_1 e1_1 e2_1 hP hD hS => ?_)
  have hcl := cl_next hcl e1_1
  have hsl := cl_next hsl e2_1
  refine lv_istore_n (lv' := [(3, .int r_1), (2, .int (sAt st)), (0, .ref hp), (1, .int kind)]) hx hb d_Pa_jump_15 rfl hl (by decide) rfl (fun ls hl => ?_)
  refine lv_aload_n hx hb d_Pa_jump_16 rfl (lv_at hl 2 rfl) ?_
  refine lv_dup hx hb d_Pa_jump_17 rfl ?_
  refine va_get (D := (dC, dI)) (ci := 2) (v := .int (sAt st_1)) (C := R_Pa) (T := T_Pa) (N := 7) hx hb hts u_Pa hown hK hP 0 rfl rfl 4 (by decide) (hts _ L_215) (fun x9 h9 => u_same (hts _ L_216) x9 h9) rfl d_Pa_jump_18 ?_
  refine lv_iconst (v := 1) hx hb d_Pa_jump_21 (by decide) ?_
  refine lv_iadd hx hb d_Pa_jump_22 ?_
  refine va_put (D := (dC, dI)) (ci := 2) (v := .int ((sAt st_1) + 1)) (ty := .int) (C := R_Pa) (T := T_Pa) (N := 7) hx hb hts u_Pa ty_Pa tk_Pa nm_Pa hown hK hP hD hS 0 rfl rfl 4 (by decide) (hts _ L_215) (fun x9 h9 => u_same (hts _ L_216) x9 h9) rfl (by decide +kernel) rfl rfl (Nat.le_of_ble_eq_true rfl) d_Pa_jump_23 (fun H locs hP hD hS => ?_)
  have hP : va_P (dC, dI) cls (wQ cI cZ hp hc h a1 a2 a3 a4 ht hq n1 n2 (ad_1, (setAt st_1 ((sAt st_1) + 1)))) H := hP
  have hD : va_D A (wQ cI cZ hp hc h a1 a2 a3 a4 ht hq n1 n2 (ad_1, (setAt st_1 ((sAt st_1) + 1)))) := hD
  refine lv_aload_n hx hb d_Pa_jump_26 rfl (lv_at hl 2 rfl) ?_
  refine rd_U (xm := ⟨"SyntaxTree$Parser", "atIdentifier", "()Z"⟩) (owner := R_Cu) (v := (f_Cu_atIdentifier (setAt st_1 ((sAt st_1) + 1)))) (As := []) (rest := []) ⟨hx, hb, hml, hown, hts0⟩ (m_Cu_atIdentifier l dC dI cI cZ hp hc h a1 a2 a3 a4 ht ad_1.1 ad_1.2.1 ad_1.2.2.1 ad_1.2.2.2 hq n1 n2 (setAt st_1 ((sAt st_1) + 1)) (show okSt (setAt st_1 ((sAt st_1) + 1)) from ⟨ok_1.1, ok_1.2.1, ok_1.2.2.1, ok_1.2.2.2⟩) ) hP hK [0, 1, 2, 3, 4, 5, 6, 7, 8, 9, 10, 11, 12, 13, 14] rfl [0, 1] rfl 0 2 rfl rfl L_651 L_652 L_654 L_655 L_86 L_656 rfl k_Cu_atIdentifier ⟨Nat.le_of_ble_eq_true rfl, Nat.le_of_ble_eq_true rfl⟩ hl.1 ⟨Nat.le_trans (Nat.le_add_right _ _) hcl, Nat.le_trans (Nat.le_add_right _ _) hsl⟩ (Nat.le_of_ble_eq_true rfl) d_Pa_jump_27 rfl ?_
  refine lv_if_eq (tgt := 152) hx hb d_Pa_jump_30 (by decide) (fun c_2 => ?_) (fun c_2 => ?_)
  · refine lv_aload_n hx hb d_Pa_jump_152 rfl (lv_at hl 2 rfl) ?_
    refine va_get (D := (dC, dI)) (ci := 2) (v := .ref hc) (C := R_Pa) (T := T_Pa) (N := 7) hx hb hts u_Pa hown hK hP 0 rfl rfl 6 (by decide) (hts _ L_221) (fun x9 h9 => u_same (hts _ L_222) x9 h9) rfl d_Pa_jump_153 ?_
    refine va_get (D := (dC, dI)) (ci := 0) (v := .int (coP st_1)) (C := R_Co) (T := T_Co) (N := 5) hx hb hts u_Co hown hK hP 1 rfl rfl 3 (by decide) (hts _ L_177) (fun _ h9 => h9) rfl d_Pa_jump_156 ?_
    refine lv_if_ne (tgt := 183) hx hb d_Pa_jump_159 (by decide) (fun c_3 => ?_) (fun c_3 => ?_)
    · refine lv_aload_n hx hb d_Pa_jump_183 rfl (lv_at hl 2 rfl) ?_
      refine mx_Uv (xm := ⟨"SyntaxTree$Parser", "semicolon", "()V"⟩) (owner := R_Cu) (As := []) (rest := []) ⟨hx, hb, hml, hown, hts0⟩ (m_Cu_semicolon l hlt dC dI cI cZ sa rk hp hc h a1 a2 a3 a4 ht hq n1 n2 ad_1 (setAt st_1 ((sAt st_1) + 1)) (show okSt (setAt st_1 ((sAt st_1) + 1)) from ⟨ok_1.1, ok_1.2.1, ok_1.2.2.1, ok_1.2.2.2⟩) _  (fun z => hg (by unfold f_Pa_jump; rw [bnd_r w_1, if_pos c_2, if_neg c_3, bnd_n z]))) hP hD hK hS hA hC hZ hnt hlocks L_711 L_712 L_714 L_715 L_86 L_716 rfl k_Cu_semicolon ⟨Nat.le_of_ble_eq_true rfl, Nat.le_of_ble_eq_true rfl⟩ rfl rfl hl.1 (Nat.le_of_ble_eq_true rfl) d_Pa_jump_184 rfl (fun q z => by unfold f_Pa_jump; rw [bnd_r w_1, if_pos c_2, if_neg c_3, bnd_l z]) hcl hsl (fun ad_4 st_4 H locs w_4 ok_4 e1_4 e2_4 hP hD hS => ?_)
      have hcl := cl_next hcl e1_4
      have hsl := cl_next hsl e2_4
      exact mx_vret (stF := st_4) hx hb hr hlocks hK hP hD hS hcl hsl (by unfold f_Pa_jump; rw [bnd_r w_1, if_pos c_2, if_neg c_3, bnd_r w_4]) ok_4 d_Pa_jump_187
    · refine lv_iload_n hx hb d_Pa_jump_162 rfl (lv_at hl 3 rfl) ?_
      refine lv_bipush (v := 11) hx hb d_Pa_jump_163 (by decide) ?_
      refine lv_icmp_eq (tgt := 178) hx hb d_Pa_jump_165 (by decide) (fun c_5 => ?_) (fun c_5 => ?_)
      · refine lv_aload_n hx hb d_Pa_jump_178 rfl (lv_at hl 2 rfl) ?_
        refine lv_iload_n hx hb d_Pa_jump_179 rfl (lv_at hl 1 rfl) ?_
        refine mx_Uv (xm := ⟨"SyntaxTree$Parser", "refuse", "(I)V"⟩) (owner := R_Cu) (As := [.int (sAt st)]) (rest := []) ⟨hx, hb, hml, hown, hts0⟩ (m_Cu_refuse l hlt dC dI cI cZ sa rk hp hc h a1 a2 a3 a4 ht hq n1 n2 ad_1 (setAt st_1 ((sAt st_1) + 1)) (show okSt (setAt st_1 ((sAt st_1) + 1)) from ⟨ok_1.1, ok_1.2.1, ok_1.2.2.1, ok_1.2.2.2⟩) _ (sAt st) (fun z => hg (by unfold f_Pa_jump; rw [bnd_r w_1, if_pos c_2, if_pos c_3, if_pos c_5, bnd_n z]))) hP hD hK hS hA hC hZ hnt hlocks L_536 L_537 L_539 L_460 L_86 L_463 rfl k_Cu_refuse ⟨Nat.le_of_ble_eq_true rfl, Nat.le_of_ble_eq_true rfl⟩ rfl rfl hl.1 (Nat.le_of_ble_eq_true rfl) d_Pa_jump_180 rfl (fun q z => by unfold f_Pa_jump; rw [bnd_r w_1, if_pos c_2, if_pos c_3, if_pos c_5, bnd_l z]) hcl hsl (fun ad_6 st_6 H locs w_6 ok_6 e1_6 e2_6 hP hD hS => ?_)
        have hcl := cl_next hcl e1_6
        have hsl := cl_next hsl e2_6
        refine lv_aload_n hx hb d_Pa_jump_183 rfl (lv_at hl 2 rfl) ?_
        refine mx_Uv (xm := ⟨"SyntaxTree$Parser", "semicolon", "()V"⟩) (owner := R_Cu) (As := []) (rest := []) ⟨hx, hb, hml, hown, hts0⟩ (m_Cu_semicolon l hlt dC dI cI cZ sa rk hp hc h a1 a2 a3 a4 ht hq n1 n2 ad_6 st_6 ok_6 _  (fun z => hg (by unfold f_Pa_jump; rw [bnd_r w_1, if_pos c_2, if_pos c_3, if_pos c_5, bnd_r w_6, bnd_n z]))) hP hD hK hS hA hC hZ hnt hlocks L_711 L_712 L_714 L_715 L_86 L_716 rfl k_Cu_semicolon ⟨Nat.le_of_ble_eq_true rfl, Nat.le_of_ble_eq_true rfl⟩ rfl rfl hl.1 (Nat.le_of_ble_eq_true rfl) d_Pa_jump_184 rfl (fun q z => by unfold f_Pa_jump; rw [bnd_r w_1, if_pos c_2, if_pos c_3, if_pos c_5, bnd_r w_6, bnd_l z]) hcl hsl (fun ad_7 st_7 H locs w_7 ok_7 e1_7 e2_7 hP hD hS => ?_)
        have hcl := cl_next hcl e1_7
        have hsl := cl_next hsl e2_7
        exact mx_vret (stF := st_7) hx hb hr hlocks hK hP hD hS hcl hsl (by unfold f_Pa_jump; rw [bnd_r w_1, if_pos c_2, if_pos c_3, if_pos c_5, bnd_r w_6, bnd_r w_7]) ok_7 d_Pa_jump_187
      · refine lv_aload_n hx hb d_Pa_jump_168 rfl (lv_at hl 2 rfl) ?_
        refine va_get (D := (dC, dI)) (ci := 2) (v := .ref hc) (C := R_Pa) (T := T_Pa) (N := 7) hx hb hts u_Pa hown hK hP 0 rfl rfl 6 (by decide) (hts _ L_221) (fun x9 h9 => u_same (hts _ L_222) x9 h9) rfl d_Pa_jump_169 ?_
        refine va_get (D := (dC, dI)) (ci := 0) (v := .int (coW st_1)) (C := R_Co) (T := T_Co) (N := 5) hx hb hts u_Co hown hK hP 1 rfl rfl 4 (by decide) (hts _ L_179) (fun _ h9 => h9) rfl d_Pa_jump_172 ?_
        refine lv_if_ne (tgt := 183) hx hb d_Pa_jump_175 (by decide) (fun c_8 => ?_) (fun c_8 => ?_)
        · refine lv_aload_n hx hb d_Pa_jump_183 rfl (lv_at hl 2 rfl) ?_
          refine mx_Uv (xm := ⟨"SyntaxTree$Parser", "semicolon", "()V"⟩) (owner := R_Cu) (As := []) (rest := []) ⟨hx, hb, hml, hown, hts0⟩ (m_Cu_semicolon l hlt dC dI cI cZ sa rk hp hc h a1 a2 a3 a4 ht hq n1 n2 ad_1 (setAt st_1 ((sAt st_1) + 1)) (show okSt (setAt st_1 ((sAt st_1) + 1)) from ⟨ok_1.1, ok_1.2.1, ok_1.2.2.1, ok_1.2.2.2⟩) _  (fun z => hg (by unfold f_Pa_jump; rw [bnd_r w_1, if_pos c_2, if_pos c_3, if_neg c_5, if_neg c_8, bnd_n z]))) hP hD hK hS hA hC hZ hnt hlocks L_711 L_712 L_714 L_715 L_86 L_716 rfl k_Cu_semicolon ⟨Nat.le_of_ble_eq_true rfl, Nat.le_of_ble_eq_true rfl⟩ rfl rfl hl.1 (Nat.le_of_ble_eq_true rfl) d_Pa_jump_184 rfl (fun q z => by unfold f_Pa_jump; rw [bnd_r w_1, if_pos c_2, if_pos c_3, if_neg c_5, if_neg c_8, bnd_l z]) hcl hsl (fun ad_9 st_9 H locs w_9 ok_9 e1_9 e2_9 hP hD hS => ?_)
          have hcl := cl_next hcl e1_9
          have hsl := cl_next hsl e2_9
          exact mx_vret (stF := st_9) hx hb hr hlocks hK hP hD hS hcl hsl (by unfold f_Pa_jump; rw [bnd_r w_1, if_pos c_2, if_pos c_3, if_neg c_5, if_neg c_8, bnd_r w_9]) ok_9 d_Pa_jump_187
        · refine lv_aload_n hx hb d_Pa_jump_178 rfl (lv_at hl 2 rfl) ?_
          refine lv_iload_n hx hb d_Pa_jump_179 rfl (lv_at hl 1 rfl) ?_
          refine mx_Uv (xm := ⟨"SyntaxTree$Parser", "refuse", "(I)V"⟩) (owner := R_Cu) (As := [.int (sAt st)]) (rest := []) ⟨hx, hb, hml, hown, hts0⟩ (m_Cu_refuse l hlt dC dI cI cZ sa rk hp hc h a1 a2 a3 a4 ht hq n1 n2 ad_1 (setAt st_1 ((sAt st_1) + 1)) (show okSt (setAt st_1 ((sAt st_1) + 1)) from ⟨ok_1.1, ok_1.2.1, ok_1.2.2.1, ok_1.2.2.2⟩) _ (sAt st) (fun z => hg (by unfold f_Pa_jump; rw [bnd_r w_1, if_pos c_2, if_pos c_3, if_neg c_5, if_pos c_8, bnd_n z]))) hP hD hK hS hA hC hZ hnt hlocks L_536 L_537 L_539 L_460 L_86 L_463 rfl k_Cu_refuse ⟨Nat.le_of_ble_eq_true rfl, Nat.le_of_ble_eq_true rfl⟩ rfl rfl hl.1 (Nat.le_of_ble_eq_true rfl) d_Pa_jump_180 rfl (fun q z => by unfold f_Pa_jump; rw [bnd_r w_1, if_pos c_2, if_pos c_3, if_neg c_5, if_pos c_8, bnd_l z]) hcl hsl (fun ad_10 st_10 H locs w_10 ok_10 e1_10 e2_10 hP hD hS => ?_)
          have hcl := cl_next hcl e1_10
          have hsl := cl_next hsl e2_10
          refine lv_aload_n hx hb d_Pa_jump_183 rfl (lv_at hl 2 rfl) ?_
          refine mx_Uv (xm := ⟨"SyntaxTree$Parser", "semicolon", "()V"⟩) (owner := R_Cu) (As := []) (rest := []) ⟨hx, hb, hml, hown, hts0⟩ (m_Cu_semicolon l hlt dC dI cI cZ sa rk hp hc h a1 a2 a3 a4 ht hq n1 n2 ad_10 st_10 ok_10 _  (fun z => hg (by unfold f_Pa_jump; rw [bnd_r w_1, if_pos c_2, if_pos c_3, if_neg c_5, if_pos c_8, bnd_r w_10, bnd_n z]))) hP hD hK hS hA hC hZ hnt hlocks L_711 L_712 L_714 L_715 L_86 L_716 rfl k_Cu_semicolon ⟨Nat.le_of_ble_eq_true rfl, Nat.le_of_ble_eq_true rfl⟩ rfl rfl hl.1 (Nat.le_of_ble_eq_true rfl) d_Pa_jump_184 rfl (fun q z => by unfold f_Pa_jump; rw [bnd_r w_1, if_pos c_2, if_pos c_3, if_neg c_5, if_pos c_8, bnd_r w_10, bnd_l z]) hcl hsl (fun ad_11 st_11 H locs w_11 ok_11 e1_11 e2_11 hP hD hS => ?_)
          have hcl := cl_next hcl e1_11
          have hsl := cl_next hsl e2_11
          exact mx_vret (stF := st_11) hx hb hr hlocks hK hP hD hS hcl hsl (by unfold f_Pa_jump; rw [bnd_r w_1, if_pos c_2, if_pos c_3, if_neg c_5, if_pos c_8, bnd_r w_10, bnd_r w_11]) ok_11 d_Pa_jump_187
  · refine lv_aload_n hx hb d_Pa_jump_33 rfl (lv_at hl 2 rfl) ?_
    refine va_get (D := (dC, dI)) (ci := 2) (v := .ref h) (C := R_Pa) (T := T_Pa) (N := 7) hx hb hts u_Pa hown hK hP 0 rfl rfl 3 (by decide) (hts _ L_212) (fun x9 h9 => u_same (hts _ L_213) x9 h9) rfl d_Pa_jump_34 ?_
    refine lv_aload_n hx hb d_Pa_jump_37 rfl (lv_at hl 2 rfl) ?_
    refine va_get (D := (dC, dI)) (ci := 2) (v := .int ((sAt st_1) + 1)) (C := R_Pa) (T := T_Pa) (N := 7) hx hb hts u_Pa hown hK hP 0 rfl rfl 4 (by decide) (hts _ L_215) (fun x9 h9 => u_same (hts _ L_216) x9 h9) rfl d_Pa_jump_38 ?_
    refine rd_V (v := (f_Tk_line (sTk st_1) ((sAt st_1) + 1))) (As := [.int ((sAt st_1) + 1)]) (rest := []) ⟨hx, hb, hml, hown, hts0⟩ (m_Tk_line l dC dI cI cZ h a1 a2 a3 a4 (sTk st_1) ok_1.1 ((sAt st_1) + 1)) hP hK [2, 3, 4, 5, 6] rfl [0, 1] rfl 0 3 rfl rfl L_678 L_679 L_680 L_84 L_681 ⟨rfl, k_Tk_line⟩ ⟨Nat.le_of_ble_eq_true rfl, Nat.le_of_ble_eq_true rfl⟩ hl.1 ⟨Nat.le_trans (Nat.le_add_right _ _) hcl, Nat.le_trans (Nat.le_add_right _ _) hsl⟩ (Nat.le_of_ble_eq_true rfl) d_Pa_jump_41 rfl ?_
    refine lv_if_ne (tgt := 152) hx hb d_Pa_jump_44 (by decide) (fun c_12 => ?_) (fun c_12 => ?_)
    · refine lv_aload_n hx hb d_Pa_jump_152 rfl (lv_at hl 2 rfl) ?_
      refine va_get (D := (dC, dI)) (ci := 2) (v := .ref hc) (C := R_Pa) (T := T_Pa) (N := 7) hx hb hts u_Pa hown hK hP 0 rfl rfl 6 (by decide) (hts _ L_221) (fun x9 h9 => u_same (hts _ L_222) x9 h9) rfl d_Pa_jump_153 ?_
      refine va_get (D := (dC, dI)) (ci := 0) (v := .int (coP st_1)) (C := R_Co) (T := T_Co) (N := 5) hx hb hts u_Co hown hK hP 1 rfl rfl 3 (by decide) (hts _ L_177) (fun _ h9 => h9) rfl d_Pa_jump_156 ?_
      refine lv_if_ne (tgt := 183) hx hb d_Pa_jump_159 (by decide) (fun c_13 => ?_) (fun c_13 => ?_)
      · refine lv_aload_n hx hb d_Pa_jump_183 rfl (lv_at hl 2 rfl) ?_
        refine mx_Uv (xm := ⟨"SyntaxTree$Parser", "semicolon", "()V"⟩) (owner := R_Cu) (As := []) (rest := []) ⟨hx, hb, hml, hown, hts0⟩ (m_Cu_semicolon l hlt dC dI cI cZ sa rk hp hc h a1 a2 a3 a4 ht hq n1 n2 ad_1 (setAt st_1 ((sAt st_1) + 1)) (show okSt (setAt st_1 ((sAt st_1) + 1)) from ⟨ok_1.1, ok_1.2.1, ok_1.2.2.1, ok_1.2.2.2⟩) _  (fun z => hg (by unfold f_Pa_jump; rw [bnd_r w_1, if_neg c_2, if_neg c_12, if_neg c_13, bnd_n z]))) hP hD hK hS hA hC hZ hnt hlocks L_711 L_712 L_714 L_715 L_86 L_716 rfl k_Cu_semicolon ⟨Nat.le_of_ble_eq_true rfl, Nat.le_of_ble_eq_true rfl⟩ rfl rfl hl.1 (Nat.le_of_ble_eq_true rfl) d_Pa_jump_184 rfl (fun q z => by unfold f_Pa_jump; rw [bnd_r w_1, if_neg c_2, if_neg c_12, if_neg c_13, bnd_l z]) hcl hsl (fun ad_14 st_14 H locs w_14 ok_14 e1_14 e2_14 hP hD hS => ?_)
        have hcl := cl_next hcl e1_14
        have hsl := cl_next hsl e2_14
        exact mx_vret (stF := st_14) hx hb hr hlocks hK hP hD hS hcl hsl (by unfold f_Pa_jump; rw [bnd_r w_1, if_neg c_2, if_neg c_12, if_neg c_13, bnd_r w_14]) ok_14 d_Pa_jump_187
      · refine lv_iload_n hx hb d_Pa_jump_162 rfl (lv_at hl 3 rfl) ?_
        refine lv_bipush (v := 11) hx hb d_Pa_jump_163 (by decide) ?_
        refine lv_icmp_eq (tgt := 178) hx hb d_Pa_jump_165 (by decide) (fun c_15 => ?_) (fun c_15 => ?_)
        · refine lv_aload_n hx hb d_Pa_jump_178 rfl (lv_at hl 2 rfl) ?_
          refine lv_iload_n hx hb d_Pa_jump_179 rfl (lv_at hl 1 rfl) ?_
          refine mx_Uv (xm := ⟨"SyntaxTree$Parser", "refuse", "(I)V"⟩) (owner := R_Cu) (As := [.int (sAt st)]) (rest := []) ⟨hx, hb, hml, hown, hts0⟩ (m_Cu_refuse l hlt dC dI cI cZ sa rk hp hc h a1 a2 a3 a4 ht hq n1 n2 ad_1 (setAt st_1 ((sAt st_1) + 1)) (show okSt (setAt st_1 ((sAt st_1) + 1)) from ⟨ok_1.1, ok_1.2.1, ok_1.2.2.1, ok_1.2.2.2⟩) _ (sAt st) (fun z => hg (by unfold f_Pa_jump; rw [bnd_r w_1, if_neg c_2, if_neg c_12, if_pos c_13, if_pos c_15, bnd_n z]))) hP hD hK hS hA hC hZ hnt hlocks L_536 L_537 L_539 L_460 L_86 L_463 rfl k_Cu_refuse ⟨Nat.le_of_ble_eq_true rfl, Nat.le_of_ble_eq_true rfl⟩ rfl rfl hl.1 (Nat.le_of_ble_eq_true rfl) d_Pa_jump_180 rfl (fun q z => by unfold f_Pa_jump; rw [bnd_r w_1, if_neg c_2, if_neg c_12, if_pos c_13, if_pos c_15, bnd_l z]) hcl hsl (fun ad_16 st_16 H locs w_16 ok_16 e1_16 e2_16 hP hD hS => ?_)
          have hcl := cl_next hcl e1_16
          have hsl := cl_next hsl e2_16
          refine lv_aload_n hx hb d_Pa_jump_183 rfl (lv_at hl 2 rfl) ?_
          refine mx_Uv (xm := ⟨"SyntaxTree$Parser", "semicolon", "()V"⟩) (owner := R_Cu) (As := []) (rest := []) ⟨hx, hb, hml, hown, hts0⟩ (m_Cu_semicolon l hlt dC dI cI cZ sa rk hp hc h a1 a2 a3 a4 ht hq n1 n2 ad_16 st_16 ok_16 _  (fun z => hg (by unfold f_Pa_jump; rw [bnd_r w_1, if_neg c_2, if_neg c_12, if_pos c_13, if_pos c_15, bnd_r w_16, bnd_n z]))) hP hD hK hS hA hC hZ hnt hlocks L_711 L_712 L_714 L_715 L_86 L_716 rfl k_Cu_semicolon ⟨Nat.le_of_ble_eq_true rfl, Nat.le_of_ble_eq_true rfl⟩ rfl rfl hl.1 (Nat.le_of_ble_eq_true rfl) d_Pa_jump_184 rfl (fun q z => by unfold f_Pa_jump; rw [bnd_r w_1, if_neg c_2, if_neg c_12, if_pos c_13, if_pos c_15, bnd_r w_16, bnd_l z]) hcl hsl (fun ad_17 st_17 H locs w_17 ok_17 e1_17 e2_17 hP hD hS => ?_)
          have hcl := cl_next hcl e1_17
          have hsl := cl_next hsl e2_17
          exact mx_vret (stF := st_17) hx hb hr hlocks hK hP hD hS hcl hsl (by unfold f_Pa_jump; rw [bnd_r w_1, if_neg c_2, if_neg c_12, if_pos c_13, if_pos c_15, bnd_r w_16, bnd_r w_17]) ok_17 d_Pa_jump_187
        · refine lv_aload_n hx hb d_Pa_jump_168 rfl (lv_at hl 2 rfl) ?_
          refine va_get (D := (dC, dI)) (ci := 2) (v := .ref hc) (C := R_Pa) (T := T_Pa) (N := 7) hx hb hts u_Pa hown hK hP 0 rfl rfl 6 (by decide) (hts _ L_221) (fun x9 h9 => u_same (hts _ L_222) x9 h9) rfl d_Pa_jump_169 ?_
          refine va_get (D := (dC, dI)) (ci := 0) (v := .int (coW st_1)) (C := R_Co) (T := T_Co) (N := 5) hx hb hts u_Co hown hK hP 1 rfl rfl 4 (by decide) (hts _ L_179) (fun _ h9 => h9) rfl d_Pa_jump_172 ?_
          refine lv_if_ne (tgt := 183) hx hb d_Pa_jump_175 (by decide) (fun c_18 => ?_) (fun c_18 => ?_)
          · refine lv_aload_n hx hb d_Pa_jump_183 rfl (lv_at hl 2 rfl) ?_
            refine mx_Uv (xm := ⟨"SyntaxTree$Parser", "semicolon", "()V"⟩) (owner := R_Cu) (As := []) (rest := []) ⟨hx, hb, hml, hown, hts0⟩ (m_Cu_semicolon l hlt dC dI cI cZ sa rk hp hc h a1 a2 a3 a4 ht hq n1 n2 ad_1 (setAt st_1 ((sAt st_1) + 1)) (show okSt (setAt st_1 ((sAt st_1) + 1)) from ⟨ok_1.1, ok_1.2.1, ok_1.2.2.1, ok_1.2.2.2⟩) _  (fun z => hg (by unfold f_Pa_jump; rw [bnd_r w_1, if_neg c_2, if_neg c_12, if_pos c_13, if_neg c_15, if_neg c_18, bnd_n z]))) hP hD hK hS hA hC hZ hnt hlocks L_711 L_712 L_714 L_715 L_86 L_716 rfl k_Cu_semicolon ⟨Nat.le_of_ble_eq_true rfl, Nat.le_of_ble_eq_true rfl⟩ rfl rfl hl.1 (Nat.le_of_ble_eq_true rfl) d_Pa_jump_184 rfl (fun q z => by unfold f_Pa_jump; rw [bnd_r w_1, if_neg c_2, if_neg c_12, if_pos c_13, if_neg c_15, if_neg c_18, bnd_l z]) hcl hsl (fun ad_19 st_19 H locs w_19 ok_19 e1_19 e2_19 hP hD hS => ?_)
            have hcl := cl_next hcl e1_19
            have hsl := cl_next hsl e2_19
            exact mx_vret (stF := st_19) hx hb hr hlocks hK hP hD hS hcl hsl (by unfold f_Pa_jump; rw [bnd_r w_1, if_neg c_2, if_neg c_12, if_pos c_13, if_neg c_15, if_neg c_18, bnd_r w_19]) ok_19 d_Pa_jump_187
          · refine lv_aload_n hx hb d_Pa_jump_178 rfl (lv_at hl 2 rfl) ?_
            refine lv_iload_n hx hb d_Pa_jump_179 rfl (lv_at hl 1 rfl) ?_
            refine mx_Uv (xm := ⟨"SyntaxTree$Parser", "refuse", "(I)V"⟩) (owner := R_Cu) (As := [.int (sAt st)]) (rest := []) ⟨hx, hb, hml, hown, hts0⟩ (m_Cu_refuse l hlt dC dI cI cZ sa rk hp hc h a1 a2 a3 a4 ht hq n1 n2 ad_1 (setAt st_1 ((sAt st_1) + 1)) (show okSt (setAt st_1 ((sAt st_1) + 1)) from ⟨ok_1.1, ok_1.2.1, ok_1.2.2.1, ok_1.2.2.2⟩) _ (sAt st) (fun z => hg (by unfold f_Pa_jump; rw [bnd_r w_1, if_neg c_2, if_neg c_12, if_pos c_13, if_neg c_15, if_pos c_18, bnd_n z]))) hP hD hK hS hA hC hZ hnt hlocks L_536 L_537 L_539 L_460 L_86 L_463 rfl k_Cu_refuse ⟨Nat.le_of_ble_eq_true rfl, Nat.le_of_ble_eq_true rfl⟩ rfl rfl hl.1 (Nat.le_of_ble_eq_true rfl) d_Pa_jump_180 rfl (fun q z => by unfold f_Pa_jump; rw [bnd_r w_1, if_neg c_2, if_neg c_12, if_pos c_13, if_neg c_15, if_pos c_18, bnd_l z]) hcl hsl (fun ad_20 st_20 H locs w_20 ok_20 e1_20 e2_20 hP hD hS => ?_)
            have hcl := cl_next hcl e1_20
            have hsl := cl_next hsl e2_20
            refine lv_aload_n hx hb d_Pa_jump_183 rfl (lv_at hl 2 rfl) ?_
            refine mx_Uv (xm := ⟨"SyntaxTree$Parser", "semicolon", "()V"⟩) (owner := R_Cu) (As := []) (rest := []) ⟨hx, hb, hml, hown, hts0⟩ (m_Cu_semicolon l hlt dC dI cI cZ sa rk hp hc h a1 a2 a3 a4 ht hq n1 n2 ad_20 st_20 ok_20 _  (fun z => hg (by unfold f_Pa_jump; rw [bnd_r w_1, if_neg c_2, if_neg c_12, if_pos c_13, if_neg c_15, if_pos c_18, bnd_r w_20, bnd_n z]))) hP hD hK hS hA hC hZ hnt hlocks L_711 L_712 L_714 L_715 L_86 L_716 rfl k_Cu_semicolon ⟨Nat.le_of_ble_eq_true rfl, Nat.le_of_ble_eq_true rfl⟩ rfl rfl hl.1 (Nat.le_of_ble_eq_true rfl) d_Pa_jump_184 rfl (fun q z => by unfold f_Pa_jump; rw [bnd_r w_1, if_neg c_2, if_neg c_12, if_pos c_13, if_neg c_15, if_pos c_18, bnd_r w_20, bnd_l z]) hcl hsl (fun ad_21 st_21 H locs w_21 ok_21 e1_21 e2_21 hP hD hS => ?_)
            have hcl := cl_next hcl e1_21
            have hsl := cl_next hsl e2_21
            exact mx_vret (stF := st_21) hx hb hr hlocks hK hP hD hS hcl hsl (by unfold f_Pa_jump; rw [bnd_r w_1, if_neg c_2, if_neg c_12, if_pos c_13, if_neg c_15, if_pos c_18, bnd_r w_20, bnd_r w_21]) ok_21 d_Pa_jump_187
    · refine lv_aload_n hx hb d_Pa_jump_47 rfl (lv_at hl 2 rfl) ?_
      refine va_get (D := (dC, dI)) (ci := 2) (v := .ref hq) (C := R_Pa) (T := T_Pa) (N := 7) hx hb hts u_Pa hown hK hP 0 rfl rfl 1 (by decide) (hts _ L_209) (fun _ h9 => h9) rfl d_Pa_jump_48 ?_
      refine lv_aload_n hx hb d_Pa_jump_51 rfl (lv_at hl 2 rfl) ?_
      refine va_get (D := (dC, dI)) (ci := 2) (v := .ref hc) (C := R_Pa) (T := T_Pa) (N := 7) hx hb hts u_Pa hown hK hP 0 rfl rfl 6 (by decide) (hts _ L_221) (fun x9 h9 => u_same (hts _ L_222) x9 h9) rfl d_Pa_jump_52 ?_
      refine va_get (D := (dC, dI)) (ci := 0) (v := .int (coL st_1)) (C := R_Co) (T := T_Co) (N := 5) hx hb hts u_Co hown hK hP 1 rfl rfl 1 (by decide) (hts _ L_172) (fun _ h9 => h9) rfl d_Pa_jump_55 ?_
      refine lv_aload_n hx hb d_Pa_jump_58 rfl (lv_at hl 2 rfl) ?_
      refine va_get (D := (dC, dI)) (ci := 2) (v := .ref h) (C := R_Pa) (T := T_Pa) (N := 7) hx hb hts u_Pa hown hK hP 0 rfl rfl 3 (by decide) (hts _ L_212) (fun x9 h9 => u_same (hts _ L_213) x9 h9) rfl d_Pa_jump_59 ?_
      refine lv_aload_n hx hb d_Pa_jump_62 rfl (lv_at hl 2 rfl) ?_
      refine va_get (D := (dC, dI)) (ci := 2) (v := .int ((sAt st_1) + 1)) (C := R_Pa) (T := T_Pa) (N := 7) hx hb hts u_Pa hown hK hP 0 rfl rfl 4 (by decide) (hts _ L_215) (fun x9 h9 => u_same (hts _ L_216) x9 h9) rfl d_Pa_jump_63 ?_
      refine rd_V (v := (f_Tk_name (sTk st_1) ((sAt st_1) + 1))) (As := [.int ((sAt st_1) + 1)]) (rest := [.int (coL st_1), .ref hq]) ⟨hx, hb, hml, hown, hts0⟩ (m_Tk_name l dC dI cI cZ h a1 a2 a3 a4 (sTk st_1) ok_1.1 ((sAt st_1) + 1)) hP hK [2, 3, 4, 5, 6] rfl [0, 1] rfl 0 3 rfl rfl L_623 L_478 L_479 L_84 L_480 ⟨rfl, k_Tk_name⟩ ⟨Nat.le_of_ble_eq_true rfl, Nat.le_of_ble_eq_true rfl⟩ hl.1 ⟨Nat.le_trans (Nat.le_add_right _ _) hcl, Nat.le_trans (Nat.le_add_right _ _) hsl⟩ (Nat.le_of_ble_eq_true rfl) d_Pa_jump_66 rfl ?_
      obtain ⟨v_22, w_22⟩ : ∃ v9, (f_La_find (sLb st_1) (coL st_1) (f_Tk_name (sTk st_1) ((sAt st_1) + 1))) = some v9 := bnO_ex ((fun z => hg (by unfold f_Pa_jump; rw [bnd_r w_1, if_neg c_2, if_pos c_12, bnO_n z])))
      refine rd_V (v := v_22) (As := [.int (coL st_1), .int (f_Tk_name (sTk st_1) ((sAt st_1) + 1))]) (rest := []) ⟨hx, hb, hml, hown, hts0⟩ (m_La_find l dC dI cI cZ hq n1 n2 (sLb st_1) ok_1.2.2.1 (coL st_1) (f_Tk_name (sTk st_1) ((sAt st_1) + 1)) v_22 w_22) hP hK [12, 13, 14] rfl [0, 1] rfl 0 1 rfl rfl L_775 L_776 L_777 L_89 L_778 ⟨rfl, k_La_find⟩ ⟨Nat.le_of_ble_eq_true rfl, Nat.le_of_ble_eq_true rfl⟩ hl.1 ⟨Nat.le_trans (Nat.le_add_right _ _) hcl, Nat.le_trans (Nat.le_add_right _ _) hsl⟩ (Nat.le_of_ble_eq_true rfl) d_Pa_jump_69 rfl ?_
      refine lv_istore (lv' := [(4, .int v_22), (3, .int r_1), (2, .int (sAt st)), (0, .ref hp), (1, .int kind)]) hx hb d_Pa_jump_72 hl (by decide) rfl (fun ls hl => ?_)
      refine lv_iload_n hx hb d_Pa_jump_74 rfl (lv_at hl 4 rfl) ?_
      refine lv_bipush (v := 12) hx hb d_Pa_jump_75 (by decide) ?_
      refine lv_icmp_eq (tgt := 92) hx hb d_Pa_jump_77 (by decide) (fun c_23 => ?_) (fun c_23 => ?_)
      · refine lv_iconst (v := 1) hx hb d_Pa_jump_92 (by decide) ?_
        refine lv_goto (tgt := 97) hx hb d_Pa_jump_93 (by decide) ?_
        refine lv_istore (lv' := [(5, .int 1), (4, .int v_22), (3, .int r_1), (2, .int (sAt st)), (0, .ref hp), (1, .int kind)]) hx hb d_Pa_jump_97 hl (by decide) rfl (fun ls hl => ?_)
        refine lv_iload hx hb d_Pa_jump_99 (lv_at hl 1 rfl) ?_
        refine lv_iconst (v := (-1)) hx hb d_Pa_jump_101 (by decide) ?_
        refine lv_icmp_eq (tgt := 110) hx hb d_Pa_jump_102 (by decide) (fun c_24 => ?_) (fun c_24 => ?_)
        · refine lv_aload_n hx hb d_Pa_jump_110 rfl (lv_at hl 4 rfl) ?_
          refine lv_aload_n hx hb d_Pa_jump_111 rfl (lv_at hl 4 rfl) ?_
          refine va_get (D := (dC, dI)) (ci := 2) (v := .int ((sAt st_1) + 1)) (C := R_Pa) (T := T_Pa) (N := 7) hx hb hts u_Pa hown hK hP 0 rfl rfl 4 (by decide) (hts _ L_215) (fun x9 h9 => u_same (hts _ L_216) x9 h9) rfl d_Pa_jump_112 ?_
          refine mx_Uv (xm := ⟨"SyntaxTree$Parser", "refuse", "(I)V"⟩) (owner := R_Cu) (As := [.int ((sAt st_1) + 1)]) (rest := []) ⟨hx, hb, hml, hown, hts0⟩ (m_Cu_refuse l hlt dC dI cI cZ sa rk hp hc h a1 a2 a3 a4 ht hq n1 n2 ad_1 (setAt st_1 ((sAt st_1) + 1)) (show okSt (setAt st_1 ((sAt st_1) + 1)) from ⟨ok_1.1, ok_1.2.1, ok_1.2.2.1, ok_1.2.2.2⟩) _ ((sAt st_1) + 1) (fun z => hg (by unfold f_Pa_jump; rw [bnd_r w_1, if_neg c_2, if_pos c_12, bnO_s w_22, if_pos c_23, if_pos c_24, bnd_n z]))) hP hD hK hS hA hC hZ hnt hlocks L_536 L_537 L_539 L_460 L_86 L_463 rfl k_Cu_refuse ⟨Nat.le_of_ble_eq_true rfl, Nat.le_of_ble_eq_true rfl⟩ rfl rfl hl.1 (Nat.le_of_ble_eq_true rfl) d_Pa_jump_115 rfl (fun q z => by unfold f_Pa_jump; rw [bnd_r w_1, if_neg c_2, if_pos c_12, bnO_s w_22, if_pos c_23, if_pos c_24, bnd_l z]) hcl hsl (fun ad_25 st_25 H locs w_25 ok_25 e1_25 e2_25 hP hD hS => ?_)
          have hcl := cl_next hcl e1_25
          have hsl := cl_next hsl e2_25
          refine lv_aload_n hx hb d_Pa_jump_118 rfl (lv_at hl 4 rfl) ?_
          refine va_get (D := (dC, dI)) (ci := 2) (v := .ref ht) (C := R_Pa) (T := T_Pa) (N := 7) hx hb hts u_Pa hown hK hP 0 rfl rfl 0 (by decide) (hts _ L_208) (fun _ h9 => h9) rfl d_Pa_jump_119 ?_
          refine lv_iload_n hx hb d_Pa_jump_122 rfl (lv_at hl 2 rfl) ?_
          refine lv_aload_n hx hb d_Pa_jump_123 rfl (lv_at hl 4 rfl) ?_
          refine va_get (D := (dC, dI)) (ci := 2) (v := .ref h) (C := R_Pa) (T := T_Pa) (N := 7) hx hb hts u_Pa hown hK hP 0 rfl rfl 3 (by decide) (hts _ L_212) (fun x9 h9 => u_same (hts _ L_213) x9 h9) rfl d_Pa_jump_124 ?_
          refine lv_aload_n hx hb d_Pa_jump_127 rfl (lv_at hl 4 rfl) ?_
          refine va_get (D := (dC, dI)) (ci := 2) (v := .int (sAt st_25)) (C := R_Pa) (T := T_Pa) (N := 7) hx hb hts u_Pa hown hK hP 0 rfl rfl 4 (by decide) (hts _ L_215) (fun x9 h9 => u_same (hts _ L_216) x9 h9) rfl d_Pa_jump_128 ?_
          refine rd_V (v := (f_Tk_name (sTk st_25) (sAt st_25))) (As := [.int (sAt st_25)]) (rest := [.int r_1, .ref ht]) ⟨hx, hb, hml, hown, hts0⟩ (m_Tk_name l dC dI cI cZ h a1 a2 a3 a4 (sTk st_25) ok_25.1 (sAt st_25)) hP hK [2, 3, 4, 5, 6] rfl [0, 1] rfl 0 3 rfl rfl L_623 L_478 L_479 L_84 L_480 ⟨rfl, k_Tk_name⟩ ⟨Nat.le_of_ble_eq_true rfl, Nat.le_of_ble_eq_true rfl⟩ hl.1 ⟨Nat.le_trans (Nat.le_add_right _ _) hcl, Nat.le_trans (Nat.le_add_right _ _) hsl⟩ (Nat.le_of_ble_eq_true rfl) d_Pa_jump_131 rfl ?_
          refine lv_iconst (v := 1) hx hb d_Pa_jump_134 (by decide) ?_
          refine lv_iadd hx hb d_Pa_jump_135 ?_
          refine pT_v (g := (p_setValue st_25 r_1 ((f_Tk_name (sTk st_25) (sAt st_25)) + 1))) (st := st_25) (As := [.int r_1, .int ((f_Tk_name (sTk st_25) (sAt st_25)) + 1)]) (rest := []) ⟨hx, hb, hml, hown, hts0⟩ (m_Tr_setValue l dC dI cI cZ sa rk ht ad_25 (sTr st_25) ok_25.2.1 _ r_1 ((f_Tk_name (sTk st_25) (sAt st_25)) + 1)) hP hD hK hS hA hC hZ L_488 L_489 L_490 L_85 L_491 ⟨rfl, k_Tr_setValue⟩ ⟨Nat.le_of_ble_eq_true rfl, Nat.le_of_ble_eq_true rfl⟩ rfl rfl hl.1 (Nat.le_of_ble_eq_true rfl) d_Pa_jump_136 rfl hcl hsl (Nat.zero_le _) (Nat.zero_le _) ok_25 (t_setValue_ok r_1 ((f_Tk_name (sTk st_25) (sAt st_25)) + 1) ok_25.2.1) rfl (fun ad_26 st_26 H locs w_26 ok_26 e1_26 e2_26 hP hD hS => ?_)
          have hcl := cl_next hcl e1_26
          have hsl := cl_next hsl e2_26
          refine lv_aload_n hx hb d_Pa_jump_139 rfl (lv_at hl 4 rfl) ?_
          refine lv_dup hx hb d_Pa_jump_140 rfl ?_
          refine va_get (D := (dC, dI)) (ci := 2) (v := .int (sAt st_26)) (C := R_Pa) (T := T_Pa) (N := 7) hx hb hts u_Pa hown hK hP 0 rfl rfl 4 (by decide) (hts _ L_215) (fun x9 h9 => u_same (hts _ L_216) x9 h9) rfl d_Pa_jump_141 ?_
          refine lv_iconst (v := 1) hx hb d_Pa_jump_144 (by decide) ?_
          refine lv_iadd hx hb d_Pa_jump_145 ?_
          refine va_put (D := (dC, dI)) (ci := 2) (v := .int ((sAt st_26) + 1)) (ty := .int) (C := R_Pa) (T := T_Pa) (N := 7) hx hb hts u_Pa ty_Pa tk_Pa nm_Pa hown hK hP hD hS 0 rfl rfl 4 (by decide) (hts _ L_215) (fun x9 h9 => u_same (hts _ L_216) x9 h9) rfl (by decide +kernel) rfl rfl (Nat.le_of_ble_eq_true rfl) d_Pa_jump_146 (fun H locs hP hD hS => ?_)
          have hP : va_P (dC, dI) cls (wQ cI cZ hp hc h a1 a2 a3 a4 ht hq n1 n2 (ad_26, (setAt st_26 ((sAt st_26) + 1)))) H := hP
          have hD : va_D A (wQ cI cZ hp hc h a1 a2 a3 a4 ht hq n1 n2 (ad_26, (setAt st_26 ((sAt st_26) + 1)))) := hD
          refine lv_goto (tgt := 183) hx hb d_Pa_jump_149 (by decide) ?_
          refine lv_aload_n hx hb d_Pa_jump_183 rfl (lv_at hl 4 rfl) ?_
          refine mx_Uv (xm := ⟨"SyntaxTree$Parser", "semicolon", "()V"⟩) (owner := R_Cu) (As := []) (rest := []) ⟨hx, hb, hml, hown, hts0⟩ (m_Cu_semicolon l hlt dC dI cI cZ sa rk hp hc h a1 a2 a3 a4 ht hq n1 n2 ad_26 (setAt st_26 ((sAt st_26) + 1)) (show okSt (setAt st_26 ((sAt st_26) + 1)) from ⟨ok_26.1, ok_26.2.1, ok_26.2.2.1, ok_26.2.2.2⟩) _  (fun z => hg (by unfold f_Pa_jump; rw [bnd_r w_1, if_neg c_2, if_pos c_12, bnO_s w_22, if_pos c_23, if_pos c_24, bnd_r w_25, bnd_r w_26, bnd_n z]))) hP hD hK hS hA hC hZ hnt hlocks L_711 L_712 L_714 L_715 L_86 L_716 rfl k_Cu_semicolon ⟨Nat.le_of_ble_eq_true rfl, Nat.le_of_ble_eq_true rfl⟩ rfl rfl hl.1 (Nat.le_of_ble_eq_true rfl) d_Pa_jump_184 rfl (fun q z => by unfold f_Pa_jump; rw [bnd_r w_1, if_neg c_2, if_pos c_12, bnO_s w_22, if_pos c_23, if_pos c_24, bnd_r w_25, bnd_r w_26, bnd_l z]) hcl hsl (fun ad_27 st_27 H locs w_27 ok_27 e1_27 e2_27 hP hD hS => ?_)
          have hcl := cl_next hcl e1_27
          have hsl := cl_next hsl e2_27
          exact mx_vret (stF := st_27) hx hb hr hlocks hK hP hD hS hcl hsl (by unfold f_Pa_jump; rw [bnd_r w_1, if_neg c_2, if_pos c_12, bnO_s w_22, if_pos c_23, if_pos c_24, bnd_r w_25, bnd_r w_26, bnd_r w_27]) ok_27 d_Pa_jump_187
        · refine lv_iload hx hb d_Pa_jump_105 (lv_at hl 0 rfl) ?_
          refine lv_if_ne (tgt := 118) hx hb d_Pa_jump_107 (by decide) (fun _ => ?_) (fun q9 => absurd q9 (by decide))
          refine lv_aload_n hx hb d_Pa_jump_118 rfl (lv_at hl 4 rfl) ?_
          refine va_get (D := (dC, dI)) (ci := 2) (v := .ref ht) (C := R_Pa) (T := T_Pa) (N := 7) hx hb hts u_Pa hown hK hP 0 rfl rfl 0 (by decide) (hts _ L_208) (fun _ h9 => h9) rfl d_Pa_jump_119 ?_
          refine lv_iload_n hx hb d_Pa_jump_122 rfl (lv_at hl 2 rfl) ?_
          refine lv_aload_n hx hb d_Pa_jump_123 rfl (lv_at hl 4 rfl) ?_
          refine va_get (D := (dC, dI)) (ci := 2) (v := .ref h) (C := R_Pa) (T := T_Pa) (N := 7) hx hb hts u_Pa hown hK hP 0 rfl rfl 3 (by decide) (hts _ L_212) (fun x9 h9 => u_same (hts _ L_213) x9 h9) rfl d_Pa_jump_124 ?_
          refine lv_aload_n hx hb d_Pa_jump_127 rfl (lv_at hl 4 rfl) ?_
          refine va_get (D := (dC, dI)) (ci := 2) (v := .int ((sAt st_1) + 1)) (C := R_Pa) (T := T_Pa) (N := 7) hx hb hts u_Pa hown hK hP 0 rfl rfl 4 (by decide) (hts _ L_215) (fun x9 h9 => u_same (hts _ L_216) x9 h9) rfl d_Pa_jump_128 ?_
          refine rd_V (v := (f_Tk_name (sTk st_1) ((sAt st_1) + 1))) (As := [.int ((sAt st_1) + 1)]) (rest := [.int r_1, .ref ht]) ⟨hx, hb, hml, hown, hts0⟩ (m_Tk_name l dC dI cI cZ h a1 a2 a3 a4 (sTk st_1) ok_1.1 ((sAt st_1) + 1)) hP hK [2, 3, 4, 5, 6] rfl [0, 1] rfl 0 3 rfl rfl L_623 L_478 L_479 L_84 L_480 ⟨rfl, k_Tk_name⟩ ⟨Nat.le_of_ble_eq_true rfl, Nat.le_of_ble_eq_true rfl⟩ hl.1 ⟨Nat.le_trans (Nat.le_add_right _ _) hcl, Nat.le_trans (Nat.le_add_right _ _) hsl⟩ (Nat.le_of_ble_eq_true rfl) d_Pa_jump_131 rfl ?_
          refine lv_iconst (v := 1) hx hb d_Pa_jump_134 (by decide) ?_
          refine lv_iadd hx hb d_Pa_jump_135 ?_
          refine pT_v (g := (p_setValue (setAt st_1 ((sAt st_1) + 1)) r_1 ((f_Tk_name (sTk st_1) ((sAt st_1) + 1)) + 1))) (st := (setAt st_1 ((sAt st_1) + 1))) (As := [.int r_1, .int ((f_Tk_name (sTk st_1) ((sAt st_1) + 1)) + 1)]) (rest := []) ⟨hx, hb, hml, hown, hts0⟩ (m_Tr_setValue l dC dI cI cZ sa rk ht ad_1 (sTr st_1) ok_1.2.1 _ r_1 ((f_Tk_name (sTk st_1) ((sAt st_1) + 1)) + 1)) hP hD hK hS hA hC hZ L_488 L_489 L_490 L_85 L_491 ⟨rfl, k_Tr_setValue⟩ ⟨Nat.le_of_ble_eq_true rfl, Nat.le_of_ble_eq_true rfl⟩ rfl rfl hl.1 (Nat.le_of_ble_eq_true rfl) d_Pa_jump_136 rfl hcl hsl (Nat.zero_le _) (Nat.zero_le _) (show okSt (setAt st_1 ((sAt st_1) + 1)) from ⟨ok_1.1, ok_1.2.1, ok_1.2.2.1, ok_1.2.2.2⟩) (t_setValue_ok r_1 ((f_Tk_name (sTk st_1) ((sAt st_1) + 1)) + 1) ok_1.2.1) rfl (fun ad_28 st_28 H locs w_28 ok_28 e1_28 e2_28 hP hD hS => ?_)
          have hcl := cl_next hcl e1_28
          have hsl := cl_next hsl e2_28
          refine lv_aload_n hx hb d_Pa_jump_139 rfl (lv_at hl 4 rfl) ?_
          refine lv_dup hx hb d_Pa_jump_140 rfl ?_
          refine va_get (D := (dC, dI)) (ci := 2) (v := .int (sAt st_28)) (C := R_Pa) (T := T_Pa) (N := 7) hx hb hts u_Pa hown hK hP 0 rfl rfl 4 (by decide) (hts _ L_215) (fun x9 h9 => u_same (hts _ L_216) x9 h9) rfl d_Pa_jump_141 ?_
          refine lv_iconst (v := 1) hx hb d_Pa_jump_144 (by decide) ?_
          refine lv_iadd hx hb d_Pa_jump_145 ?_
          refine va_put (D := (dC, dI)) (ci := 2) (v := .int ((sAt st_28) + 1)) (ty := .int) (C := R_Pa) (T := T_Pa) (N := 7) hx hb hts u_Pa ty_Pa tk_Pa nm_Pa hown hK hP hD hS 0 rfl rfl 4 (by decide) (hts _ L_215) (fun x9 h9 => u_same (hts _ L_216) x9 h9) rfl (by decide +kernel) rfl rfl (Nat.le_of_ble_eq_true rfl) d_Pa_jump_146 (fun H locs hP hD hS => ?_)
          have hP : va_P (dC, dI) cls (wQ cI cZ hp hc h a1 a2 a3 a4 ht hq n1 n2 (ad_28, (setAt st_28 ((sAt st_28) + 1)))) H := hP
          have hD : va_D A (wQ cI cZ hp hc h a1 a2 a3 a4 ht hq n1 n2 (ad_28, (setAt st_28 ((sAt st_28) + 1)))) := hD
          refine lv_goto (tgt := 183) hx hb d_Pa_jump_149 (by decide) ?_
          refine lv_aload_n hx hb d_Pa_jump_183 rfl (lv_at hl 4 rfl) ?_
          refine mx_Uv (xm := ⟨"SyntaxTree$Parser", "semicolon", "()V"⟩) (owner := R_Cu) (As := []) (rest := []) ⟨hx, hb, hml, hown, hts0⟩ (m_Cu_semicolon l hlt dC dI cI cZ sa rk hp hc h a1 a2 a3 a4 ht hq n1 n2 ad_28 (setAt st_28 ((sAt st_28) + 1)) (show okSt (setAt st_28 ((sAt st_28) + 1)) from ⟨ok_28.1, ok_28.2.1, ok_28.2.2.1, ok_28.2.2.2⟩) _  (fun z => hg (by unfold f_Pa_jump; rw [bnd_r w_1, if_neg c_2, if_pos c_12, bnO_s w_22, if_pos c_23, if_neg c_24, bnd_r w_28, bnd_n z]))) hP hD hK hS hA hC hZ hnt hlocks L_711 L_712 L_714 L_715 L_86 L_716 rfl k_Cu_semicolon ⟨Nat.le_of_ble_eq_true rfl, Nat.le_of_ble_eq_true rfl⟩ rfl rfl hl.1 (Nat.le_of_ble_eq_true rfl) d_Pa_jump_184 rfl (fun q z => by unfold f_Pa_jump; rw [bnd_r w_1, if_neg c_2, if_pos c_12, bnO_s w_22, if_pos c_23, if_neg c_24, bnd_r w_28, bnd_l z]) hcl hsl (fun ad_29 st_29 H locs w_29 ok_29 e1_29 e2_29 hP hD hS => ?_)
          have hcl := cl_next hcl e1_29
          have hsl := cl_next hsl e2_29
          exact mx_vret (stF := st_29) hx hb hr hlocks hK hP hD hS hcl hsl (by unfold f_Pa_jump; rw [bnd_r w_1, if_neg c_2, if_pos c_12, bnO_s w_22, if_pos c_23, if_neg c_24, bnd_r w_28, bnd_r w_29]) ok_29 d_Pa_jump_187
      · refine lv_aload_n hx hb d_Pa_jump_80 rfl (lv_at hl 3 rfl) ?_
        refine va_get (D := (dC, dI)) (ci := 2) (v := .ref hq) (C := R_Pa) (T := T_Pa) (N := 7) hx hb hts u_Pa hown hK hP 0 rfl rfl 1 (by decide) (hts _ L_209) (fun _ h9 => h9) rfl d_Pa_jump_81 ?_
        refine lv_iload hx hb d_Pa_jump_84 (lv_at hl 0 rfl) ?_
        refine rd_V (v := (f_La_ofLoop (sLb st_1) v_22)) (As := [.int v_22]) (rest := []) ⟨hx, hb, hml, hown, hts0⟩ (m_La_ofLoop l dC dI cI cZ hq n1 n2 (sLb st_1) ok_1.2.2.1 v_22) hP hK [12, 13, 14] rfl [0, 1] rfl 0 1 rfl rfl L_779 L_780 L_781 L_89 L_782 ⟨rfl, k_La_ofLoop⟩ ⟨Nat.le_of_ble_eq_true rfl, Nat.le_of_ble_eq_true rfl⟩ hl.1 ⟨Nat.le_trans (Nat.le_add_right _ _) hcl, Nat.le_trans (Nat.le_add_right _ _) hsl⟩ (Nat.le_of_ble_eq_true rfl) d_Pa_jump_86 rfl ?_
        refine lv_if_eq (tgt := 96) hx hb d_Pa_jump_89 (by decide) (fun c_30 => ?_) (fun c_30 => ?_)
        · refine lv_iconst (v := 0) hx hb d_Pa_jump_96 (by decide) ?_
          refine lv_istore (lv' := [(5, .int 0), (4, .int v_22), (3, .int r_1), (2, .int (sAt st)), (0, .ref hp), (1, .int kind)]) hx hb d_Pa_jump_97 hl (by decide) rfl (fun ls hl => ?_)
          refine lv_iload hx hb d_Pa_jump_99 (lv_at hl 1 rfl) ?_
          refine lv_iconst (v := (-1)) hx hb d_Pa_jump_101 (by decide) ?_
          refine lv_icmp_eq (tgt := 110) hx hb d_Pa_jump_102 (by decide) (fun c_31 => ?_) (fun c_31 => ?_)
          · refine lv_aload_n hx hb d_Pa_jump_110 rfl (lv_at hl 4 rfl) ?_
            refine lv_aload_n hx hb d_Pa_jump_111 rfl (lv_at hl 4 rfl) ?_
            refine va_get (D := (dC, dI)) (ci := 2) (v := .int ((sAt st_1) + 1)) (C := R_Pa) (T := T_Pa) (N := 7) hx hb hts u_Pa hown hK hP 0 rfl rfl 4 (by decide) (hts _ L_215) (fun x9 h9 => u_same (hts _ L_216) x9 h9) rfl d_Pa_jump_112 ?_
            refine mx_Uv (xm := ⟨"SyntaxTree$Parser", "refuse", "(I)V"⟩) (owner := R_Cu) (As := [.int ((sAt st_1) + 1)]) (rest := []) ⟨hx, hb, hml, hown, hts0⟩ (m_Cu_refuse l hlt dC dI cI cZ sa rk hp hc h a1 a2 a3 a4 ht hq n1 n2 ad_1 (setAt st_1 ((sAt st_1) + 1)) (show okSt (setAt st_1 ((sAt st_1) + 1)) from ⟨ok_1.1, ok_1.2.1, ok_1.2.2.1, ok_1.2.2.2⟩) _ ((sAt st_1) + 1) (fun z => hg (by unfold f_Pa_jump; rw [bnd_r w_1, if_neg c_2, if_pos c_12, bnO_s w_22, if_neg c_23, if_pos c_30, if_pos c_31, bnd_n z]))) hP hD hK hS hA hC hZ hnt hlocks L_536 L_537 L_539 L_460 L_86 L_463 rfl k_Cu_refuse ⟨Nat.le_of_ble_eq_true rfl, Nat.le_of_ble_eq_true rfl⟩ rfl rfl hl.1 (Nat.le_of_ble_eq_true rfl) d_Pa_jump_115 rfl (fun q z => by unfold f_Pa_jump; rw [bnd_r w_1, if_neg c_2, if_pos c_12, bnO_s w_22, if_neg c_23, if_pos c_30, if_pos c_31, bnd_l z]) hcl hsl (fun ad_32 st_32 H locs w_32 ok_32 e1_32 e2_32 hP hD hS => ?_)
            have hcl := cl_next hcl e1_32
            have hsl := cl_next hsl e2_32
            refine lv_aload_n hx hb d_Pa_jump_118 rfl (lv_at hl 4 rfl) ?_
            refine va_get (D := (dC, dI)) (ci := 2) (v := .ref ht) (C := R_Pa) (T := T_Pa) (N := 7) hx hb hts u_Pa hown hK hP 0 rfl rfl 0 (by decide) (hts _ L_208) (fun _ h9 => h9) rfl d_Pa_jump_119 ?_
            refine lv_iload_n hx hb d_Pa_jump_122 rfl (lv_at hl 2 rfl) ?_
            refine lv_aload_n hx hb d_Pa_jump_123 rfl (lv_at hl 4 rfl) ?_
            refine va_get (D := (dC, dI)) (ci := 2) (v := .ref h) (C := R_Pa) (T := T_Pa) (N := 7) hx hb hts u_Pa hown hK hP 0 rfl rfl 3 (by decide) (hts _ L_212) (fun x9 h9 => u_same (hts _ L_213) x9 h9) rfl d_Pa_jump_124 ?_
            refine lv_aload_n hx hb d_Pa_jump_127 rfl (lv_at hl 4 rfl) ?_
            refine va_get (D := (dC, dI)) (ci := 2) (v := .int (sAt st_32)) (C := R_Pa) (T := T_Pa) (N := 7) hx hb hts u_Pa hown hK hP 0 rfl rfl 4 (by decide) (hts _ L_215) (fun x9 h9 => u_same (hts _ L_216) x9 h9) rfl d_Pa_jump_128 ?_
            refine rd_V (v := (f_Tk_name (sTk st_32) (sAt st_32))) (As := [.int (sAt st_32)]) (rest := [.int r_1, .ref ht]) ⟨hx, hb, hml, hown, hts0⟩ (m_Tk_name l dC dI cI cZ h a1 a2 a3 a4 (sTk st_32) ok_32.1 (sAt st_32)) hP hK [2, 3, 4, 5, 6] rfl [0, 1] rfl 0 3 rfl rfl L_623 L_478 L_479 L_84 L_480 ⟨rfl, k_Tk_name⟩ ⟨Nat.le_of_ble_eq_true rfl, Nat.le_of_ble_eq_true rfl⟩ hl.1 ⟨Nat.le_trans (Nat.le_add_right _ _) hcl, Nat.le_trans (Nat.le_add_right _ _) hsl⟩ (Nat.le_of_ble_eq_true rfl) d_Pa_jump_131 rfl ?_
            refine lv_iconst (v := 1) hx hb d_Pa_jump_134 (by decide) ?_
            refine lv_iadd hx hb d_Pa_jump_135 ?_
            refine pT_v (g := (p_setValue st_32 r_1 ((f_Tk_name (sTk st_32) (sAt st_32)) + 1))) (st := st_32) (As := [.int r_1, .int ((f_Tk_name (sTk st_32) (sAt st_32)) + 1)]) (rest := []) ⟨hx, hb, hml, hown, hts0⟩ (m_Tr_setValue l dC dI cI cZ sa rk ht ad_32 (sTr st_32) ok_32.2.1 _ r_1 ((f_Tk_name (sTk st_32) (sAt st_32)) + 1)) hP hD hK hS hA hC hZ L_488 L_489 L_490 L_85 L_491 ⟨rfl, k_Tr_setValue⟩ ⟨Nat.le_of_ble_eq_true rfl, Nat.le_of_ble_eq_true rfl⟩ rfl rfl hl.1 (Nat.le_of_ble_eq_true rfl) d_Pa_jump_136 rfl hcl hsl (Nat.zero_le _) (Nat.zero_le _) ok_32 (t_setValue_ok r_1 ((f_Tk_name (sTk st_32) (sAt st_32)) + 1) ok_32.2.1) rfl (fun ad_33 st_33 H locs w_33 ok_33 e1_33 e2_33 hP hD hS => ?_)
            have hcl := cl_next hcl e1_33
            have hsl := cl_next hsl e2_33
            refine lv_aload_n hx hb d_Pa_jump_139 rfl (lv_at hl 4 rfl) ?_
            refine lv_dup hx hb d_Pa_jump_140 rfl ?_
            refine va_get (D := (dC, dI)) (ci := 2) (v := .int (sAt st_33)) (C := R_Pa) (T := T_Pa) (N := 7) hx hb hts u_Pa hown hK hP 0 rfl rfl 4 (by decide) (hts _ L_215) (fun x9 h9 => u_same (hts _ L_216) x9 h9) rfl d_Pa_jump_141 ?_
            refine lv_iconst (v := 1) hx hb d_Pa_jump_144 (by decide) ?_
            refine lv_iadd hx hb d_Pa_jump_145 ?_
            refine va_put (D := (dC, dI)) (ci := 2) (v := .int ((sAt st_33) + 1)) (ty := .int) (C := R_Pa) (T := T_Pa) (N := 7) hx hb hts u_Pa ty_Pa tk_Pa nm_Pa hown hK hP hD hS 0 rfl rfl 4 (by decide) (hts _ L_215) (fun x9 h9 => u_same (hts _ L_216) x9 h9) rfl (by decide +kernel) rfl rfl (Nat.le_of_ble_eq_true rfl) d_Pa_jump_146 (fun H locs hP hD hS => ?_)
            have hP : va_P (dC, dI) cls (wQ cI cZ hp hc h a1 a2 a3 a4 ht hq n1 n2 (ad_33, (setAt st_33 ((sAt st_33) + 1)))) H := hP
            have hD : va_D A (wQ cI cZ hp hc h a1 a2 a3 a4 ht hq n1 n2 (ad_33, (setAt st_33 ((sAt st_33) + 1)))) := hD
            refine lv_goto (tgt := 183) hx hb d_Pa_jump_149 (by decide) ?_
            refine lv_aload_n hx hb d_Pa_jump_183 rfl (lv_at hl 4 rfl) ?_
            refine mx_Uv (xm := ⟨"SyntaxTree$Parser", "semicolon", "()V"⟩) (owner := R_Cu) (As := []) (rest := []) ⟨hx, hb, hml, hown, hts0⟩ (m_Cu_semicolon l hlt dC dI cI cZ sa rk hp hc h a1 a2 a3 a4 ht hq n1 n2 ad_33 (setAt st_33 ((sAt st_33) + 1)) (show okSt (setAt st_33 ((sAt st_33) + 1)) from ⟨ok_33.1, ok_33.2.1, ok_33.2.2.1, ok_33.2.2.2⟩) _  (fun z => hg (by unfold f_Pa_jump; rw [bnd_r w_1, if_neg c_2, if_pos c_12, bnO_s w_22, if_neg c_23, if_pos c_30, if_pos c_31, bnd_r w_32, bnd_r w_33, bnd_n z]))) hP hD hK hS hA hC hZ hnt hlocks L_711 L_712 L_714 L_715 L_86 L_716 rfl k_Cu_semicolon ⟨Nat.le_of_ble_eq_true rfl, Nat.le_of_ble_eq_true rfl⟩ rfl rfl hl.1 (Nat.le_of_ble_eq_true rfl) d_Pa_jump_184 rfl (fun q z => by unfold f_Pa_jump; rw [bnd_r w_1, if_neg c_2, if_pos c_12, bnO_s w_22, if_neg c_23, if_pos c_30, if_pos c_31, bnd_r w_32, bnd_r w_33, bnd_l z]) hcl hsl (fun ad_34 st_34 H locs w_34 ok_34 e1_34 e2_34 hP hD hS => ?_)
            have hcl := cl_next hcl e1_34
            have hsl := cl_next hsl e2_34
            exact mx_vret (stF := st_34) hx hb hr hlocks hK hP hD hS hcl hsl (by unfold f_Pa_jump; rw [bnd_r w_1, if_neg c_2, if_pos c_12, bnO_s w_22, if_neg c_23, if_pos c_30, if_pos c_31, bnd_r w_32, bnd_r w_33, bnd_r w_34]) ok_34 d_Pa_jump_187
          · refine lv_iload hx hb d_Pa_jump_105 (lv_at hl 0 rfl) ?_
            refine lv_if_ne (tgt := 118) hx hb d_Pa_jump_107 (by decide) (fun q9 => absurd q9 (by decide)) (fun _ => ?_)
            refine lv_aload_n hx hb d_Pa_jump_110 rfl (lv_at hl 4 rfl) ?_
            refine lv_aload_n hx hb d_Pa_jump_111 rfl (lv_at hl 4 rfl) ?_
            refine va_get (D := (dC, dI)) (ci := 2) (v := .int ((sAt st_1) + 1)) (C := R_Pa) (T := T_Pa) (N := 7) hx hb hts u_Pa hown hK hP 0 rfl rfl 4 (by decide) (hts _ L_215) (fun x9 h9 => u_same (hts _ L_216) x9 h9) rfl d_Pa_jump_112 ?_
            refine mx_Uv (xm := ⟨"SyntaxTree$Parser", "refuse", "(I)V"⟩) (owner := R_Cu) (As := [.int ((sAt st_1) + 1)]) (rest := []) ⟨hx, hb, hml, hown, hts0⟩ (m_Cu_refuse l hlt dC dI cI cZ sa rk hp hc h a1 a2 a3 a4 ht hq n1 n2 ad_1 (setAt st_1 ((sAt st_1) + 1)) (show okSt (setAt st_1 ((sAt st_1) + 1)) from ⟨ok_1.1, ok_1.2.1, ok_1.2.2.1, ok_1.2.2.2⟩) _ ((sAt st_1) + 1) (fun z => hg (by unfold f_Pa_jump; rw [bnd_r w_1, if_neg c_2, if_pos c_12, bnO_s w_22, if_neg c_23, if_pos c_30, if_neg c_31, bnd_n z]))) hP hD hK hS hA hC hZ hnt hlocks L_536 L_537 L_539 L_460 L_86 L_463 rfl k_Cu_refuse ⟨Nat.le_of_ble_eq_true rfl, Nat.le_of_ble_eq_true rfl⟩ rfl rfl hl.1 (Nat.le_of_ble_eq_true rfl) d_Pa_jump_115 rfl (fun q z => by unfold f_Pa_jump; rw [bnd_r w_1, if_neg c_2, if_pos c_12, bnO_s w_22, if_neg c_23, if_pos c_30, if_neg c_31, bnd_l z]) hcl hsl (fun ad_35 st_35 H locs w_35 ok_35 e1_35 e2_35 hP hD hS => ?_)
            have hcl := cl_next hcl e1_35
            have hsl := cl_next hsl e2_35
            refine lv_aload_n hx hb d_Pa_jump_118 rfl (lv_at hl 4 rfl) ?_
            refine va_get (D := (dC, dI)) (ci := 2) (v := .ref ht) (C := R_Pa) (T := T_Pa) (N := 7) hx hb hts u_Pa hown hK hP 0 rfl rfl 0 (by decide) (hts _ L_208) (fun _ h9 => h9) rfl d_Pa_jump_119 ?_
            refine lv_iload_n hx hb d_Pa_jump_122 rfl (lv_at hl 2 rfl) ?_
            refine lv_aload_n hx hb d_Pa_jump_123 rfl (lv_at hl 4 rfl) ?_
            refine va_get (D := (dC, dI)) (ci := 2) (v := .ref h) (C := R_Pa) (T := T_Pa) (N := 7) hx hb hts u_Pa hown hK hP 0 rfl rfl 3 (by decide) (hts _ L_212) (fun x9 h9 => u_same (hts _ L_213) x9 h9) rfl d_Pa_jump_124 ?_
            refine lv_aload_n hx hb d_Pa_jump_127 rfl (lv_at hl 4 rfl) ?_
            refine va_get (D := (dC, dI)) (ci := 2) (v := .int (sAt st_35)) (C := R_Pa) (T := T_Pa) (N := 7) hx hb hts u_Pa hown hK hP 0 rfl rfl 4 (by decide) (hts _ L_215) (fun x9 h9 => u_same (hts _ L_216) x9 h9) rfl d_Pa_jump_128 ?_
            refine rd_V (v := (f_Tk_name (sTk st_35) (sAt st_35))) (As := [.int (sAt st_35)]) (rest := [.int r_1, .ref ht]) ⟨hx, hb, hml, hown, hts0⟩ (m_Tk_name l dC dI cI cZ h a1 a2 a3 a4 (sTk st_35) ok_35.1 (sAt st_35)) hP hK [2, 3, 4, 5, 6] rfl [0, 1] rfl 0 3 rfl rfl L_623 L_478 L_479 L_84 L_480 ⟨rfl, k_Tk_name⟩ ⟨Nat.le_of_ble_eq_true rfl, Nat.le_of_ble_eq_true rfl⟩ hl.1 ⟨Nat.le_trans (Nat.le_add_right _ _) hcl, Nat.le_trans (Nat.le_add_right _ _) hsl⟩ (Nat.le_of_ble_eq_true rfl) d_Pa_jump_131 rfl ?_
            refine lv_iconst (v := 1) hx hb d_Pa_jump_134 (by decide) ?_
            refine lv_iadd hx hb d_Pa_jump_135 ?_
            refine pT_v (g := (p_setValue st_35 r_1 ((f_Tk_name (sTk st_35) (sAt st_35)) + 1))) (st := st_35) (As := [.int r_1, .int ((f_Tk_name (sTk st_35) (sAt st_35)) + 1)]) (rest := []) ⟨hx, hb, hml, hown, hts0⟩ (m_Tr_setValue l dC dI cI cZ sa rk ht ad_35 (sTr st_35) ok_35.2.1 _ r_1 ((f_Tk_name (sTk st_35) (sAt st_35)) + 1)) hP hD hK hS hA hC hZ L_488 L_489 L_490 L_85 L_491 ⟨rfl, k_Tr_setValue⟩ ⟨Nat.le_of_ble_eq_true rfl, Nat.le_of_ble_eq_true rfl⟩ rfl rfl hl.1 (Nat.le_of_ble_eq_true rfl) d_Pa_jump_136 rfl hcl hsl (Nat.zero_le _) (Nat.zero_le _) ok_35 (t_setValue_ok r_1 ((f_Tk_name (sTk st_35) (sAt st_35)) + 1) ok_35.2.1) rfl (fun ad_36 st_36 H locs w_36 ok_36 e1_36 e2_36 hP hD hS => ?_)
            have hcl := cl_next hcl e1_36
            have hsl := cl_next hsl e2_36
            refine lv_aload_n hx hb d_Pa_jump_139 rfl (lv_at hl 4 rfl) ?_
            refine lv_dup hx hb d_Pa_jump_140 rfl ?_
            refine va_get (D := (dC, dI)) (ci := 2) (v := .int (sAt st_36)) (C := R_Pa) (T := T_Pa) (N := 7) hx hb hts u_Pa hown hK hP 0 rfl rfl 4 (by decide) (hts _ L_215) (fun x9 h9 => u_same (hts _ L_216) x9 h9) rfl d_Pa_jump_141 ?_
            refine lv_iconst (v := 1) hx hb d_Pa_jump_144 (by decide) ?_
            refine lv_iadd hx hb d_Pa_jump_145 ?_
            refine va_put (D := (dC, dI)) (ci := 2) (v := .int ((sAt st_36) + 1)) (ty := .int) (C := R_Pa) (T := T_Pa) (N := 7) hx hb hts u_Pa ty_Pa tk_Pa nm_Pa hown hK hP hD hS 0 rfl rfl 4 (by decide) (hts _ L_215) (fun x9 h9 => u_same (hts _ L_216) x9 h9) rfl (by decide +kernel) rfl rfl (Nat.le_of_ble_eq_true rfl) d_Pa_jump_146 (fun H locs hP hD hS => ?_)
            have hP : va_P (dC, dI) cls (wQ cI cZ hp hc h a1 a2 a3 a4 ht hq n1 n2 (ad_36, (setAt st_36 ((sAt st_36) + 1)))) H := hP
            have hD : va_D A (wQ cI cZ hp hc h a1 a2 a3 a4 ht hq n1 n2 (ad_36, (setAt st_36 ((sAt st_36) + 1)))) := hD
            refine lv_goto (tgt := 183) hx hb d_Pa_jump_149 (by decide) ?_
            refine lv_aload_n hx hb d_Pa_jump_183 rfl (lv_at hl 4 rfl) ?_
            refine mx_Uv (xm := ⟨"SyntaxTree$Parser", "semicolon", "()V"⟩) (owner := R_Cu) (As := []) (rest := []) ⟨hx, hb, hml, hown, hts0⟩ (m_Cu_semicolon l hlt dC dI cI cZ sa rk hp hc h a1 a2 a3 a4 ht hq n1 n2 ad_36 (setAt st_36 ((sAt st_36) + 1)) (show okSt (setAt st_36 ((sAt st_36) + 1)) from ⟨ok_36.1, ok_36.2.1, ok_36.2.2.1, ok_36.2.2.2⟩) _  (fun z => hg (by unfold f_Pa_jump; rw [bnd_r w_1, if_neg c_2, if_pos c_12, bnO_s w_22, if_neg c_23, if_pos c_30, if_neg c_31, bnd_r w_35, bnd_r w_36, bnd_n z]))) hP hD hK hS hA hC hZ hnt hlocks L_711 L_712 L_714 L_715 L_86 L_716 rfl k_Cu_semicolon ⟨Nat.le_of_ble_eq_true rfl, Nat.le_of_ble_eq_true rfl⟩ rfl rfl hl.1 (Nat.le_of_ble_eq_true rfl) d_Pa_jump_184 rfl (fun q z => by unfold f_Pa_jump; rw [bnd_r w_1, if_neg c_2, if_pos c_12, bnO_s w_22, if_neg c_23, if_pos c_30, if_neg c_31, bnd_r w_35, bnd_r w_36, bnd_l z]) hcl hsl (fun ad_37 st_37 H locs w_37 ok_37 e1_37 e2_37 hP hD hS => ?_)
            have hcl := cl_next hcl e1_37
            have hsl := cl_next hsl e2_37
            exact mx_vret (stF := st_37) hx hb hr hlocks hK hP hD hS hcl hsl (by unfold f_Pa_jump; rw [bnd_r w_1, if_neg c_2, if_pos c_12, bnO_s w_22, if_neg c_23, if_pos c_30, if_neg c_31, bnd_r w_35, bnd_r w_36, bnd_r w_37]) ok_37 d_Pa_jump_187
        · refine lv_iconst (v := 1) hx hb d_Pa_jump_92 (by decide) ?_
          refine lv_goto (tgt := 97) hx hb d_Pa_jump_93 (by decide) ?_
          refine lv_istore (lv' := [(5, .int 1), (4, .int v_22), (3, .int r_1), (2, .int (sAt st)), (0, .ref hp), (1, .int kind)]) hx hb d_Pa_jump_97 hl (by decide) rfl (fun ls hl => ?_)
          refine lv_iload hx hb d_Pa_jump_99 (lv_at hl 1 rfl) ?_
          refine lv_iconst (v := (-1)) hx hb d_Pa_jump_101 (by decide) ?_
          refine lv_icmp_eq (tgt := 110) hx hb d_Pa_jump_102 (by decide) (fun c_38 => ?_) (fun c_38 => ?_)
          · refine lv_aload_n hx hb d_Pa_jump_110 rfl (lv_at hl 4 rfl) ?_
            refine lv_aload_n hx hb d_Pa_jump_111 rfl (lv_at hl 4 rfl) ?_
            refine va_get (D := (dC, dI)) (ci := 2) (v := .int ((sAt st_1) + 1)) (C := R_Pa) (T := T_Pa) (N := 7) hx hb hts u_Pa hown hK hP 0 rfl rfl 4 (by decide) (hts _ L_215) (fun x9 h9 => u_same (hts _ L_216) x9 h9) rfl d_Pa_jump_112 ?_
            refine mx_Uv (xm := ⟨"SyntaxTree$Parser", "refuse", "(I)V"⟩) (owner := R_Cu) (As := [.int ((sAt st_1) + 1)]) (rest := []) ⟨hx, hb, hml, hown, hts0⟩ (m_Cu_refuse l hlt dC dI cI cZ sa rk hp hc h a1 a2 a3 a4 ht hq n1 n2 ad_1 (setAt st_1 ((sAt st_1) + 1)) (show okSt (setAt st_1 ((sAt st_1) + 1)) from ⟨ok_1.1, ok_1.2.1, ok_1.2.2.1, ok_1.2.2.2⟩) _ ((sAt st_1) + 1) (fun z => hg (by unfold f_Pa_jump; rw [bnd_r w_1, if_neg c_2, if_pos c_12, bnO_s w_22, if_neg c_23, if_neg c_30, if_pos c_38, bnd_n z]))) hP hD hK hS hA hC hZ hnt hlocks L_536 L_537 L_539 L_460 L_86 L_463 rfl k_Cu_refuse ⟨Nat.le_of_ble_eq_true rfl, Nat.le_of_ble_eq_true rfl⟩ rfl rfl hl.1 (Nat.le_of_ble_eq_true rfl) d_Pa_jump_115 rfl (fun q z => by unfold f_Pa_jump; rw [bnd_r w_1, if_neg c_2, if_pos c_12, bnO_s w_22, if_neg c_23, if_neg c_30, if_pos c_38, bnd_l z]) hcl hsl (fun ad_39 st_39 H locs w_39 ok_39 e1_39 e2_39 hP hD hS => ?_)
            have hcl := cl_next hcl e1_39
            have hsl := cl_next hsl e2_39
            refine lv_aload_n hx hb d_Pa_jump_118 rfl (lv_at hl 4 rfl) ?_
            refine va_get (D := (dC, dI)) (ci := 2) (v := .ref ht) (C := R_Pa) (T := T_Pa) (N := 7) hx hb hts u_Pa hown hK hP 0 rfl rfl 0 (by decide) (hts _ L_208) (fun _ h9 => h9) rfl d_Pa_jump_119 ?_
            refine lv_iload_n hx hb d_Pa_jump_122 rfl (lv_at hl 2 rfl) ?_
            refine lv_aload_n hx hb d_Pa_jump_123 rfl (lv_at hl 4 rfl) ?_
            refine va_get (D := (dC, dI)) (ci := 2) (v := .ref h) (C := R_Pa) (T := T_Pa) (N := 7) hx hb hts u_Pa hown hK hP 0 rfl rfl 3 (by decide) (hts _ L_212) (fun x9 h9 => u_same (hts _ L_213) x9 h9) rfl d_Pa_jump_124 ?_
            refine lv_aload_n hx hb d_Pa_jump_127 rfl (lv_at hl 4 rfl) ?_
            refine va_get (D := (dC, dI)) (ci := 2) (v := .int (sAt st_39)) (C := R_Pa) (T := T_Pa) (N := 7) hx hb hts u_Pa hown hK hP 0 rfl rfl 4 (by decide) (hts _ L_215) (fun x9 h9 => u_same (hts _ L_216) x9 h9) rfl d_Pa_jump_128 ?_
            refine rd_V (v := (f_Tk_name (sTk st_39) (sAt st_39))) (As := [.int (sAt st_39)]) (rest := [.int r_1, .ref ht]) ⟨hx, hb, hml, hown, hts0⟩ (m_Tk_name l dC dI cI cZ h a1 a2 a3 a4 (sTk st_39) ok_39.1 (sAt st_39)) hP hK [2, 3, 4, 5, 6] rfl [0, 1] rfl 0 3 rfl rfl L_623 L_478 L_479 L_84 L_480 ⟨rfl, k_Tk_name⟩ ⟨Nat.le_of_ble_eq_true rfl, Nat.le_of_ble_eq_true rfl⟩ hl.1 ⟨Nat.le_trans (Nat.le_add_right _ _) hcl, Nat.le_trans (Nat.le_add_right _ _) hsl⟩ (Nat.le_of_ble_eq_true rfl) d_Pa_jump_131 rfl ?_
            refine lv_iconst (v := 1) hx hb d_Pa_jump_134 (by decide) ?_
            refine lv_iadd hx hb d_Pa_jump_135 ?_
            refine pT_v (g := (p_setValue st_39 r_1 ((f_Tk_name (sTk st_39) (sAt st_39)) + 1))) (st := st_39) (As := [.int r_1, .int ((f_Tk_name (sTk st_39) (sAt st_39)) + 1)]) (rest := []) ⟨hx, hb, hml, hown, hts0⟩ (m_Tr_setValue l dC dI cI cZ sa rk ht ad_39 (sTr st_39) ok_39.2.1 _ r_1 ((f_Tk_name (sTk st_39) (sAt st_39)) + 1)) hP hD hK hS hA hC hZ L_488 L_489 L_490 L_85 L_491 ⟨rfl, k_Tr_setValue⟩ ⟨Nat.le_of_ble_eq_true rfl, Nat.le_of_ble_eq_true rfl⟩ rfl rfl hl.1 (Nat.le_of_ble_eq_true rfl) d_Pa_jump_136 rfl hcl hsl (Nat.zero_le _) (Nat.zero_le _) ok_39 (t_setValue_ok r_1 ((f_Tk_name (sTk st_39) (sAt st_39)) + 1) ok_39.2.1) rfl (fun ad_40 st_40 H locs w_40 ok_40 e1_40 e2_40 hP hD hS => ?_)
            have hcl := cl_next hcl e1_40
            have hsl := cl_next hsl e2_40
            refine lv_aload_n hx hb d_Pa_jump_139 rfl (lv_at hl 4 rfl) ?_
            refine lv_dup hx hb d_Pa_jump_140 rfl ?_
            refine va_get (D := (dC, dI)) (ci := 2) (v := .int (sAt st_40)) (C := R_Pa) (T := T_Pa) (N := 7) hx hb hts u_Pa hown hK hP 0 rfl rfl 4 (by decide) (hts _ L_215) (fun x9 h9 => u_same (hts _ L_216) x9 h9) rfl d_Pa_jump_141 ?_
            refine lv_iconst (v := 1) hx hb d_Pa_jump_144 (by decide) ?_
            refine lv_iadd hx hb d_Pa_jump_145 ?_
            refine va_put (D := (dC, dI)) (ci := 2) (v := .int ((sAt st_40) + 1)) (ty := .int) (C := R_Pa) (T := T_Pa) (N := 7) hx hb hts u_Pa ty_Pa tk_Pa nm_Pa hown hK hP hD hS 0 rfl rfl 4 (by decide) (hts _ L_215) (fun x9 h9 => u_same (hts _ L_216) x9 h9) rfl (by decide +kernel) rfl rfl (Nat.le_of_ble_eq_true rfl) d_Pa_jump_146 (fun H locs hP hD hS => ?_)
            have hP : va_P (dC, dI) cls (wQ cI cZ hp hc h a1 a2 a3 a4 ht hq n1 n2 (ad_40, (setAt st_40 ((sAt st_40) + 1)))) H := hP
            have hD : va_D A (wQ cI cZ hp hc h a1 a2 a3 a4 ht hq n1 n2 (ad_40, (setAt st_40 ((sAt st_40) + 1)))) := hD
            refine lv_goto (tgt := 183) hx hb d_Pa_jump_149 (by decide) ?_
            refine lv_aload_n hx hb d_Pa_jump_183 rfl (lv_at hl 4 rfl) ?_
            refine mx_Uv (xm := ⟨"SyntaxTree$Parser", "semicolon", "()V"⟩) (owner := R_Cu) (As := []) (rest := []) ⟨hx, hb, hml, hown, hts0⟩ (m_Cu_semicolon l hlt dC dI cI cZ sa rk hp hc h a1 a2 a3 a4 ht hq n1 n2 ad_40 (setAt st_40 ((sAt st_40) + 1)) (show okSt (setAt st_40 ((sAt st_40) + 1)) from ⟨ok_40.1, ok_40.2.1, ok_40.2.2.1, ok_40.2.2.2⟩) _  (fun z => hg (by unfold f_Pa_jump; rw [bnd_r w_1, if_neg c_2, if_pos c_12, bnO_s w_22, if_neg c_23, if_neg c_30, if_pos c_38, bnd_r w_39, bnd_r w_40, bnd_n z]))) hP hD hK hS hA hC hZ hnt hlocks L_711 L_712 L_714 L_715 L_86 L_716 rfl k_Cu_semicolon ⟨Nat.le_of_ble_eq_true rfl, Nat.le_of_ble_eq_true rfl⟩ rfl rfl hl.1 (Nat.le_of_ble_eq_true rfl) d_Pa_jump_184 rfl (fun q z => by unfold f_Pa_jump; rw [bnd_r w_1, if_neg c_2, if_pos c_12, bnO_s w_22, if_neg c_23, if_neg c_30, if_pos c_38, bnd_r w_39, bnd_r w_40, bnd_l z]) hcl hsl (fun ad_41 st_41 H locs w_41 ok_41 e1_41 e2_41 hP hD hS => ?_)
            have hcl := cl_next hcl e1_41
            have hsl := cl_next hsl e2_41
            exact mx_vret (stF := st_41) hx hb hr hlocks hK hP hD hS hcl hsl (by unfold f_Pa_jump; rw [bnd_r w_1, if_neg c_2, if_pos c_12, bnO_s w_22, if_neg c_23, if_neg c_30, if_pos c_38, bnd_r w_39, bnd_r w_40, bnd_r w_41]) ok_41 d_Pa_jump_187
          · refine lv_iload hx hb d_Pa_jump_105 (lv_at hl 0 rfl) ?_
            refine lv_if_ne (tgt := 118) hx hb d_Pa_jump_107 (by decide) (fun _ => ?_) (fun q9 => absurd q9 (by decide))
            refine lv_aload_n hx hb d_Pa_jump_118 rfl (lv_at hl 4 rfl) ?_
            refine va_get (D := (dC, dI)) (ci := 2) (v := .ref ht) (C := R_Pa) (T := T_Pa) (N := 7) hx hb hts u_Pa hown hK hP 0 rfl rfl 0 (by decide) (hts _ L_208) (fun _ h9 => h9) rfl d_Pa_jump_119 ?_
            refine lv_iload_n hx hb d_Pa_jump_122 rfl (lv_at hl 2 rfl) ?_
            refine lv_aload_n hx hb d_Pa_jump_123 rfl (lv_at hl 4 rfl) ?_
            refine va_get (D := (dC, dI)) (ci := 2) (v := .ref h) (C := R_Pa) (T := T_Pa) (N := 7) hx hb hts u_Pa hown hK hP 0 rfl rfl 3 (by decide) (hts _ L_212) (fun x9 h9 => u_same (hts _ L_213) x9 h9) rfl d_Pa_jump_124 ?_
            refine lv_aload_n hx hb d_Pa_jump_127 rfl (lv_at hl 4 rfl) ?_
            refine va_get (D := (dC, dI)) (ci := 2) (v := .int ((sAt st_1) + 1)) (C := R_Pa) (T := T_Pa) (N := 7) hx hb hts u_Pa hown hK hP 0 rfl rfl 4 (by decide) (hts _ L_215) (fun x9 h9 => u_same (hts _ L_216) x9 h9) rfl d_Pa_jump_128 ?_
            refine rd_V (v := (f_Tk_name (sTk st_1) ((sAt st_1) + 1))) (As := [.int ((sAt st_1) + 1)]) (rest := [.int r_1, .ref ht]) ⟨hx, hb, hml, hown, hts0⟩ (m_Tk_name l dC dI cI cZ h a1 a2 a3 a4 (sTk st_1) ok_1.1 ((sAt st_1) + 1)) hP hK [2, 3, 4, 5, 6] rfl [0, 1] rfl 0 3 rfl rfl L_623 L_478 L_479 L_84 L_480 ⟨rfl, k_Tk_name⟩ ⟨Nat.le_of_ble_eq_true rfl, Nat.le_of_ble_eq_true rfl⟩ hl.1 ⟨Nat.le_trans (Nat.le_add_right _ _) hcl, Nat.le_trans (Nat.le_add_right _ _) hsl⟩ (Nat.le_of_ble_eq_true rfl) d_Pa_jump_131 rfl ?_
            refine lv_iconst (v := 1) hx hb d_Pa_jump_134 (by decide) ?_
            refine lv_iadd hx hb d_Pa_jump_135 ?_
            refine pT_v (g := (p_setValue (setAt st_1 ((sAt st_1) + 1)) r_1 ((f_Tk_name (sTk st_1) ((sAt st_1) + 1)) + 1))) (st := (setAt st_1 ((sAt st_1) + 1))) (As := [.int r_1, .int ((f_Tk_name (sTk st_1) ((sAt st_1) + 1)) + 1)]) (rest := []) ⟨hx, hb, hml, hown, hts0⟩ (m_Tr_setValue l dC dI cI cZ sa rk ht ad_1 (sTr st_1) ok_1.2.1 _ r_1 ((f_Tk_name (sTk st_1) ((sAt st_1) + 1)) + 1)) hP hD hK hS hA hC hZ L_488 L_489 L_490 L_85 L_491 ⟨rfl, k_Tr_setValue⟩ ⟨Nat.le_of_ble_eq_true rfl, Nat.le_of_ble_eq_true rfl⟩ rfl rfl hl.1 (Nat.le_of_ble_eq_true rfl) d_Pa_jump_136 rfl hcl hsl (Nat.zero_le _) (Nat.zero_le _) (show okSt (setAt st_1 ((sAt st_1) + 1)) from ⟨ok_1.1, ok_1.2.1, ok_1.2.2.1, ok_1.2.2.2⟩) (t_setValue_ok r_1 ((f_Tk_name (sTk st_1) ((sAt st_1) + 1)) + 1) ok_1.2.1) rfl (fun ad_42 st_42 H locs w_42 ok_42 e1_42 e2_42 hP hD hS => ?_)
            have hcl := cl_next hcl e1_42
            have hsl := cl_next hsl e2_42
            refine lv_aload_n hx hb d_Pa_jump_139 rfl (lv_at hl 4 rfl) ?_
            refine lv_dup hx hb d_Pa_jump_140 rfl ?_
            refine va_get (D := (dC, dI)) (ci := 2) (v := .int (sAt st_42)) (C := R_Pa) (T := T_Pa) (N := 7) hx hb hts u_Pa hown hK hP 0 rfl rfl 4 (by decide) (hts _ L_215) (fun x9 h9 => u_same (hts _ L_216) x9 h9) rfl d_Pa_jump_141 ?_
            refine lv_iconst (v := 1) hx hb d_Pa_jump_144 (by decide) ?_
            refine lv_iadd hx hb d_Pa_jump_145 ?_
            refine va_put (D := (dC, dI)) (ci := 2) (v := .int ((sAt st_42) + 1)) (ty := .int) (C := R_Pa) (T := T_Pa) (N := 7) hx hb hts u_Pa ty_Pa tk_Pa nm_Pa hown hK hP hD hS 0 rfl rfl 4 (by decide) (hts _ L_215) (fun x9 h9 => u_same (hts _ L_216) x9 h9) rfl (by decide +kernel) rfl rfl (Nat.le_of_ble_eq_true rfl) d_Pa_jump_146 (fun H locs hP hD hS => ?_)
            have hP : va_P (dC, dI) cls (wQ cI cZ hp hc h a1 a2 a3 a4 ht hq n1 n2 (ad_42, (setAt st_42 ((sAt st_42) + 1)))) H := hP
            have hD : va_D A (wQ cI cZ hp hc h a1 a2 a3 a4 ht hq n1 n2 (ad_42, (setAt st_42 ((sAt st_42) + 1)))) := hD
            refine lv_goto (tgt := 183) hx hb d_Pa_jump_149 (by decide) ?_
            refine lv_aload_n hx hb d_Pa_jump_183 rfl (lv_at hl 4 rfl) ?_
            refine mx_Uv (xm := ⟨"SyntaxTree$Parser", "semicolon", "()V"⟩) (owner := R_Cu) (As := []) (rest := []) ⟨hx, hb, hml, hown, hts0⟩ (m_Cu_semicolon l hlt dC dI cI cZ sa rk hp hc h a1 a2 a3 a4 ht hq n1 n2 ad_42 (setAt st_42 ((sAt st_42) + 1)) (show okSt (setAt st_42 ((sAt st_42) + 1)) from ⟨ok_42.1, ok_42.2.1, ok_42.2.2.1, ok_42.2.2.2⟩) _  (fun z => hg (by unfold f_Pa_jump; rw [bnd_r w_1, if_neg c_2, if_pos c_12, bnO_s w_22, if_neg c_23, if_neg c_30, if_neg c_38, bnd_r w_42, bnd_n z]))) hP hD hK hS hA hC hZ hnt hlocks L_711 L_712 L_714 L_715 L_86 L_716 rfl k_Cu_semicolon ⟨Nat.le_of_ble_eq_true rfl, Nat.le_of_ble_eq_true rfl⟩ rfl rfl hl.1 (Nat.le_of_ble_eq_true rfl) d_Pa_jump_184 rfl (fun q z => by unfold f_Pa_jump; rw [bnd_r w_1, if_neg c_2, if_pos c_12, bnO_s w_22, if_neg c_23, if_neg c_30, if_neg c_38, bnd_r w_42, bnd_l z]) hcl hsl (fun ad_43 st_43 H locs w_43 ok_43 e1_43 e2_43 hP hD hS => ?_)
            have hcl := cl_next hcl e1_43
            have hsl := cl_next hsl e2_43
            exact mx_vret (stF := st_43) hx hb hr hlocks hK hP hD hS hcl hsl (by unfold f_Pa_jump; rw [bnd_r w_1, if_neg c_2, if_pos c_12, bnO_s w_22, if_neg c_23, if_neg c_30, if_neg c_38, bnd_r w_42, bnd_r w_43]) ok_43 d_Pa_jump_187
def f_Pa_labelled (E : Int32 → Int32 → Int32 → ST → Rz) (S : Int32 → Int32 → ST → Rz) (F : Int32 → Int32 → ST → Rz) (st : ST) (depth : Int32) (first : Int32) : Rz := (bnd (f_Cu_guard st (depth + 1)) (fun _ st_1 => (bnO (f_La_find (sLb st_1) (coL st_1) (f_Tk_name (sTk st_1) (sAt st_1))) (fun v_2 => (if v_2 = (-1) then (bnd (p_open st_1 18 (f_Tk_name (sTk st_1) (sAt st_1)) (sAt st_1)) (fun r_4 st_4 => (bnd (p_lab (setAt st_4 ((sAt st_4) + 2)) (l_push (sLb st_4) (f_Tk_name (sTk st_1) (sAt st_1)))) (fun _ st_5 => (bnd (S (depth + 1) first st_5) (fun _ st_6 => (bnd (p_lab st_6 (l_pop (sLb st_6))) (fun _ st_7 => (bnd (p_close st_7 r_4) (fun _ st_8 => (some (.inr (0, st_8))))))))))))) else (bnd (f_Cu_refuse st_1 (sAt st_1)) (fun _ st_9 => (bnd (p_open st_9 18 (f_Tk_name (sTk st_1) (sAt st_1)) (sAt st_9)) (fun r_10 st_10 => (bnd (p_lab (setAt st_10 ((sAt st_10) + 2)) (l_push (sLb st_10) (f_Tk_name (sTk st_1) (sAt st_1)))) (fun _ st_11 => (bnd (S (depth + 1) first st_11) (fun _ st_12 => (bnd (p_lab st_12 (l_pop (sLb st_12))) (fun _ st_13 => (bnd (p_close st_13 r_10) (fun _ st_14 => (some (.inr (0, st_14))))))))))))))))))))
set_option maxRecDepth 100000 in
set_option maxHeartbeats 4000000 in
theorem m_Pa_labelled (l : Launch) (hlt : l.stackTraces = false) (dC : Nat → ClassId) (dI : Nat → Nat → Nat) (cI cZ : ClassId) (sa rk hp h a1 a2 a3 a4 ht hq n1 n2 : Nat) (fr0 lo0 : Nat) (E : Int32 → Int32 → Int32 → ST → Rz) (S : Int32 → Int32 → ST → Rz) (F : Int32 → Int32 → ST → Rz) (hRE : ∀ (hc : Nat) (ad : AD) (st : ST), okSt st → ∀ (sz : Nat) (level depth inn : Int32), E level depth inn st ≠ none → cPv l y_Pa_expression c_Pa_expression 6 fr0 lo0 (dC, dI) cI cZ sa rk hp hc h a1 a2 a3 a4 ht hq n1 n2 ad st sz [.ref hp, .int level, .int depth, .int inn] (E level depth inn st)) (hRS : ∀ (hc : Nat) (ad : AD) (st : ST), okSt st → ∀ (sz : Nat) (depth first : Int32), S depth first st ≠ none → cPv l y_Pa_statement c_Pa_statement 4 fr0 lo0 (dC, dI) cI cZ sa rk hp hc h a1 a2 a3 a4 ht hq n1 n2 ad st sz [.ref hp, .int depth, .int first] (S depth first st)) (hRF : ∀ (hc : Nat) (ad : AD) (st : ST), okSt st → ∀ (sz : Nat) (form depth : Int32), F form depth st ≠ none → cPv l y_Pa_function c_Pa_function 10 fr0 lo0 (dC, dI) cI cZ sa rk hp hc h a1 a2 a3 a4 ht hq n1 n2 ad st sz [.ref hp, .int form, .int depth] (F form depth st)) (hc : Nat) (ad : AD) (st : ST) (hst : okSt st) (sz : Nat) (depth : Int32) (first : Int32) (hg : f_Pa_labelled E S F st depth first ≠ none) : cPv l y_Pa_labelled c_Pa_labelled 5 (fr0 + 8) (lo0 + 323) (dC, dI) cI cZ sa rk hp hc h a1 a2 a3 a4 ht hq n1 n2 ad st sz [.ref hp, .int depth, .int first] (f_Pa_labelled E S F st depth first) := by
  refine vx_ofW (cc := c_Pa_labelled) (maxL := 5) (ret := none) (by decide) rfl ?_
  intro p e s m args below meth c s₁ B hml hnt hv
  obtain ⟨rfl, hsz, hP, hK, hD0, hC, hZ⟩ := hv
  have hx := B.exec
  have hb := B.bytes
  have hr := B.returns
  have hts0 := atoms_spec (ws := wy y_Pa_labelled c_Pa_labelled 5 none) B.pre
  have hts := htsL hts0
  have hown : s.vm.findClass R_Pa = some m.cls := findClass_of_methodNamed B.named
  have hlocks := B.notSynchronized
  subst hsz
  have hD := hD0.self (sz := s.heap.size)
  generalize hAe : va_A (wQ cI cZ hp hc h a1 a2 a3 a4 ht hq n1 n2 (ad, st)) s.heap.size = A at hD hZ ⊢
  have hA : ∀ q : Nat, s.heap.size ≤ q → A q := fun q h => by rw [← hAe]; exact Or.inr h
  have hS : va_S A s.heap s.heap [] := va_S.rf
  have hcl : 0 + bC st ≤ bC st := Nat.le_of_eq (Nat.zero_add _)
  have hsl : 0 + bS st ≤ bS st := Nat.le_of_eq (Nat.zero_add _)
  have hl := lv_entry ([.ref hp, .int depth, .int first]) (n := 5) (Nat.le_of_ble_eq_true rfl)
  rw [lg_entry_eq]
  generalize (lg_sl ([.ref hp, .int depth, .int first]) ++ List.replicate (5 - (lg_sl ([.ref hp, .int depth, .int first])).length) Slot.unset).toArray = ls at hl ⊢
  have hl : lv_has ls 5 [(0, .ref hp), (1, .int depth), (2, .int first)] := hl
  refine lv_aload_n hx hb d_Pa_labelled_0 rfl (lv_at hl 0 rfl) ?_
  refine lv_iload_n hx hb d_Pa_labelled_1 rfl (lv_at hl 1 rfl) ?_
  refine lv_iconst (v := 1) hx hb d_Pa_labelled_2 (by decide) ?_
  refine lv_iadd hx hb d_Pa_labelled_3 ?_
  refine mx_Uv (xm := ⟨"SyntaxTree$Parser", "guard", "(I)V"⟩) (owner := R_Cu) (As := [.int (depth + 1)]) (rest := []) ⟨hx, hb, hml, hown, hts0⟩ (m_Cu_guard l hlt dC dI cI cZ sa rk hp hc h a1 a2 a3 a4 ht hq n1 n2 ad st hst _ (depth + 1) (fun z => hg (by unfold f_Pa_labelled; rw [bnd_n z]))) hP hD hK hS hA hC hZ hnt hlocks L_453 L_454 L_456 L_457 L_86 L_458 rfl k_Cu_guard ⟨(by show _ ≤ fr0 + 8; omega), (by show _ ≤ lo0 + 323; omega)⟩ rfl rfl hl.1 (Nat.le_of_ble_eq_true rfl) d_Pa_labelled_4 rfl (fun q z => by unfold f_Pa_labelled; rw [bnd_l z]) hcl hsl (fun ad_1 st_1 H locs w_1 ok_1 e1_1 e2_1 hP hD hS => ?_)
  have hcl := cl_next hcl e1_1
  have hsl := cl_next hsl e2_1
  refine lv_aload_n hx hb d_Pa_labelled_7 rfl (lv_at hl 0 rfl) ?_
  refine va_get (D := (dC, dI)) (ci := 2) (v := .ref h) (C := R_Pa) (T := T_Pa) (N := 7) hx hb hts u_Pa hown hK hP 0 rfl rfl 3 (by decide) (hts _ L_212) (fun x9 h9 => u_same (hts _ L_213) x9 h9) rfl d_Pa_labelled_8 ?_
  refine lv_aload_n hx hb d_Pa_labelled_11 rfl (lv_at hl 0 rfl) ?_
  refine va_get (D := (dC, dI)) (ci := 2) (v := .int (sAt st_1)) (C := R_Pa) (T := T_Pa) (N := 7) hx hb hts u_Pa hown hK hP 0 rfl rfl 4 (by decide) (hts _ L_215) (fun x9 h9 => u_same (hts _ L_216) x9 h9) rfl d_Pa_labelled_12 ?_
  refine rd_V (v := (f_Tk_name (sTk st_1) (sAt st_1))) (As := [.int (sAt st_1)]) (rest := []) ⟨hx, hb, hml, hown, hts0⟩ (m_Tk_name l dC dI cI cZ h a1 a2 a3 a4 (sTk st_1) ok_1.1 (sAt st_1)) hP hK [2, 3, 4, 5, 6] rfl [0, 1] rfl 0 3 rfl rfl L_623 L_478 L_479 L_84 L_480 ⟨rfl, k_Tk_name⟩ ⟨(by show _ ≤ fr0 + 8; omega), (by show _ ≤ lo0 + 323; omega)⟩ hl.1 ⟨Nat.le_trans (Nat.le_add_right _ _) hcl, Nat.le_trans (Nat.le_add_right _ _) hsl⟩ (Nat.le_of_ble_eq_true rfl) d_Pa_labelled_15 rfl ?_
  refine lv_istore_n (lv' := [(3, .int (f_Tk_name (sTk st_1) (sAt st_1))), (0, .ref hp), (1, .int depth), (2, .int first)]) hx hb d_Pa_labelled_18 rfl hl (by decide) rfl (fun ls hl => ?_)
  refine lv_aload_n hx hb d_Pa_labelled_19 rfl (lv_at hl 1 rfl) ?_
  refine va_get (D := (dC, dI)) (ci := 2) (v := .ref hq) (C := R_Pa) (T := T_Pa) (N := 7) hx hb hts u_Pa hown hK hP 0 rfl rfl 1 (by decide) (hts _ L_209) (fun _ h9 => h9) rfl d_Pa_labelled_20 ?_
  refine lv_aload_n hx hb d_Pa_labelled_23 rfl (lv_at hl 1 rfl) ?_
  refine va_get (D := (dC, dI)) (ci := 2) (v := .ref hc) (C := R_Pa) (T := T_Pa) (N := 7) hx hb hts u_Pa hown hK hP 0 rfl rfl 6 (by decide) (hts _ L_221) (fun x9 h9 => u_same (hts _ L_222) x9 h9) rfl d_Pa_labelled_24 ?_
  refine va_get (D := (dC, dI)) (ci := 0) (v := .int (coL st_1)) (C := R_Co) (T := T_Co) (N := 5) hx hb hts u_Co hown hK hP 1 rfl rfl 1 (by decide) (hts _ L_172) (fun _ h9 => h9) rfl d_Pa_labelled_27 ?_
  refine lv_iload_n hx hb d_Pa_labelled_30 rfl (lv_at hl 0 rfl) ?_
  obtain ⟨v_2, w_2⟩ : ∃ v9, (f_La_find (sLb st_1) (coL st_1) (f_Tk_name (sTk st_1) (sAt st_1))) = some v9 := bnO_ex ((fun z => hg (by unfold f_Pa_labelled; rw [bnd_r w_1, bnO_n z])))
  refine rd_V (v := v_2) (As := [.int (coL st_1), .int (f_Tk_name (sTk st_1) (sAt st_1))]) (rest := []) ⟨hx, hb, hml, hown, hts0⟩ (m_La_find l dC dI cI cZ hq n1 n2 (sLb st_1) ok_1.2.2.1 (coL st_1) (f_Tk_name (sTk st_1) (sAt st_1)) v_2 w_2) hP hK [12, 13, 14] rfl [0, 1] rfl 0 1 rfl rfl L_775 L_776 L_777 L_89 L_778 ⟨rfl, k_La_find⟩ ⟨(by show _ ≤ fr0 + 8; omega), (by show _ ≤ lo0 + 323; omega)⟩ hl.1 ⟨Nat.le_trans (Nat.le_add_right _ _) hcl, Nat.le_trans (Nat.le_add_right _ _) hsl⟩ (Nat.le_of_ble_eq_true rfl) d_Pa_labelled_31 rfl ?_
  refine lv_iconst (v := (-1)) hx hb d_Pa_labelled_34 (by decide) ?_
  refine lv_icmp_eq (tgt := 46) hx hb d_Pa_labelled_35 (by decide) (fun c_3 => ?_) (fun c_3 => ?_)
  · refine lv_aload_n hx hb d_Pa_labelled_46 rfl (lv_at hl 1 rfl) ?_
    refine va_get (D := (dC, dI)) (ci := 2) (v := .ref ht) (C := R_Pa) (T := T_Pa) (N := 7) hx hb hts u_Pa hown hK hP 0 rfl rfl 0 (by decide) (hts _ L_208) (fun _ h9 => h9) rfl d_Pa_labelled_47 ?_
    refine lv_bipush (v := 18) hx hb d_Pa_labelled_50 (by decide) ?_
    refine lv_iload_n hx hb d_Pa_labelled_52 rfl (lv_at hl 0 rfl) ?_
    refine lv_aload_n hx hb d_Pa_labelled_53 rfl (lv_at hl 1 rfl) ?_
    refine va_get (D := (dC, dI)) (ci := 2) (v := .int (sAt st_1)) (C := R_Pa) (T := T_Pa) (N := 7) hx hb hts u_Pa hown hK hP 0 rfl rfl 4 (by decide) (hts _ L_215) (fun x9 h9 => u_same (hts _ L_216) x9 h9) rfl d_Pa_labelled_54 ?_
    have hn_4 : (p_open st_1 18 (f_Tk_name (sTk st_1) (sAt st_1)) (sAt st_1)) ≠ none := (fun z => hg (by unfold f_Pa_labelled; rw [bnd_r w_1, bnO_s w_2, if_pos c_3, bnd_n z]))
    refine pT_i (g := (p_open st_1 18 (f_Tk_name (sTk st_1) (sAt st_1)) (sAt st_1))) (st := st_1) (As := [.int 18, .int (f_Tk_name (sTk st_1) (sAt st_1)), .int (sAt st_1)]) (rest := []) ⟨hx, hb, hml, hown, hts0⟩ (m_Tr_open l dC dI cI cZ sa rk ht ad_1 (sTr st_1) ok_1.2.1 _ 18 (f_Tk_name (sTk st_1) (sAt st_1)) (sAt st_1) (p_open_c hn_4).1 (p_open_c hn_4).2.1) hP hD hK hS hA hC hZ L_416 L_417 L_418 L_85 L_419 ⟨rfl, k_Tr_open⟩ ⟨(by show _ ≤ fr0 + 8; omega), (by show _ ≤ lo0 + 323; omega)⟩ rfl rfl hl.1 (Nat.le_of_ble_eq_true rfl) d_Pa_labelled_57 rfl hcl hsl (p_open_c hn_4).2.2.1 (p_open_c hn_4).2.2.2 ok_1 (t_open_ok 18 (f_Tk_name (sTk st_1) (sAt st_1)) (sAt st_1) ok_1.2.1 (p_open_c hn_4).1 (p_open_c hn_4).2.1) (p_open_e hn_4) (fun r_4 ad_4 st_4 H locs w_4 ok_4 e1_4 e2_4 hP hD hS => ?_)
    have hcl := cl_next hcl e1_4
    have hsl := cl_next hsl e2_4
    refine lv_istore (lv' := [(4, .int r_4), (3, .int (f_Tk_name (sTk st_1) (sAt st_1))), (0, .ref hp), (1, .int depth), (2, .int first)]) hx hb d_Pa_labelled_60 hl (by decide) rfl (fun ls hl => ?_)
    refine lv_aload_n hx hb d_Pa_labelled_62 rfl (lv_at hl 2 rfl) ?_
    refine lv_dup hx hb d_Pa_labelled_63 rfl ?_
    refine va_get (D := (dC, dI)) (ci := 2) (v := .int (sAt st_4)) (C := R_Pa) (T := T_Pa) (N := 7) hx hb hts u_Pa hown hK hP 0 rfl rfl 4 (by decide) (hts _ L_215) (fun x9 h9 => u_same (hts _ L_216) x9 h9) rfl d_Pa_labelled_64 ?_
    refine lv_iconst (v := 2) hx hb d_Pa_labelled_67 (by decide) ?_
    refine lv_iadd hx hb d_Pa_labelled_68 ?_
    refine va_put (D := (dC, dI)) (ci := 2) (v := .int ((sAt st_4) + 2)) (ty := .int) (C := R_Pa) (T := T_Pa) (N := 7) hx hb hts u_Pa ty_Pa tk_Pa nm_Pa hown hK hP hD hS 0 rfl rfl 4 (by decide) (hts _ L_215) (fun x9 h9 => u_same (hts _ L_216) x9 h9) rfl (by decide +kernel) rfl rfl (Nat.le_of_ble_eq_true rfl) d_Pa_labelled_69 (fun H locs hP hD hS => ?_)
    have hP : va_P (dC, dI) cls (wQ cI cZ hp hc h a1 a2 a3 a4 ht hq n1 n2 (ad_4, (setAt st_4 ((sAt st_4) + 2)))) H := hP
    have hD : va_D A (wQ cI cZ hp hc h a1 a2 a3 a4 ht hq n1 n2 (ad_4, (setAt st_4 ((sAt st_4) + 2)))) := hD
    refine lv_aload_n hx hb d_Pa_labelled_72 rfl (lv_at hl 2 rfl) ?_
    refine va_get (D := (dC, dI)) (ci := 2) (v := .ref hq) (C := R_Pa) (T := T_Pa) (N := 7) hx hb hts u_Pa hown hK hP 0 rfl rfl 1 (by decide) (hts _ L_209) (fun _ h9 => h9) rfl d_Pa_labelled_73 ?_
    refine lv_iload_n hx hb d_Pa_labelled_76 rfl (lv_at hl 1 rfl) ?_
    obtain ⟨lb_5, eb_5, ob_5, eg_5⟩ := p_lab_e ((fun z => hg (by unfold f_Pa_labelled; rw [bnd_r w_1, bnO_s w_2, if_pos c_3, bnd_r w_4, bnd_n z])) : (p_lab (setAt st_4 ((sAt st_4) + 2)) (l_push (sLb st_4) (f_Tk_name (sTk st_1) (sAt st_1)))) ≠ none)
    refine pL_v (g := (p_lab (setAt st_4 ((sAt st_4) + 2)) (l_push (sLb st_4) (f_Tk_name (sTk st_1) (sAt st_1))))) (st := (setAt st_4 ((sAt st_4) + 2))) (As := [.int (f_Tk_name (sTk st_1) (sAt st_1))]) (rest := []) ⟨hx, hb, hml, hown, hts0⟩ (m_La_push l dC dI cI cZ sa rk hq n1 n2 (sLb st_4) lb_5 ok_4.2.2.1 _ (f_Tk_name (sTk st_1) (sAt st_1)) eb_5) hP hD hK hS hA hC hZ L_831 L_832 L_833 L_89 L_834 ⟨rfl, k_La_push⟩ ⟨(by show _ ≤ fr0 + 8; omega), (by show _ ≤ lo0 + 323; omega)⟩ rfl rfl hl.1 (Nat.le_of_ble_eq_true rfl) d_Pa_labelled_77 rfl hcl hsl (show okSt (setAt st_4 ((sAt st_4) + 2)) from ⟨ok_4.1, ok_4.2.1, ok_4.2.2.1, ok_4.2.2.2⟩) ob_5 eg_5 (fun ad_5 st_5 H locs w_5 ok_5 e1_5 e2_5 hP hD hS => ?_)
    have hcl := cl_next hcl e1_5
    have hsl := cl_next hsl e2_5
    refine lv_aload_n hx hb d_Pa_labelled_80 rfl (lv_at hl 2 rfl) ?_
    refine lv_iload_n hx hb d_Pa_labelled_81 rfl (lv_at hl 3 rfl) ?_
    refine lv_iconst (v := 1) hx hb d_Pa_labelled_82 (by decide) ?_
    refine lv_iadd hx hb d_Pa_labelled_83 ?_
    refine lv_iload_n hx hb d_Pa_labelled_84 rfl (lv_at hl 4 rfl) ?_
    refine mx_Vv (As := [.int (depth + 1), .int first]) (rest := []) ⟨hx, hb, hml, hown, hts0⟩ (hRS hc ad_5 st_5 ok_5 _ (depth + 1) first (fun z => hg (by unfold f_Pa_labelled; rw [bnd_r w_1, bnO_s w_2, if_pos c_3, bnd_r w_4, bnd_r w_5, bnd_n z]))) hP hD hK hS hA hC hZ hnt hlocks L_560 L_562 L_10 L_87 L_563 k_Pa_statement ⟨(by show _ ≤ fr0 + 8; omega), (by show _ ≤ lo0 + 323; omega)⟩ rfl rfl hl.1 (Nat.le_of_ble_eq_true rfl) d_Pa_labelled_85 rfl (fun q z => by unfold f_Pa_labelled; rw [bnd_r w_1, bnO_s w_2, if_pos c_3, bnd_r w_4, bnd_r w_5, bnd_l z]) hcl hsl (fun ad_6 st_6 H locs w_6 ok_6 e1_6 e2_6 hP hD hS => ?_)
    have hcl := cl_next hcl e1_6
    have hsl := cl_next hsl e2_6
    refine lv_aload_n hx hb d_Pa_labelled_88 rfl (lv_at hl 2 rfl) ?_
    refine va_get (D := (dC, dI)) (ci := 2) (v := .ref hq) (C := R_Pa) (T := T_Pa) (N := 7) hx hb hts u_Pa hown hK hP 0 rfl rfl 1 (by decide) (hts _ L_209) (fun _ h9 => h9) rfl d_Pa_labelled_89 ?_
    obtain ⟨lb_7, eb_7, ob_7, eg_7⟩ := p_lab_e ((fun z => hg (by unfold f_Pa_labelled; rw [bnd_r w_1, bnO_s w_2, if_pos c_3, bnd_r w_4, bnd_r w_5, bnd_r w_6, bnd_n z])) : (p_lab st_6 (l_pop (sLb st_6))) ≠ none)
    refine pL_v (g := (p_lab st_6 (l_pop (sLb st_6)))) (st := st_6) (As := []) (rest := []) ⟨hx, hb, hml, hown, hts0⟩ (m_La_pop l dC dI cI cZ sa rk hq n1 n2 (sLb st_6) lb_7 ok_6.2.2.1 _  eb_7) hP hD hK hS hA hC hZ L_835 L_836 L_837 L_89 L_838 ⟨rfl, k_La_pop⟩ ⟨(by show _ ≤ fr0 + 8; omega), (by show _ ≤ lo0 + 323; omega)⟩ rfl rfl hl.1 (Nat.le_of_ble_eq_true rfl) d_Pa_labelled_92 rfl hcl hsl ok_6 ob_7 eg_7 (fun ad_7 st_7 H locs w_7 ok_7 e1_7 e2_7 hP hD hS => ?_)
    have hcl := cl_next hcl e1_7
    have hsl := cl_next hsl e2_7
    refine lv_aload_n hx hb d_Pa_labelled_95 rfl (lv_at hl 2 rfl) ?_
    refine va_get (D := (dC, dI)) (ci := 2) (v := .ref ht) (C := R_Pa) (T := T_Pa) (N := 7) hx hb hts u_Pa hown hK hP 0 rfl rfl 0 (by decide) (hts _ L_208) (fun _ h9 => h9) rfl d_Pa_labelled_96 ?_
    refine lv_iload hx hb d_Pa_labelled_99 (lv_at hl 0 rfl) ?_
    refine pT_v (g := (p_close st_7 r_4)) (st := st_7) (As := [.int r_4]) (rest := []) ⟨hx, hb, hml, hown, hts0⟩ (m_Tr_close l dC dI cI cZ sa rk ht ad_7 (sTr st_7) ok_7.2.1 _ r_4) hP hD hK hS hA hC hZ L_582 L_583 L_584 L_85 L_585 ⟨rfl, k_Tr_close⟩ ⟨(by show _ ≤ fr0 + 8; omega), (by show _ ≤ lo0 + 323; omega)⟩ rfl rfl hl.1 (Nat.le_of_ble_eq_true rfl) d_Pa_labelled_101 rfl hcl hsl (Nat.zero_le _) (Nat.zero_le _) ok_7 (t_close_ok r_4 ok_7.2.1) rfl (fun ad_8 st_8 H locs w_8 ok_8 e1_8 e2_8 hP hD hS => ?_)
    have hcl := cl_next hcl e1_8
    have hsl := cl_next hsl e2_8
    exact mx_vret (stF := st_8) hx hb hr hlocks hK hP hD hS hcl hsl (by unfold f_Pa_labelled; rw [bnd_r w_1, bnO_s w_2, if_pos c_3, bnd_r w_4, bnd_r w_5, bnd_r w_6, bnd_r w_7, bnd_r w_8]) ok_8 d_Pa_labelled_104
  · refine lv_aload_n hx hb d_Pa_labelled_38 rfl (lv_at hl 1 rfl) ?_
    refine lv_aload_n hx hb d_Pa_labelled_39 rfl (lv_at hl 1 rfl) ?_
    refine va_get (D := (dC, dI)) (ci := 2) (v := .int (sAt st_1)) (C := R_Pa) (T := T_Pa) (N := 7) hx hb hts u_Pa hown hK hP 0 rfl rfl 4 (by decide) (hts _ L_215) (fun x9 h9 => u_same (hts _ L_216) x9 h9) rfl d_Pa_labelled_40 ?_
    refine mx_Uv (xm := ⟨"SyntaxTree$Parser", "refuse", "(I)V"⟩) (owner := R_Cu) (As := [.int (sAt st_1)]) (rest := []) ⟨hx, hb, hml, hown, hts0⟩ (m_Cu_refuse l hlt dC dI cI cZ sa rk hp hc h a1 a2 a3 a4 ht hq n1 n2 ad_1 st_1 ok_1 _ (sAt st_1) (fun z => hg (by unfold f_Pa_labelled; rw [bnd_r w_1, bnO_s w_2, if_neg c_3, bnd_n z]))) hP hD hK hS hA hC hZ hnt hlocks L_536 L_537 L_539 L_460 L_86 L_463 rfl k_Cu_refuse ⟨(by show _ ≤ fr0 + 8; omega), (by show _ ≤ lo0 + 323; omega)⟩ rfl rfl hl.1 (Nat.le_of_ble_eq_true rfl) d_Pa_labelled_43 rfl (fun q z => by unfold f_Pa_labelled; rw [bnd_r w_1, bnO_s w_2, if_neg c_3, bnd_l z]) hcl hsl (fun ad_9 st_9 H locs w_9 ok_9 e1_9 e2_9 hP hD hS => ?_)
    have hcl := cl_next hcl e1_9
    have hsl := cl_next hsl e2_9
    refine lv_aload_n hx hb d_Pa_labelled_46 rfl (lv_at hl 1 rfl) ?_
    refine va_get (D := (dC, dI)) (ci := 2) (v := .ref ht) (C := R_Pa) (T := T_Pa) (N := 7) hx hb hts u_Pa hown hK hP 0 rfl rfl 0 (by decide) (hts _ L_208) (fun _ h9 => h9) rfl d_Pa_labelled_47 ?_
    refine lv_bipush (v := 18) hx hb d_Pa_labelled_50 (by decide) ?_
    refine lv_iload_n hx hb d_Pa_labelled_52 rfl (lv_at hl 0 rfl) ?_
    refine lv_aload_n hx hb d_Pa_labelled_53 rfl (lv_at hl 1 rfl) ?_
    refine va_get (D := (dC, dI)) (ci := 2) (v := .int (sAt st_9)) (C := R_Pa) (T := T_Pa) (N := 7) hx hb hts u_Pa hown hK hP 0 rfl rfl 4 (by decide) (hts _ L_215) (fun x9 h9 => u_same (hts _ L_216) x9 h9) rfl d_Pa_labelled_54 ?_
    have hn_10 : (p_open st_9 18 (f_Tk_name (sTk st_1) (sAt st_1)) (sAt st_9)) ≠ none := (fun z => hg (by unfold f_Pa_labelled; rw [bnd_r w_1, bnO_s w_2, if_neg c_3, bnd_r w_9, bnd_n z]))
    refine pT_i (g := (p_open st_9 18 (f_Tk_name (sTk st_1) (sAt st_1)) (sAt st_9))) (st := st_9) (As := [.int 18, .int (f_Tk_name (sTk st_1) (sAt st_1)), .int (sAt st_9)]) (rest := []) ⟨hx, hb, hml, hown, hts0⟩ (m_Tr_open l dC dI cI cZ sa rk ht ad_9 (sTr st_9) ok_9.2.1 _ 18 (f_Tk_name (sTk st_1) (sAt st_1)) (sAt st_9) (p_open_c hn_10).1 (p_open_c hn_10).2.1) hP hD hK hS hA hC hZ L_416 L_417 L_418 L_85 L_419 ⟨rfl, k_Tr_open⟩ ⟨(by show _ ≤ fr0 + 8; omega), (by show _ ≤ lo0 + 323; omega)⟩ rfl rfl hl.1 (Nat.le_of_ble_eq_true rfl) d_Pa_labelled_57 rfl hcl hsl (p_open_c hn_10).2.2.1 (p_open_c hn_10).2.2.2 ok_9 (t_open_ok 18 (f_Tk_name (sTk st_1) (sAt st_1)) (sAt st_9) ok_9.2.1 (p_open_c hn_10).1 (p_open_c hn_10).2.1) (p_open_e hn_10) (fun r_10 ad_10 st_10 H locs w_10 ok_10 e1_10 e2_10 hP hD hS => ?_)
    have hcl := cl_next hcl e1_10
    have hsl := cl_next hsl e2_10
    refine lv_istore (lv' := [(4, .int r_10), (3, .int (f_Tk_name (sTk st_1) (sAt st_1))), (0, .ref hp), (1, .int depth), (2, .int first)]) hx hb d_Pa_labelled_60 hl (by decide) rfl (fun ls hl => ?_)
    refine lv_aload_n hx hb d_Pa_labelled_62 rfl (lv_at hl 2 rfl) ?_
    refine lv_dup hx hb d_Pa_labelled_63 rfl ?_
    refine va_get (D := (dC, dI)) (ci := 2) (v := .int (sAt st_10)) (C := R_Pa) (T := T_Pa) (N := 7) hx hb hts u_Pa hown hK hP 0 rfl rfl 4 (by decide) (hts _ L_215) (fun x9 h9 => u_same (hts _ L_216) x9 h9) rfl d_Pa_labelled_64 ?_
    refine lv_iconst (v := 2) hx hb d_Pa_labelled_67 (by decide) ?_
    refine lv_iadd hx hb d_Pa_labelled_68 ?_
    refine va_put (D := (dC, dI)) (ci := 2) (v := .int ((sAt st_10) + 2)) (ty := .int) (C := R_Pa) (T := T_Pa) (N := 7) hx hb hts u_Pa ty_Pa tk_Pa nm_Pa hown hK hP hD hS 0 rfl rfl 4 (by decide) (hts _ L_215) (fun x9 h9 => u_same (hts _ L_216) x9 h9) rfl (by decide +kernel) rfl rfl (Nat.le_of_ble_eq_true rfl) d_Pa_labelled_69 (fun H locs hP hD hS => ?_)
    have hP : va_P (dC, dI) cls (wQ cI cZ hp hc h a1 a2 a3 a4 ht hq n1 n2 (ad_10, (setAt st_10 ((sAt st_10) + 2)))) H := hP
    have hD : va_D A (wQ cI cZ hp hc h a1 a2 a3 a4 ht hq n1 n2 (ad_10, (setAt st_10 ((sAt st_10) + 2)))) := hD
    refine lv_aload_n hx hb d_Pa_labelled_72 rfl (lv_at hl 2 rfl) ?_
    refine va_get (D := (dC, dI)) (ci := 2) (v := .ref hq) (C := R_Pa) (T := T_Pa) (N := 7) hx hb hts u_Pa hown hK hP 0 rfl rfl 1 (by decide) (hts _ L_209) (fun _ h9 => h9) rfl d_Pa_labelled_73 ?_
    refine lv_iload_n hx hb d_Pa_labelled_76 rfl (lv_at hl 1 rfl) ?_
    obtain ⟨lb_11, eb_11, ob_11, eg_11⟩ := p_lab_e ((fun z => hg (by unfold f_Pa_labelled; rw [bnd_r w_1, bnO_s w_2, if_neg c_3, bnd_r w_9, bnd_r w_10, bnd_n z])) : (p_lab (setAt st_10 ((sAt st_10) + 2)) (l_push (sLb st_10) (f_Tk_name (sTk st_1) (sAt st_1)))) ≠ none)
    refine pL_v (g := (p_lab (setAt st_10 ((sAt st_10) + 2)) (l_push (sLb st_10) (f_Tk_name (sTk st_1) (sAt st_1))))) (st := (setAt st_10 ((sAt st_10) + 2))) (As := [.int (f_Tk_name (sTk st_1) (sAt st_1))]) (rest := []) ⟨hx, hb, hml, hown, hts0⟩ (m_La_push l dC dI cI cZ sa rk hq n1 n2 (sLb st_10) lb_11 ok_10.2.2.1 _ (f_Tk_name (sTk st_1) (sAt st_1)) eb_11) hP hD hK hS hA hC hZ L_831 L_832 L_833 L_89 L_834 ⟨rfl, k_La_push⟩ ⟨(by show _ ≤ fr0 + 8; omega), (by show _ ≤ lo0 + 323; omega)⟩ rfl rfl hl.1 (Nat.le_of_ble_eq_true rfl) d_Pa_labelled_77 rfl hcl hsl (show okSt (setAt st_10 ((sAt st_10) + 2)) from ⟨ok_10.1, ok_10.2.1, ok_10.2.2.1, ok_10.2.2.2⟩) ob_11 eg_11 (fun ad_11 st_11 H locs w_11 ok_11 e1_11 e2_11 hP hD hS => ?_)
    have hcl := cl_next hcl e1_11
    have hsl := cl_next hsl e2_11
    refine lv_aload_n hx hb d_Pa_labelled_80 rfl (lv_at hl 2 rfl) ?_
    refine lv_iload_n hx hb d_Pa_labelled_81 rfl (lv_at hl 3 rfl) ?_
    refine lv_iconst (v := 1) hx hb d_Pa_labelled_82 (by decide) ?_
    refine lv_iadd hx hb d_Pa_labelled_83 ?_
    refine lv_iload_n hx hb d_Pa_labelled_84 rfl (lv_at hl 4 rfl) ?_
    refine mx_Vv (As := [.int (depth + 1), .int first]) (rest := []) ⟨hx, hb, hml, hown, hts0⟩ (hRS hc ad_11 st_11 ok_11 _ (depth + 1) first (fun z => hg (by unfold f_Pa_labelled; rw [bnd_r w_1, bnO_s w_2, if_neg c_3, bnd_r w_9, bnd_r w_10, bnd_r w_11, bnd_n z]))) hP hD hK hS hA hC hZ hnt hlocks L_560 L_562 L_10 L_87 L_563 k_Pa_statement ⟨(by show _ ≤ fr0 + 8; omega), (by show _ ≤ lo0 + 323; omega)⟩ rfl rfl hl.1 (Nat.le_of_ble_eq_true rfl) d_Pa_labelled_85 rfl (fun q z => by unfold f_Pa_labelled; rw [bnd_r w_1, bnO_s w_2, if_neg c_3, bnd_r w_9, bnd_r w_10, bnd_r w_11, bnd_l z]) hcl hsl (fun ad_12 st_12 H locs w_12 ok_12 e1_12 e2_12 hP hD hS => ?_)
    have hcl := cl_next hcl e1_12
    have hsl := cl_next hsl e2_12
    refine lv_aload_n hx hb d_Pa_labelled_88 rfl (lv_at hl 2 rfl) ?_
    refine va_get (D := (dC, dI)) (ci := 2) (v := .ref hq) (C := R_Pa) (T := T_Pa) (N := 7) hx hb hts u_Pa hown hK hP 0 rfl rfl 1 (by decide) (hts _ L_209) (fun _ h9 => h9) rfl d_Pa_labelled_89 ?_
    obtain ⟨lb_13, eb_13, ob_13, eg_13⟩ := p_lab_e ((fun z => hg (by unfold f_Pa_labelled; rw [bnd_r w_1, bnO_s w_2, if_neg c_3, bnd_r w_9, bnd_r w_10, bnd_r w_11, bnd_r w_12, bnd_n z])) : (p_lab st_12 (l_pop (sLb st_12))) ≠ none)
    refine pL_v (g := (p_lab st_12 (l_pop (sLb st_12)))) (st := st_12) (As := []) (rest := []) ⟨hx, hb, hml, hown, hts0⟩ (m_La_pop l dC dI cI cZ sa rk hq n1 n2 (sLb st_12) lb_13 ok_12.2.2.1 _  eb_13) hP hD hK hS hA hC hZ L_835 L_836 L_837 L_89 L_838 ⟨rfl, k_La_pop⟩ ⟨(by show _ ≤ fr0 + 8; omega), (by show _ ≤ lo0 + 323; omega)⟩ rfl rfl hl.1 (Nat.le_of_ble_eq_true rfl) d_Pa_labelled_92 rfl hcl hsl ok_12 ob_13 eg_13 (fun ad_13 st_13 H locs w_13 ok_13 e1_13 e2_13 hP hD hS => ?_)
    have hcl := cl_next hcl e1_13
    have hsl := cl_next hsl e2_13
    refine lv_aload_n hx hb d_Pa_labelled_95 rfl (lv_at hl 2 rfl) ?_
    refine va_get (D := (dC, dI)) (ci := 2) (v := .ref ht) (C := R_Pa) (T := T_Pa) (N := 7) hx hb hts u_Pa hown hK hP 0 rfl rfl 0 (by decide) (hts _ L_208) (fun _ h9 => h9) rfl d_Pa_labelled_96 ?_
    refine lv_iload hx hb d_Pa_labelled_99 (lv_at hl 0 rfl) ?_
    refine pT_v (g := (p_close st_13 r_10)) (st := st_13) (As := [.int r_10]) (rest := []) ⟨hx, hb, hml, hown, hts0⟩ (m_Tr_close l dC dI cI cZ sa rk ht ad_13 (sTr st_13) ok_13.2.1 _ r_10) hP hD hK hS hA hC hZ L_582 L_583 L_584 L_85 L_585 ⟨rfl, k_Tr_close⟩ ⟨(by show _ ≤ fr0 + 8; omega), (by show _ ≤ lo0 + 323; omega)⟩ rfl rfl hl.1 (Nat.le_of_ble_eq_true rfl) d_Pa_labelled_101 rfl hcl hsl (Nat.zero_le _) (Nat.zero_le _) ok_13 (t_close_ok r_10 ok_13.2.1) rfl (fun ad_14 st_14 H locs w_14 ok_14 e1_14 e2_14 hP hD hS => ?_)
    have hcl := cl_next hcl e1_14
    have hsl := cl_next hsl e2_14
    exact mx_vret (stF := st_14) hx hb hr hlocks hK hP hD hS hcl hsl (by unfold f_Pa_labelled; rw [bnd_r w_1, bnO_s w_2, if_neg c_3, bnd_r w_9, bnd_r w_10, bnd_r w_11, bnd_r w_12, bnd_r w_13, bnd_r w_14]) ok_14 d_Pa_labelled_104
def f_Pa_doStatement (E : Int32 → Int32 → Int32 → ST → Rz) (S : Int32 → Int32 → ST → Rz) (F : Int32 → Int32 → ST → Rz) (st : ST) (depth : Int32) (first : Int32) : Rz := (bnd (p_lab st (l_markAsLoops (sLb st) first)) (fun _ st_1 => (bnd (p_open st_1 7 0 (sAt st_1)) (fun r_2 st_2 => (bnd (S (depth + 1) (f_La_count (sLb st_2)) (setAt (setCo st_2 ((coF st_2), (coL st_2), (coS st_2), ((coP st_2) + 1), (coW st_2))) ((sAt st_2) + 1))) (fun _ st_3 => (bnd (f_Cu_expectWord (setCo st_3 ((coF st_3), (coL st_3), (coS st_3), ((coP st_3) - 1), (coW st_3))) 24) (fun _ st_4 => (bnd (f_Cu_expect st_4 60) (fun _ st_5 => (bnd (E (-1) (depth + 1) 1 st_5) (fun _ st_6 => (bnd (f_Cu_expect st_6 61) (fun _ st_7 => (bnd (f_Cu_semicolon st_7) (fun _ st_8 => (bnd (p_close st_8 r_2) (fun _ st_9 => (some (.inr (0, st_9)))))))))))))))))))))
set_option maxRecDepth 100000 in
set_option maxHeartbeats 4000000 in
theorem m_Pa_doStatement (l : Launch) (hlt : l.stackTraces = false) (dC : Nat → ClassId) (dI : Nat → Nat → Nat) (cI cZ : ClassId) (sa rk hp h a1 a2 a3 a4 ht hq n1 n2 : Nat) (fr0 lo0 : Nat) (E : Int32 → Int32 → Int32 → ST → Rz) (S : Int32 → Int32 → ST → Rz) (F : Int32 → Int32 → ST → Rz) (hRE : ∀ (hc : Nat) (ad : AD) (st : ST), okSt st → ∀ (sz : Nat) (level depth inn : Int32), E level depth inn st ≠ none → cPv l y_Pa_expression c_Pa_expression 6 fr0 lo0 (dC, dI) cI cZ sa rk hp hc h a1 a2 a3 a4 ht hq n1 n2 ad st sz [.ref hp, .int level, .int depth, .int inn] (E level depth inn st)) (hRS : ∀ (hc : Nat) (ad : AD) (st : ST), okSt st → ∀ (sz : Nat) (depth first : Int32), S depth first st ≠ none → cPv l y_Pa_statement c_Pa_statement 4 fr0 lo0 (dC, dI) cI cZ sa rk hp hc h a1 a2 a3 a4 ht hq n1 n2 ad st sz [.ref hp, .int depth, .int first] (S depth first st)) (hRF : ∀ (hc : Nat) (ad : AD) (st : ST), okSt st → ∀ (sz : Nat) (form depth : Int32), F form depth st ≠ none → cPv l y_Pa_function c_Pa_function 10 fr0 lo0 (dC, dI) cI cZ sa rk hp hc h a1 a2 a3 a4 ht hq n1 n2 ad st sz [.ref hp, .int form, .int depth] (F form depth st)) (hc : Nat) (ad : AD) (st : ST) (hst : okSt st) (sz : Nat) (depth : Int32) (first : Int32) (hg : f_Pa_doStatement E S F st depth first ≠ none) : cPv l y_Pa_doStatement c_Pa_doStatement 4 (fr0 + 8) (lo0 + 323) (dC, dI) cI cZ sa rk hp hc h a1 a2 a3 a4 ht hq n1 n2 ad st sz [.ref hp, .int depth, .int first] (f_Pa_doStatement E S F st depth first) := by
  refine vx_ofW (cc := c_Pa_doStatement) (maxL := 4) (ret := none) (by decide) rfl ?_
  intro p e s m args below meth c s₁ B hml hnt hv
  obtain ⟨rfl, hsz, hP, hK, hD0, hC, hZ⟩ := hv
  have hx := B.exec
  have hb := B.bytes
  have hr := B.returns
  have hts0 := atoms_spec (ws := wy y_Pa_doStatement c_Pa_doStatement 4 none) B.pre
  have hts := htsL hts0
  have hown : s.vm.findClass R_Pa = some m.cls := findClass_of_methodNamed B.named
  have hlocks := B.notSynchronized
  subst hsz
  have hD := hD0.self (sz := s.heap.size)
  generalize hAe : va_A (wQ cI cZ hp hc h a1 a2 a3 a4 ht hq n1 n2 (ad, st)) s.heap.size = A at hD hZ ⊢
  have hA : ∀ q : Nat, s.heap.size ≤ q → A q := fun q h => by rw [← hAe]; exact Or.inr h
  have hS : va_S A s.heap s.heap [] := va_S.rf
  have hcl : 0 + bC st ≤ bC st := Nat.le_of_eq (Nat.zero_add _)
  have hsl : 0 + bS st ≤ bS st := Nat.le_of_eq (Nat.zero_add _)
  have hl := lv_entry ([.ref hp, .int depth, .int first]) (n := 4) (Nat.le_of_ble_eq_true rfl)
  rw [lg_entry_eq]
  generalize (lg_sl ([.ref hp, .int depth, .int first]) ++ List.replicate (4 - (lg_sl ([.ref hp, .int depth, .int first])).length) Slot.unset).toArray = ls at hl ⊢
  have hl : lv_has ls 4 [(0, .ref hp), (1, .int depth), (2, .int first)] := hl
  refine lv_aload_n hx hb d_Pa_doStatement_0 rfl (lv_at hl 0 rfl) ?_
  refine va_get (D := (dC, dI)) (ci := 2) (v := .ref hq) (C := R_Pa) (T := T_Pa) (N := 7) hx hb hts u_Pa hown hK hP 0 rfl rfl 1 (by decide) (hts _ L_209) (fun _ h9 => h9) rfl d_Pa_doStatement_1 ?_
  refine lv_iload_n hx hb d_Pa_doStatement_4 rfl (lv_at hl 2 rfl) ?_
  obtain ⟨lb_1, eb_1, ob_1, eg_1⟩ := p_lab_e ((fun z => hg (by unfold f_Pa_doStatement; rw [bnd_n z])) : (p_lab st (l_markAsLoops (sLb st) first)) ≠ none)
  refine pL_v (g := (p_lab st (l_markAsLoops (sLb st) first))) (st := st) (As := [.int first]) (rest := []) ⟨hx, hb, hml, hown, hts0⟩ (m_La_markAsLoops l dC dI cI cZ sa rk hq n1 n2 (sLb st) lb_1 hst.2.2.1 _ first eb_1) hP hD hK hS hA hC hZ L_731 L_732 L_733 L_89 L_734 ⟨rfl, k_La_markAsLoops⟩ ⟨(by show _ ≤ fr0 + 8; omega), (by show _ ≤ lo0 + 323; omega)⟩ rfl rfl hl.1 (Nat.le_of_ble_eq_true rfl) d_Pa_doStatement_5 rfl hcl hsl hst ob_1 eg_1 (fun ad_1 st_1 H locs w_1 ok_1 e1_1 e2_1 hP hD hS => ?_)
  have hcl := cl_next hcl e1_1
  have hsl := cl_next hsl e2_1
  refine lv_aload_n hx hb d_Pa_doStatement_8 rfl (lv_at hl 0 rfl) ?_
  refine va_get (D := (dC, dI)) (ci := 2) (v := .ref ht) (C := R_Pa) (T := T_Pa) (N := 7) hx hb hts u_Pa hown hK hP 0 rfl rfl 0 (by decide) (hts _ L_208) (fun _ h9 => h9) rfl d_Pa_doStatement_9 ?_
  refine lv_bipush (v := 7) hx hb d_Pa_doStatement_12 (by decide) ?_
  refine lv_iconst (v := 0) hx hb d_Pa_doStatement_14 (by decide) ?_
  refine lv_aload_n hx hb d_Pa_doStatement_15 rfl (lv_at hl 0 rfl) ?_
  refine va_get (D := (dC, dI)) (ci := 2) (v := .int (sAt st_1)) (C := R_Pa) (T := T_Pa) (N := 7) hx hb hts u_Pa hown hK hP 0 rfl rfl 4 (by decide) (hts _ L_215) (fun x9 h9 => u_same (hts _ L_216) x9 h9) rfl d_Pa_doStatement_16 ?_
  have hn_2 : (p_open st_1 7 0 (sAt st_1)) ≠ none := (fun z => hg (by unfold f_Pa_doStatement; rw [bnd_r w_1, bnd_n z]))
  refine pT_i (g := (p_open st_1 7 0 (sAt st_1))) (st := st_1) (As := [.int 7, .int 0, .int (sAt st_1)]) (rest := []) ⟨hx, hb, hml, hown, hts0⟩ (m_Tr_open l dC dI cI cZ sa rk ht ad_1 (sTr st_1) ok_1.2.1 _ 7 0 (sAt st_1) (p_open_c hn_2).1 (p_open_c hn_2).2.1) hP hD hK hS hA hC hZ L_416 L_417 L_418 L_85 L_419 ⟨rfl, k_Tr_open⟩ ⟨(by show _ ≤ fr0 + 8; omega), (by show _ ≤ lo0 + 323; omega)⟩ rfl rfl hl.1 (Nat.le_of_ble_eq_true rfl) d_Pa_doStatement_19 rfl hcl hsl (p_open_c hn_2).2.2.1 (p_open_c hn_2).2.2.2 ok_1 (t_open_ok 7 0 (sAt st_1) ok_1.2.1 (p_open_c hn_2).1 (p_open_c hn_2).2.1) (p_open_e hn_2) (fun r_2 ad_2 st_2 H locs w_2 ok_2 e1_2 e2_2 hP hD hS => ?_)
  have hcl := cl_next hcl e1_2
  have hsl := cl_next hsl e2_2
  refine lv_istore_n (lv' := [(3, .int r_2), (0, .ref hp), (1, .int depth), (2, .int first)]) hx hb d_Pa_doStatement_22 rfl hl (by decide) rfl (fun ls hl => ?_)
  refine lv_aload_n hx hb d_Pa_doStatement_23 rfl (lv_at hl 1 rfl) ?_
  refine lv_dup hx hb d_Pa_doStatement_24 rfl ?_
  refine va_get (D := (dC, dI)) (ci := 2) (v := .int (sAt st_2)) (C := R_Pa) (T := T_Pa) (N := 7) hx hb hts u_Pa hown hK hP 0 rfl rfl 4 (by decide) (hts _ L_215) (fun x9 h9 => u_same (hts _ L_216) x9 h9) rfl d_Pa_doStatement_25 ?_
  refine lv_iconst (v := 1) hx hb d_Pa_doStatement_28 (by decide) ?_
  refine lv_iadd hx hb d_Pa_doStatement_29 ?_
  refine va_put (D := (dC, dI)) (ci := 2) (v := .int ((sAt st_2) + 1)) (ty := .int) (C := R_Pa) (T := T_Pa) (N := 7) hx hb hts u_Pa ty_Pa tk_Pa nm_Pa hown hK hP hD hS 0 rfl rfl 4 (by decide) (hts _ L_215) (fun x9 h9 => u_same (hts _ L_216) x9 h9) rfl (by decide +kernel) rfl rfl (Nat.le_of_ble_eq_true rfl) d_Pa_doStatement_30 (fun H locs hP hD hS => ?_)
  have hP : va_P (dC, dI) cls (wQ cI cZ hp hc h a1 a2 a3 a4 ht hq n1 n2 (ad_2, (setAt st_2 ((sAt st_2) + 1)))) H := hP
  have hD : va_D A (wQ cI cZ hp hc h a1 a2 a3 a4 ht hq n1 n2 (ad_2, (setAt st_2 ((sAt st_2) + 1)))) := hD
  refine lv_aload_n hx hb d_Pa_doStatement_33 rfl (lv_at hl 1 rfl) ?_
  refine va_get (D := (dC, dI)) (ci := 2) (v := .ref hc) (C := R_Pa) (T := T_Pa) (N := 7) hx hb hts u_Pa hown hK hP 0 rfl rfl 6 (by decide) (hts _ L_221) (fun x9 h9 => u_same (hts _ L_222) x9 h9) rfl d_Pa_doStatement_34 ?_
  refine lv_dup hx hb d_Pa_doStatement_37 rfl ?_
  refine va_get (D := (dC, dI)) (ci := 0) (v := .int (coP st_2)) (C := R_Co) (T := T_Co) (N := 5) hx hb hts u_Co hown hK hP 1 rfl rfl 3 (by decide) (hts _ L_177) (fun _ h9 => h9) rfl d_Pa_doStatement_38 ?_
  refine lv_iconst (v := 1) hx hb d_Pa_doStatement_41 (by decide) ?_
  refine lv_iadd hx hb d_Pa_doStatement_42 ?_
  refine va_put (D := (dC, dI)) (ci := 0) (v := .int ((coP st_2) + 1)) (ty := .int) (C := R_Co) (T := T_Co) (N := 5) hx hb hts u_Co ty_Co tk_Co nm_Co hown hK hP hD hS 1 rfl rfl 3 (by decide) (hts _ L_177) (fun _ h9 => h9) rfl (by decide +kernel) rfl rfl (Nat.le_of_ble_eq_true rfl) d_Pa_doStatement_43 (fun H locs hP hD hS => ?_)
  have hP : va_P (dC, dI) cls (wQ cI cZ hp hc h a1 a2 a3 a4 ht hq n1 n2 (ad_2, (setAt (setCo st_2 ((coF st_2), (coL st_2), (coS st_2), ((coP st_2) + 1), (coW st_2))) ((sAt st_2) + 1)))) H := hP
  have hD : va_D A (wQ cI cZ hp hc h a1 a2 a3 a4 ht hq n1 n2 (ad_2, (setAt (setCo st_2 ((coF st_2), (coL st_2), (coS st_2), ((coP st_2) + 1), (coW st_2))) ((sAt st_2) + 1)))) := hD
  refine lv_aload_n hx hb d_Pa_doStatement_46 rfl (lv_at hl 1 rfl) ?_
  refine lv_iload_n hx hb d_Pa_doStatement_47 rfl (lv_at hl 2 rfl) ?_
  refine lv_iconst (v := 1) hx hb d_Pa_doStatement_48 (by decide) ?_
  refine lv_iadd hx hb d_Pa_doStatement_49 ?_
  refine lv_aload_n hx hb d_Pa_doStatement_50 rfl (lv_at hl 1 rfl) ?_
  refine va_get (D := (dC, dI)) (ci := 2) (v := .ref hq) (C := R_Pa) (T := T_Pa) (N := 7) hx hb hts u_Pa hown hK hP 0 rfl rfl 1 (by decide) (hts _ L_209) (fun _ h9 => h9) rfl d_Pa_doStatement_51 ?_
  refine rd_V (v := (f_La_count (sLb st_2))) (As := []) (rest := [.int (depth + 1), .ref hp]) ⟨hx, hb, hml, hown, hts0⟩ (m_La_count l dC dI cI cZ hq n1 n2 (sLb st_2) ok_2.2.2.1 ) hP hK [12, 13, 14] rfl [0, 1] rfl 0 1 rfl rfl L_552 L_553 L_554 L_89 L_555 ⟨rfl, k_La_count⟩ ⟨(by show _ ≤ fr0 + 8; omega), (by show _ ≤ lo0 + 323; omega)⟩ hl.1 ⟨Nat.le_trans (Nat.le_add_right _ _) hcl, Nat.le_trans (Nat.le_add_right _ _) hsl⟩ (Nat.le_of_ble_eq_true rfl) d_Pa_doStatement_54 rfl ?_
  refine mx_Vv (As := [.int (depth + 1), .int (f_La_count (sLb st_2))]) (rest := []) ⟨hx, hb, hml, hown, hts0⟩ (hRS hc ad_2 (setAt (setCo st_2 ((coF st_2), (coL st_2), (coS st_2), ((coP st_2) + 1), (coW st_2))) ((sAt st_2) + 1)) (show okSt (setAt (setCo st_2 ((coF st_2), (coL st_2), (coS st_2), ((coP st_2) + 1), (coW st_2))) ((sAt st_2) + 1)) from ⟨ok_2.1, ok_2.2.1, ok_2.2.2.1, ok_2.2.2.2⟩) _ (depth + 1) (f_La_count (sLb st_2)) (fun z => hg (by unfold f_Pa_doStatement; rw [bnd_r w_1, bnd_r w_2, bnd_n z]))) hP hD hK hS hA hC hZ hnt hlocks L_560 L_562 L_10 L_87 L_563 k_Pa_statement ⟨(by show _ ≤ fr0 + 8; omega), (by show _ ≤ lo0 + 323; omega)⟩ rfl rfl hl.1 (Nat.le_of_ble_eq_true rfl) d_Pa_doStatement_57 rfl (fun q z => by unfold f_Pa_doStatement; rw [bnd_r w_1, bnd_r w_2, bnd_l z]) hcl hsl (fun ad_3 st_3 H locs w_3 ok_3 e1_3 e2_3 hP hD hS => ?_)
  have hcl := cl_next hcl e1_3
  have hsl := cl_next hsl e2_3
  refine lv_aload_n hx hb d_Pa_doStatement_60 rfl (lv_at hl 1 rfl) ?_
  refine va_get (D := (dC, dI)) (ci := 2) (v := .ref hc) (C := R_Pa) (T := T_Pa) (N := 7) hx hb hts u_Pa hown hK hP 0 rfl rfl 6 (by decide) (hts _ L_221) (fun x9 h9 => u_same (hts _ L_222) x9 h9) rfl d_Pa_doStatement_61 ?_
  refine lv_dup hx hb d_Pa_doStatement_64 rfl ?_
  refine va_get (D := (dC, dI)) (ci := 0) (v := .int (coP st_3)) (C := R_Co) (T := T_Co) (N := 5) hx hb hts u_Co hown hK hP 1 rfl rfl 3 (by decide) (hts _ L_177) (fun _ h9 => h9) rfl d_Pa_doStatement_65 ?_
  refine lv_iconst (v := 1) hx hb d_Pa_doStatement_68 (by decide) ?_
  refine lv_isub hx hb d_Pa_doStatement_69 ?_
  refine va_put (D := (dC, dI)) (ci := 0) (v := .int ((coP st_3) - 1)) (ty := .int) (C := R_Co) (T := T_Co) (N := 5) hx hb hts u_Co ty_Co tk_Co nm_Co hown hK hP hD hS 1 rfl rfl 3 (by decide) (hts _ L_177) (fun _ h9 => h9) rfl (by decide +kernel) rfl rfl (Nat.le_of_ble_eq_true rfl) d_Pa_doStatement_70 (fun H locs hP hD hS => ?_)
  have hP : va_P (dC, dI) cls (wQ cI cZ hp hc h a1 a2 a3 a4 ht hq n1 n2 (ad_3, (setCo st_3 ((coF st_3), (coL st_3), (coS st_3), ((coP st_3) - 1), (coW st_3))))) H := hP
  have hD : va_D A (wQ cI cZ hp hc h a1 a2 a3 a4 ht hq n1 n2 (ad_3, (setCo st_3 ((coF st_3), (coL st_3), (coS st_3), ((coP st_3) - 1), (coW st_3))))) := hD
  refine lv_aload_n hx hb d_Pa_doStatement_73 rfl (lv_at hl 1 rfl) ?_
  refine lv_bipush (v := 24) hx hb d_Pa_doStatement_74 (by decide) ?_
  refine mx_Uv (xm := ⟨"SyntaxTree$Parser", "expectWord", "(I)V"⟩) (owner := R_Cu) (As := [.int 24]) (rest := []) ⟨hx, hb, hml, hown, hts0⟩ (m_Cu_expectWord l hlt dC dI cI cZ sa rk hp hc h a1 a2 a3 a4 ht hq n1 n2 ad_3 (setCo st_3 ((coF st_3), (coL st_3), (coS st_3), ((coP st_3) - 1), (coW st_3))) (show okSt (setCo st_3 ((coF st_3), (coL st_3), (coS st_3), ((coP st_3) - 1), (coW st_3))) from ⟨ok_3.1, ok_3.2.1, ok_3.2.2.1, ok_3.2.2.2⟩) _ 24 (fun z => hg (by unfold f_Pa_doStatement; rw [bnd_r w_1, bnd_r w_2, bnd_r w_3, bnd_n z]))) hP hD hK hS hA hC hZ hnt hlocks L_736 L_737 L_739 L_740 L_86 L_741 rfl k_Cu_expectWord ⟨(by show _ ≤ fr0 + 8; omega), (by show _ ≤ lo0 + 323; omega)⟩ rfl rfl hl.1 (Nat.le_of_ble_eq_true rfl) d_Pa_doStatement_76 rfl (fun q z => by unfold f_Pa_doStatement; rw [bnd_r w_1, bnd_r w_2, bnd_r w_3, bnd_l z]) hcl hsl (fun ad_4 st_4 H locs w_4 ok_4 e1_4 e2_4 hP hD hS => ?_)
  have hcl := cl_next hcl e1_4
  have hsl := cl_next hsl e2_4
  refine lv_aload_n hx hb d_Pa_doStatement_79 rfl (lv_at hl 1 rfl) ?_
  refine lv_bipush (v := 60) hx hb d_Pa_doStatement_80 (by decide) ?_
  refine mx_Uv (xm := ⟨"SyntaxTree$Parser", "expect", "(I)V"⟩) (owner := R_Cu) (As := [.int 60]) (rest := []) ⟨hx, hb, hml, hown, hts0⟩ (m_Cu_expect l hlt dC dI cI cZ sa rk hp hc h a1 a2 a3 a4 ht hq n1 n2 ad_4 st_4 ok_4 _ 60 (fun z => hg (by unfold f_Pa_doStatement; rw [bnd_r w_1, bnd_r w_2, bnd_r w_3, bnd_r w_4, bnd_n z]))) hP hD hK hS hA hC hZ hnt hlocks L_510 L_511 L_513 L_514 L_86 L_515 rfl k_Cu_expect ⟨(by show _ ≤ fr0 + 8; omega), (by show _ ≤ lo0 + 323; omega)⟩ rfl rfl hl.1 (Nat.le_of_ble_eq_true rfl) d_Pa_doStatement_82 rfl (fun q z => by unfold f_Pa_doStatement; rw [bnd_r w_1, bnd_r w_2, bnd_r w_3, bnd_r w_4, bnd_l z]) hcl hsl (fun ad_5 st_5 H locs w_5 ok_5 e1_5 e2_5 hP hD hS => ?_)
  have hcl := cl_next hcl e1_5
  have hsl := cl_next hsl e2_5
  refine lv_aload_n hx hb d_Pa_doStatement_85 rfl (lv_at hl 1 rfl) ?_
  refine lv_iconst (v := (-1)) hx hb d_Pa_doStatement_86 (by decide) ?_
  refine lv_iload_n hx hb d_Pa_doStatement_87 rfl (lv_at hl 2 rfl) ?_
  refine lv_iconst (v := 1) hx hb d_Pa_doStatement_88 (by decide) ?_
  refine lv_iadd hx hb d_Pa_doStatement_89 ?_
  refine lv_iconst (v := 1) hx hb d_Pa_doStatement_90 (by decide) ?_
  refine mx_Vv (As := [.int (-1), .int (depth + 1), .int 1]) (rest := []) ⟨hx, hb, hml, hown, hts0⟩ (hRE hc ad_5 st_5 ok_5 _ (-1) (depth + 1) 1 (fun z => hg (by unfold f_Pa_doStatement; rw [bnd_r w_1, bnd_r w_2, bnd_r w_3, bnd_r w_4, bnd_r w_5, bnd_n z]))) hP hD hK hS hA hC hZ hnt hlocks L_569 L_571 L_12 L_87 L_572 k_Pa_expression ⟨(by show _ ≤ fr0 + 8; omega), (by show _ ≤ lo0 + 323; omega)⟩ rfl rfl hl.1 (Nat.le_of_ble_eq_true rfl) d_Pa_doStatement_91 rfl (fun q z => by unfold f_Pa_doStatement; rw [bnd_r w_1, bnd_r w_2, bnd_r w_3, bnd_r w_4, bnd_r w_5, bnd_l z]) hcl hsl (fun ad_6 st_6 H locs w_6 ok_6 e1_6 e2_6 hP hD hS => ?_)
  have hcl := cl_next hcl e1_6
  have hsl := cl_next hsl e2_6
  refine lv_aload_n hx hb d_Pa_doStatement_94 rfl (lv_at hl 1 rfl) ?_
  refine lv_bipush (v := 61) hx hb d_Pa_doStatement_95 (by decide) ?_
  refine mx_Uv (xm := ⟨"SyntaxTree$Parser", "expect", "(I)V"⟩) (owner := R_Cu) (As := [.int 61]) (rest := []) ⟨hx, hb, hml, hown, hts0⟩ (m_Cu_expect l hlt dC dI cI cZ sa rk hp hc h a1 a2 a3 a4 ht hq n1 n2 ad_6 st_6 ok_6 _ 61 (fun z => hg (by unfold f_Pa_doStatement; rw [bnd_r w_1, bnd_r w_2, bnd_r w_3, bnd_r w_4, bnd_r w_5, bnd_r w_6, bnd_n z]))) hP hD hK hS hA hC hZ hnt hlocks L_510 L_511 L_513 L_514 L_86 L_515 rfl k_Cu_expect ⟨(by show _ ≤ fr0 + 8; omega), (by show _ ≤ lo0 + 323; omega)⟩ rfl rfl hl.1 (Nat.le_of_ble_eq_true rfl) d_Pa_doStatement_97 rfl (fun q z => by unfold f_Pa_doStatement; rw [bnd_r w_1, bnd_r w_2, bnd_r w_3, bnd_r w_4, bnd_r w_5, bnd_r w_6, bnd_l z]) hcl hsl (fun ad_7 st_7 H locs w_7 ok_7 e1_7 e2_7 hP hD hS => ?_)
  have hcl := cl_next hcl e1_7
  have hsl := cl_next hsl e2_7
  refine lv_aload_n hx hb d_Pa_doStatement_100 rfl (lv_at hl 1 rfl) ?_
  refine mx_Uv (xm := ⟨"SyntaxTree$Parser", "semicolon", "()V"⟩) (owner := R_Cu) (As := []) (rest := []) ⟨hx, hb, hml, hown, hts0⟩ (m_Cu_semicolon l hlt dC dI cI cZ sa rk hp hc h a1 a2 a3 a4 ht hq n1 n2 ad_7 st_7 ok_7 _  (fun z => hg (by unfold f_Pa_doStatement; rw [bnd_r w_1, bnd_r w_2, bnd_r w_3, bnd_r w_4, bnd_r w_5, bnd_r w_6, bnd_r w_7, bnd_n z]))) hP hD hK hS hA hC hZ hnt hlocks L_711 L_712 L_714 L_715 L_86 L_716 rfl k_Cu_semicolon ⟨(by show _ ≤ fr0 + 8; omega), (by show _ ≤ lo0 + 323; omega)⟩ rfl rfl hl.1 (Nat.le_of_ble_eq_true rfl) d_Pa_doStatement_101 rfl (fun q z => by unfold f_Pa_doStatement; rw [bnd_r w_1, bnd_r w_2, bnd_r w_3, bnd_r w_4, bnd_r w_5, bnd_r w_6, bnd_r w_7, bnd_l z]) hcl hsl (fun ad_8 st_8 H locs w_8 ok_8 e1_8 e2_8 hP hD hS => ?_)
  have hcl := cl_next hcl e1_8
  have hsl := cl_next hsl e2_8
  refine lv_aload_n hx hb d_Pa_doStatement_104 rfl (lv_at hl 1 rfl) ?_
  refine va_get (D := (dC, dI)) (ci := 2) (v := .ref ht) (C := R_Pa) (T := T_Pa) (N := 7) hx hb hts u_Pa hown hK hP 0 rfl rfl 0 (by decide) (hts _ L_208) (fun _ h9 => h9) rfl d_Pa_doStatement_105 ?_
  refine lv_iload_n hx hb d_Pa_doStatement_108 rfl (lv_at hl 0 rfl) ?_
  refine pT_v (g := (p_close st_8 r_2)) (st := st_8) (As := [.int r_2]) (rest := []) ⟨hx, hb, hml, hown, hts0⟩ (m_Tr_close l dC dI cI cZ sa rk ht ad_8 (sTr st_8) ok_8.2.1 _ r_2) hP hD hK hS hA hC hZ L_582 L_583 L_584 L_85 L_585 ⟨rfl, k_Tr_close⟩ ⟨(by show _ ≤ fr0 + 8; omega), (by show _ ≤ lo0 + 323; omega)⟩ rfl rfl hl.1 (Nat.le_of_ble_eq_true rfl) d_Pa_doStatement_109 rfl hcl hsl (Nat.zero_le _) (Nat.zero_le _) ok_8 (t_close_ok r_2 ok_8.2.1) rfl (fun ad_9 st_9 H locs w_9 ok_9 e1_9 e2_9 hP hD hS => ?_)
  have hcl := cl_next hcl e1_9
  have hsl := cl_next hsl e2_9
  exact mx_vret (stF := st_9) hx hb hr hlocks hK hP hD hS hcl hsl (by unfold f_Pa_doStatement; rw [bnd_r w_1, bnd_r w_2, bnd_r w_3, bnd_r w_4, bnd_r w_5, bnd_r w_6, bnd_r w_7, bnd_r w_8, bnd_r w_9]) ok_9 d_Pa_doStatement_112
def f_Pa_whileStatement (E : Int32 → Int32 → Int32 → ST → Rz) (S : Int32 → Int32 → ST → Rz) (F : Int32 → Int32 → ST → Rz) (st : ST) (depth : Int32) (first : Int32) : Rz := (bnd (p_lab st (l_markAsLoops (sLb st) first)) (fun _ st_1 => (bnd (p_open st_1 8 0 (sAt st_1)) (fun r_2 st_2 => (bnd (f_Cu_expect (setAt st_2 ((sAt st_2) + 1)) 60) (fun _ st_3 => (bnd (E (-1) (depth + 1) 1 st_3) (fun _ st_4 => (bnd (f_Cu_expect st_4 61) (fun _ st_5 => (bnd (S (depth + 1) (f_La_count (sLb st_5)) (setCo st_5 ((coF st_5), (coL st_5), (coS st_5), ((coP st_5) + 1), (coW st_5)))) (fun _ st_6 => (bnd (p_close (setCo st_6 ((coF st_6), (coL st_6), (coS st_6), ((coP st_6) - 1), (coW st_6))) r_2) (fun _ st_7 => (some (.inr (0, st_7)))))))))))))))))
set_option maxRecDepth 100000 in
set_option maxHeartbeats 4000000 in
theorem m_Pa_whileStatement (l : Launch) (hlt : l.stackTraces = false) (dC : Nat → ClassId) (dI : Nat → Nat → Nat) (cI cZ : ClassId) (sa rk hp h a1 a2 a3 a4 ht hq n1 n2 : Nat) (fr0 lo0 : Nat) (E : Int32 → Int32 → Int32 → ST → Rz) (S : Int32 → Int32 → ST → Rz) (F : Int32 → Int32 → ST → Rz) (hRE : ∀ (hc : Nat) (ad : AD) (st : ST), okSt st → ∀ (sz : Nat) (level depth inn : Int32), E level depth inn st ≠ none → cPv l y_Pa_expression c_Pa_expression 6 fr0 lo0 (dC, dI) cI cZ sa rk hp hc h a1 a2 a3 a4 ht hq n1 n2 ad st sz [.ref hp, .int level, .int depth, .int inn] (E level depth inn st)) (hRS : ∀ (hc : Nat) (ad : AD) (st : ST), okSt st → ∀ (sz : Nat) (depth first : Int32), S depth first st ≠ none → cPv l y_Pa_statement c_Pa_statement 4 fr0 lo0 (dC, dI) cI cZ sa rk hp hc h a1 a2 a3 a4 ht hq n1 n2 ad st sz [.ref hp, .int depth, .int first] (S depth first st)) (hRF : ∀ (hc : Nat) (ad : AD) (st : ST), okSt st → ∀ (sz : Nat) (form depth : Int32), F form depth st ≠ none → cPv l y_Pa_function c_Pa_function 10 fr0 lo0 (dC, dI) cI cZ sa rk hp hc h a1 a2 a3 a4 ht hq n1 n2 ad st sz [.ref hp, .int form, .int depth] (F form depth st)) (hc : Nat) (ad : AD) (st : ST) (hst : okSt st) (sz : Nat) (depth : Int32) (first : Int32) (hg : f_Pa_whileStatement E S F st depth first ≠ none) : cPv l y_Pa_whileStatement c_Pa_whileStatement 4 (fr0 + 8) (lo0 + 323) (dC, dI) cI cZ sa rk hp hc h a1 a2 a3 a4 ht hq n1 n2 ad st sz [.ref hp, .int depth, .int first] (f_Pa_whileStatement E S F st depth first) := by
  refine vx_ofW (cc := c_Pa_whileStatement) (maxL := 4) (ret := none) (by decide) rfl ?_
  intro p e s m args below meth c s₁ B hml hnt hv
  obtain ⟨rfl, hsz, hP, hK, hD0, hC, hZ⟩ := hv
  have hx := B.exec
  have hb := B.bytes
  have hr := B.returns
  have hts0 := atoms_spec (ws := wy y_Pa_whileStatement c_Pa_whileStatement 4 none) B.pre
  have hts := htsL hts0
  have hown : s.vm.findClass R_Pa = some m.cls := findClass_of_methodNamed B.named
  have hlocks := B.notSynchronized
  subst hsz
  have hD := hD0.self (sz := s.heap.size)
  generalize hAe : va_A (wQ cI cZ hp hc h a1 a2 a3 a4 ht hq n1 n2 (ad, st)) s.heap.size = A at hD hZ ⊢
  have hA : ∀ q : Nat, s.heap.size ≤ q → A q := fun q h => by rw [← hAe]; exact Or.inr h
  have hS : va_S A s.heap s.heap [] := va_S.rf
  have hcl : 0 + bC st ≤ bC st := Nat.le_of_eq (Nat.zero_add _)
  have hsl : 0 + bS st ≤ bS st := Nat.le_of_eq (Nat.zero_add _)
  have hl := lv_entry ([.ref hp, .int depth, .int first]) (n := 4) (Nat.le_of_ble_eq_true rfl)
  rw [lg_entry_eq]
  generalize (lg_sl ([.ref hp, .int depth, .int first]) ++ List.replicate (4 - (lg_sl ([.ref hp, .int depth, .int first])).length) Slot.unset).toArray = ls at hl ⊢
  have hl : lv_has ls 4 [(0, .ref hp), (1, .int depth), (2, .int first)] := hl
  refine lv_aload_n hx hb d_Pa_whileStatement_0 rfl (lv_at hl 0 rfl) ?_
  refine va_get (D := (dC, dI)) (ci := 2) (v := .ref hq) (C := R_Pa) (T := T_Pa) (N := 7) hx hb hts u_Pa hown hK hP 0 rfl rfl 1 (by decide) (hts _ L_209) (fun _ h9 => h9) rfl d_Pa_whileStatement_1 ?_
  refine lv_iload_n hx hb d_Pa_whileStatement_4 rfl (lv_at hl 2 rfl) ?_
  obtain ⟨lb_1, eb_1, ob_1, eg_1⟩ := p_lab_e ((fun z => hg (by unfold f_Pa_whileStatement; rw [bnd_n z])) : (p_lab st (l_markAsLoops (sLb st) first)) ≠ none)
  refine pL_v (g := (p_lab st (l_markAsLoops (sLb st) first))) (st := st) (As := [.int first]) (rest := []) ⟨hx, hb, hml, hown, hts0⟩ (m_La_markAsLoops l dC dI cI cZ sa rk hq n1 n2 (sLb st) lb_1 hst.2.2.1 _ first eb_1) hP hD hK hS hA hC hZ L_731 L_732 L_733 L_89 L_734 ⟨rfl, k_La_markAsLoops⟩ ⟨(by show _ ≤ fr0 + 8; omega), (by show _ ≤ lo0 + 323; omega)⟩ rfl rfl hl.1 (Nat.le_of_ble_eq_true rfl) d_Pa_whileStatement_5 rfl hcl hsl hst ob_1 eg_1 (fun ad_1 st_1 H locs w_1 ok_1 e1_1 e2_1 hP hD hS => ?_)
  have hcl := cl_next hcl e1_1
  have hsl := cl_next hsl e2_1
  refine lv_aload_n hx hb d_Pa_whileStatement_8 rfl (lv_at hl 0 rfl) ?_
  refine va_get (D := (dC, dI)) (ci := 2) (v := .ref ht) (C := R_Pa) (T := T_Pa) (N := 7) hx hb hts u_Pa hown hK hP 0 rfl rfl 0 (by decide) (hts _ L_208) (fun _ h9 => h9) rfl d_Pa_whileStatement_9 ?_
  refine lv_bipush (v := 8) hx hb d_Pa_whileStatement_12 (by decide) ?_
  refine lv_iconst (v := 0) hx hb d_Pa_whileStatement_14 (by decide) ?_
  refine lv_aload_n hx hb d_Pa_whileStatement_15 rfl (lv_at hl 0 rfl) ?_
  refine va_get (D := (dC, dI)) (ci := 2) (v := .int (sAt st_1)) (C := R_Pa) (T := T_Pa) (N := 7) hx hb hts u_Pa hown hK hP 0 rfl rfl 4 (by decide) (hts _ L_215) (fun x9 h9 => u_same (hts _ L_216) x9 h9) rfl d_Pa_whileStatement_16 ?_
  have hn_2 : (p_open st_1 8 0 (sAt st_1)) ≠ none := (fun z => hg (by unfold f_Pa_whileStatement; rw [bnd_r w_1, bnd_n z]))
  refine pT_i (g := (p_open st_1 8 0 (sAt st_1))) (st := st_1) (As := [.int 8, .int 0, .int (sAt st_1)]) (rest := []) ⟨hx, hb, hml, hown, hts0⟩ (m_Tr_open l dC dI cI cZ sa rk ht ad_1 (sTr st_1) ok_1.2.1 _ 8 0 (sAt st_1) (p_open_c hn_2).1 (p_open_c hn_2).2.1) hP hD hK hS hA hC hZ L_416 L_417 L_418 L_85 L_419 ⟨rfl, k_Tr_open⟩ ⟨(by show _ ≤ fr0 + 8; omega), (by show _ ≤ lo0 + 323; omega)⟩ rfl rfl hl.1 (Nat.le_of_ble_eq_true rfl) d_Pa_whileStatement_19 rfl hcl hsl (p_open_c hn_2).2.2.1 (p_open_c hn_2).2.2.2 ok_1 (t_open_ok 8 0 (sAt st_1) ok_1.2.1 (p_open_c hn_2).1 (p_open_c hn_2).2.1) (p_open_e hn_2) (fun r_2 ad_2 st_2 H locs w_2 ok_2 e1_2 e2_2 hP hD hS => ?_)
  have hcl := cl_next hcl e1_2
  have hsl := cl_next hsl e2_2
  refine lv_istore_n (lv' := [(3, .int r_2), (0, .ref hp), (1, .int depth), (2, .int first)]) hx hb d_Pa_whileStatement_22 rfl hl (by decide) rfl (fun ls hl => ?_)
  refine lv_aload_n hx hb d_Pa_whileStatement_23 rfl (lv_at hl 1 rfl) ?_
  refine lv_dup hx hb d_Pa_whileStatement_24 rfl ?_
  refine va_get (D := (dC, dI)) (ci := 2) (v := .int (sAt st_2)) (C := R_Pa) (T := T_Pa) (N := 7) hx hb hts u_Pa hown hK hP 0 rfl rfl 4 (by decide) (hts _ L_215) (fun x9 h9 => u_same (hts _ L_216) x9 h9) rfl d_Pa_whileStatement_25 ?_
  refine lv_iconst (v := 1) hx hb d_Pa_whileStatement_28 (by decide) ?_
  refine lv_iadd hx hb d_Pa_whileStatement_29 ?_
  refine va_put (D := (dC, dI)) (ci := 2) (v := .int ((sAt st_2) + 1)) (ty := .int) (C := R_Pa) (T := T_Pa) (N := 7) hx hb hts u_Pa ty_Pa tk_Pa nm_Pa hown hK hP hD hS 0 rfl rfl 4 (by decide) (hts _ L_215) (fun x9 h9 => u_same (hts _ L_216) x9 h9) rfl (by decide +kernel) rfl rfl (Nat.le_of_ble_eq_true rfl) d_Pa_whileStatement_30 (fun H locs hP hD hS => ?_)
  have hP : va_P (dC, dI) cls (wQ cI cZ hp hc h a1 a2 a3 a4 ht hq n1 n2 (ad_2, (setAt st_2 ((sAt st_2) + 1)))) H := hP
  have hD : va_D A (wQ cI cZ hp hc h a1 a2 a3 a4 ht hq n1 n2 (ad_2, (setAt st_2 ((sAt st_2) + 1)))) := hD
  refine lv_aload_n hx hb d_Pa_whileStatement_33 rfl (lv_at hl 1 rfl) ?_
  refine lv_bipush (v := 60) hx hb d_Pa_whileStatement_34 (by decide) ?_
  refine mx_Uv (xm := ⟨"SyntaxTree$Parser", "expect", "(I)V"⟩) (owner := R_Cu) (As := [.int 60]) (rest := []) ⟨hx, hb, hml, hown, hts0⟩ (m_Cu_expect l hlt dC dI cI cZ sa rk hp hc h a1 a2 a3 a4 ht hq n1 n2 ad_2 (setAt st_2 ((sAt st_2) + 1)) (show okSt (setAt st_2 ((sAt st_2) + 1)) from ⟨ok_2.1, ok_2.2.1, ok_2.2.2.1, ok_2.2.2.2⟩) _ 60 (fun z => hg (by unfold f_Pa_whileStatement; rw [bnd_r w_1, bnd_r w_2, bnd_n z]))) hP hD hK hS hA hC hZ hnt hlocks L_510 L_511 L_513 L_514 L_86 L_515 rfl k_Cu_expect ⟨(by show _ ≤ fr0 + 8; omega), (by show _ ≤ lo0 + 323; omega)⟩ rfl rfl hl.1 (Nat.le_of_ble_eq_true rfl) d_Pa_whileStatement_36 rfl (fun q z => by unfold f_Pa_whileStatement; rw [bnd_r w_1, bnd_r w_2, bnd_l z]) hcl hsl (fun ad_3 st_3 H locs w_3 ok_3 e1_3 e2_3 hP hD hS => ?_)
  have hcl := cl_next hcl e1_3
  have hsl := cl_next hsl e2_3
  refine lv_aload_n hx hb d_Pa_whileStatement_39 rfl (lv_at hl 1 rfl) ?_
  refine lv_iconst (v := (-1)) hx hb d_Pa_whileStatement_40 (by decide) ?_
  refine lv_iload_n hx hb d_Pa_whileStatement_41 rfl (lv_at hl 2 rfl) ?_
  refine lv_iconst (v := 1) hx hb d_Pa_whileStatement_42 (by decide) ?_
  refine lv_iadd hx hb d_Pa_whileStatement_43 ?_
  refine lv_iconst (v := 1) hx hb d_Pa_whileStatement_44 (by decide) ?_
  refine mx_Vv (As := [.int (-1), .int (depth + 1), .int 1]) (rest := []) ⟨hx, hb, hml, hown, hts0⟩ (hRE hc ad_3 st_3 ok_3 _ (-1) (depth + 1) 1 (fun z => hg (by unfold f_Pa_whileStatement; rw [bnd_r w_1, bnd_r w_2, bnd_r w_3, bnd_n z]))) hP hD hK hS hA hC hZ hnt hlocks L_569 L_571 L_12 L_87 L_572 k_Pa_expression ⟨(by show _ ≤ fr0 + 8; omega), (by show _ ≤ lo0 + 323; omega)⟩ rfl rfl hl.1 (Nat.le_of_ble_eq_true rfl) d_Pa_whileStatement_45 rfl (fun q z => by unfold f_Pa_whileStatement; rw [bnd_r w_1, bnd_r w_2, bnd_r w_3, bnd_l z]) hcl hsl (fun ad_4 st_4 H locs w_4 ok_4 e1_4 e2_4 hP hD hS => ?_)
  have hcl := cl_next hcl e1_4
  have hsl := cl_next hsl e2_4
  refine lv_aload_n hx hb d_Pa_whileStatement_48 rfl (lv_at hl 1 rfl) ?_
  refine lv_bipush (v := 61) hx hb d_Pa_whileStatement_49 (by decide) ?_
  refine mx_Uv (xm := ⟨"SyntaxTree$Parser", "expect", "(I)V"⟩) (owner := R_Cu) (As := [.int 61]) (rest := []) ⟨hx, hb, hml, hown, hts0⟩ (m_Cu_expect l hlt dC dI cI cZ sa rk hp hc h a1 a2 a3 a4 ht hq n1 n2 ad_4 st_4 ok_4 _ 61 (fun z => hg (by unfold f_Pa_whileStatement; rw [bnd_r w_1, bnd_r w_2, bnd_r w_3, bnd_r w_4, bnd_n z]))) hP hD hK hS hA hC hZ hnt hlocks L_510 L_511 L_513 L_514 L_86 L_515 rfl k_Cu_expect ⟨(by show _ ≤ fr0 + 8; omega), (by show _ ≤ lo0 + 323; omega)⟩ rfl rfl hl.1 (Nat.le_of_ble_eq_true rfl) d_Pa_whileStatement_51 rfl (fun q z => by unfold f_Pa_whileStatement; rw [bnd_r w_1, bnd_r w_2, bnd_r w_3, bnd_r w_4, bnd_l z]) hcl hsl (fun ad_5 st_5 H locs w_5 ok_5 e1_5 e2_5 hP hD hS => ?_)
  have hcl := cl_next hcl e1_5
  have hsl := cl_next hsl e2_5
  refine lv_aload_n hx hb d_Pa_whileStatement_54 rfl (lv_at hl 1 rfl) ?_
  refine va_get (D := (dC, dI)) (ci := 2) (v := .ref hc) (C := R_Pa) (T := T_Pa) (N := 7) hx hb hts u_Pa hown hK hP 0 rfl rfl 6 (by decide) (hts _ L_221) (fun x9 h9 => u_same (hts _ L_222) x9 h9) rfl d_Pa_whileStatement_55 ?_
  refine lv_dup hx hb d_Pa_whileStatement_58 rfl ?_
  refine va_get (D := (dC, dI)) (ci := 0) (v := .int (coP st_5)) (C := R_Co) (T := T_Co) (N := 5) hx hb hts u_Co hown hK hP 1 rfl rfl 3 (by decide) (hts _ L_177) (fun _ h9 => h9) rfl d_Pa_whileStatement_59 ?_
  refine lv_iconst (v := 1) hx hb d_Pa_whileStatement_62 (by decide) ?_
  refine lv_iadd hx hb d_Pa_whileStatement_63 ?_
  refine va_put (D := (dC, dI)) (ci := 0) (v := .int ((coP st_5) + 1)) (ty := .int) (C := R_Co) (T := T_Co) (N := 5) hx hb hts u_Co ty_Co tk_Co nm_Co hown hK hP hD hS 1 rfl rfl 3 (by decide) (hts _ L_177) (fun _ h9 => h9) rfl (by decide +kernel) rfl rfl (Nat.le_of_ble_eq_true rfl) d_Pa_whileStatement_64 (fun H locs hP hD hS => ?_)
  have hP : va_P (dC, dI) cls (wQ cI cZ hp hc h a1 a2 a3 a4 ht hq n1 n2 (ad_5, (setCo st_5 ((coF st_5), (coL st_5), (coS st_5), ((coP st_5) + 1), (coW st_5))))) H := hP
  have hD : va_D A (wQ cI cZ hp hc h a1 a2 a3 a4 ht hq n1 n2 (ad_5, (setCo st_5 ((coF st_5), (coL st_5), (coS st_5), ((coP st_5) + 1), (coW st_5))))) := hD
  refine lv_aload_n hx hb d_Pa_whileStatement_67 rfl (lv_at hl 1 rfl) ?_
  refine lv_iload_n hx hb d_Pa_whileStatement_68 rfl (lv_at hl 2 rfl) ?_
  refine lv_iconst (v := 1) hx hb d_Pa_whileStatement_69 (by decide) ?_
  refine lv_iadd hx hb d_Pa_whileStatement_70 ?_
  refine lv_aload_n hx hb d_Pa_whileStatement_71 rfl (lv_at hl 1 rfl) ?_
  refine va_get (D := (dC, dI)) (ci := 2) (v := .ref hq) (C := R_Pa) (T := T_Pa) (N := 7) hx hb hts u_Pa hown hK hP 0 rfl rfl 1 (by decide) (hts _ L_209) (fun _ h9 => h9) rfl d_Pa_whileStatement_72 ?_
  refine rd_V (v := (f_La_count (sLb st_5))) (As := []) (rest := [.int (depth + 1), .ref hp]) ⟨hx, hb, hml, hown, hts0⟩ (m_La_count l dC dI cI cZ hq n1 n2 (sLb st_5) ok_5.2.2.1 ) hP hK [12, 13, 14] rfl [0, 1] rfl 0 1 rfl rfl L_552 L_553 L_554 L_89 L_555 ⟨rfl, k_La_count⟩ ⟨(by show _ ≤ fr0 + 8; omega), (by show _ ≤ lo0 + 323; omega)⟩ hl.1 ⟨Nat.le_trans (Nat.le_add_right _ _) hcl, Nat.le_trans (Nat.le_add_right _ _) hsl⟩ (Nat.le_of_ble_eq_true rfl) d_Pa_whileStatement_75 rfl ?_
  refine mx_Vv (As := [.int (depth + 1), .int (f_La_count (sLb st_5))]) (rest := []) ⟨hx, hb, hml, hown, hts0⟩ (hRS hc ad_5 (setCo st_5 ((coF st_5), (coL st_5), (coS st_5), ((coP st_5) + 1), (coW st_5))) (show okSt (setCo st_5 ((coF st_5), (coL st_5), (coS st_5), ((coP st_5) + 1), (coW st_5))) from ⟨ok_5.1, ok_5.2.1, ok_5.2.2.1, ok_5.2.2.2⟩) _ (depth + 1) (f_La_count (sLb st_5)) (fun z => hg (by unfold f_Pa_whileStatement; rw [bnd_r w_1, bnd_r w_2, bnd_r w_3, bnd_r w_4, bnd_r w_5, bnd_n z]))) hP hD hK hS hA hC hZ hnt hlocks L_560 L_562 L_10 L_87 L_563 k_Pa_statement ⟨(by show _ ≤ fr0 + 8; omega), (by show _ ≤ lo0 + 323; omega)⟩ rfl rfl hl.1 (Nat.le_of_ble_eq_true rfl) d_Pa_whileStatement_78 rfl (fun q z => by unfold f_Pa_whileStatement; rw [bnd_r w_1, bnd_r w_2, bnd_r w_3, bnd_r w_4, bnd_r w_5, bnd_l z]) hcl hsl (fun ad_6 st_6 H locs w_6 ok_6 e1_6 e2_6 hP hD hS => ?_)
  have hcl := cl_next hcl e1_6
  have hsl := cl_next hsl e2_6
  refine lv_aload_n hx hb d_Pa_whileStatement_81 rfl (lv_at hl 1 rfl) ?_
  refine va_get (D := (dC, dI)) (ci := 2) (v := .ref hc) (C := R_Pa) (T := T_Pa) (N := 7) hx hb hts u_Pa hown hK hP 0 rfl rfl 6 (by decide) (hts _ L_221) (fun x9 h9 => u_same (hts _ L_222) x9 h9) rfl d_Pa_whileStatement_82 ?_
  refine lv_dup hx hb d_Pa_whileStatement_85 rfl ?_
  refine va_get (D := (dC, dI)) (ci := 0) (v := .int (coP st_6)) (C := R_Co) (T := T_Co) (N := 5) hx hb hts u_Co hown hK hP 1 rfl rfl 3 (by decide) (hts _ L_177) (fun _ h9 => h9) rfl d_Pa_whileStatement_86 ?_
  refine lv_iconst (v := 1) hx hb d_Pa_whileStatement_89 (by decide) ?_
  refine lv_isub hx hb d_Pa_whileStatement_90 ?_
  refine va_put (D := (dC, dI)) (ci := 0) (v := .int ((coP st_6) - 1)) (ty := .int) (C := R_Co) (T := T_Co) (N := 5) hx hb hts u_Co ty_Co tk_Co nm_Co hown hK hP hD hS 1 rfl rfl 3 (by decide) (hts _ L_177) (fun _ h9 => h9) rfl (by decide +kernel) rfl rfl (Nat.le_of_ble_eq_true rfl) d_Pa_whileStatement_91 (fun H locs hP hD hS => ?_)
  have hP : va_P (dC, dI) cls (wQ cI cZ hp hc h a1 a2 a3 a4 ht hq n1 n2 (ad_6, (setCo st_6 ((coF st_6), (coL st_6), (coS st_6), ((coP st_6) - 1), (coW st_6))))) H := hP
  have hD : va_D A (wQ cI cZ hp hc h a1 a2 a3 a4 ht hq n1 n2 (ad_6, (setCo st_6 ((coF st_6), (coL st_6), (coS st_6), ((coP st_6) - 1), (coW st_6))))) := hD
  refine lv_aload_n hx hb d_Pa_whileStatement_94 rfl (lv_at hl 1 rfl) ?_
  refine va_get (D := (dC, dI)) (ci := 2) (v := .ref ht) (C := R_Pa) (T := T_Pa) (N := 7) hx hb hts u_Pa hown hK hP 0 rfl rfl 0 (by decide) (hts _ L_208) (fun _ h9 => h9) rfl d_Pa_whileStatement_95 ?_
  refine lv_iload_n hx hb d_Pa_whileStatement_98 rfl (lv_at hl 0 rfl) ?_
  refine pT_v (g := (p_close (setCo st_6 ((coF st_6), (coL st_6), (coS st_6), ((coP st_6) - 1), (coW st_6))) r_2)) (st := (setCo st_6 ((coF st_6), (coL st_6), (coS st_6), ((coP st_6) - 1), (coW st_6)))) (As := [.int r_2]) (rest := []) ⟨hx, hb, hml, hown, hts0⟩ (m_Tr_close l dC dI cI cZ sa rk ht ad_6 (sTr st_6) ok_6.2.1 _ r_2) hP hD hK hS hA hC hZ L_582 L_583 L_584 L_85 L_585 ⟨rfl, k_Tr_close⟩ ⟨(by show _ ≤ fr0 + 8; omega), (by show _ ≤ lo0 + 323; omega)⟩ rfl rfl hl.1 (Nat.le_of_ble_eq_true rfl) d_Pa_whileStatement_99 rfl hcl hsl (Nat.zero_le _) (Nat.zero_le _) (show okSt (setCo st_6 ((coF st_6), (coL st_6), (coS st_6), ((coP st_6) - 1), (coW st_6))) from ⟨ok_6.1, ok_6.2.1, ok_6.2.2.1, ok_6.2.2.2⟩) (t_close_ok r_2 ok_6.2.1) rfl (fun ad_7 st_7 H locs w_7 ok_7 e1_7 e2_7 hP hD hS => ?_)
  have hcl := cl_next hcl e1_7
  have hsl := cl_next hsl e2_7
  exact mx_vret (stF := st_7) hx hb hr hlocks hK hP hD hS hcl hsl (by unfold f_Pa_whileStatement; rw [bnd_r w_1, bnd_r w_2, bnd_r w_3, bnd_r w_4, bnd_r w_5, bnd_r w_6, bnd_r w_7]) ok_7 d_Pa_whileStatement_102
def f_Pa_forRest (E : Int32 → Int32 → Int32 → ST → Rz) (S : Int32 → Int32 → ST → Rz) (F : Int32 → Int32 → ST → Rz) (st : ST) (made : Int32) (depth : Int32) : Rz := (if (f_Cu_atWord st 13) = 0 then (bnd (f_Cu_expect st 67) (fun _ st_2 => (if (f_Cu_atSign st_2 67) = 0 then (bnd (E (-1) (depth + 1) 1 st_2) (fun _ st_4 => (bnd (f_Cu_expect st_4 67) (fun _ st_5 => (if (f_Cu_atSign st_5 61) = 0 then (bnd (E (-1) (depth + 1) 1 st_5) (fun _ st_7 => (bnd (f_Cu_expect st_7 61) (fun _ st_8 => (bnd (S (depth + 1) (f_La_count (sLb st_8)) (setCo st_8 ((coF st_8), (coL st_8), (coS st_8), ((coP st_8) + 1), (coW st_8)))) (fun _ st_9 => (bnd (p_close (setCo st_9 ((coF st_9), (coL st_9), (coS st_9), ((coP st_9) - 1), (coW st_9))) made) (fun _ st_10 => (some (.inr (0, st_10))))))))))) else (bnd (p_open st_5 59 0 (sAt st_5)) (fun r_11 st_11 => (bnd (f_Cu_expect st_11 61) (fun _ st_12 => (bnd (S (depth + 1) (f_La_count (sLb st_12)) (setCo st_12 ((coF st_12), (coL st_12), (coS st_12), ((coP st_12) + 1), (coW st_12)))) (fun _ st_13 => (bnd (p_close (setCo st_13 ((coF st_13), (coL st_13), (coS st_13), ((coP st_13) - 1), (coW st_13))) made) (fun _ st_14 => (some (.inr (0, st_14)))))))))))))))) else (bnd (p_open st_2 59 0 (sAt st_2)) (fun r_15 st_15 => (bnd (f_Cu_expect st_15 67) (fun _ st_16 => (if (f_Cu_atSign st_16 61) = 0 then (bnd (E (-1) (depth + 1) 1 st_16) (fun _ st_18 => (bnd (f_Cu_expect st_18 61) (fun _ st_19 => (bnd (S (depth + 1) (f_La_count (sLb st_19)) (setCo st_19 ((coF st_19), (coL st_19), (coS st_19), ((coP st_19) + 1), (coW st_19)))) (fun _ st_20 => (bnd (p_close (setCo st_20 ((coF st_20), (coL st_20), (coS st_20), ((coP st_20) - 1), (coW st_20))) made) (fun _ st_21 => (some (.inr (0, st_21))))))))))) else (bnd (p_open st_16 59 0 (sAt st_16)) (fun r_22 st_22 => (bnd (f_Cu_expect st_22 61) (fun _ st_23 => (bnd (S (depth + 1) (f_La_count (sLb st_23)) (setCo st_23 ((coF st_23), (coL st_23), (coS st_23), ((coP st_23) + 1), (coW st_23)))) (fun _ st_24 => (bnd (p_close (setCo st_24 ((coF st_24), (coL st_24), (coS st_24), ((coP st_24) - 1), (coW st_24))) made) (fun _ st_25 => (some (.inr (0, st_25))))))))))))))))))) else (bnd (f_Pa_mayTakeKeys st (made + 1)) (fun r_26 st_26 => (if r_26 = 0 then (bnd (f_Cu_refuse st_26 (sAt st_26)) (fun _ st_33 => (bnd (p_setKind st_33 made 10) (fun _ st_34 => (bnd (E (-1) (depth + 1) 1 (setAt st_34 ((sAt st_34) + 1))) (fun _ st_35 => (bnd (f_Cu_expect st_35 61) (fun _ st_36 => (bnd (S (depth + 1) (f_La_count (sLb st_36)) (setCo st_36 ((coF st_36), (coL st_36), (coS st_36), ((coP st_36) + 1), (coW st_36)))) (fun _ st_37 => (bnd (p_close (setCo st_37 ((coF st_37), (coL st_37), (coS st_37), ((coP st_37) - 1), (coW st_37))) made) (fun _ st_38 => (some (.inr (0, st_38))))))))))))))) else (bnd (p_setKind st_26 made 10) (fun _ st_28 => (bnd (E (-1) (depth + 1) 1 (setAt st_28 ((sAt st_28) + 1))) (fun _ st_29 => (bnd (f_Cu_expect st_29 61) (fun _ st_30 => (bnd (S (depth + 1) (f_La_count (sLb st_30)) (setCo st_30 ((coF st_30), (coL st_30), (coS st_30), ((coP st_30) + 1), (coW st_30)))) (fun _ st_31 => (bnd (p_close (setCo st_31 ((coF st_31), (coL st_31), (coS st_31), ((coP st_31) - 1), (coW st_31))) made) (fun _ st_32 => (some (.inr (0, st_32)))))))))))))))))
set_option maxRecDepth 100000 in
set_option maxHeartbeats 4000000 in
theorem m_Pa_forRest (l : Launch) (hlt : l.stackTraces = false) (dC : Nat → ClassId) (dI : Nat → Nat → Nat) (cI cZ : ClassId) (sa rk hp h a1 a2 a3 a4 ht hq n1 n2 : Nat) (fr0 lo0 : Nat) (E : Int32 → Int32 → Int32 → ST → Rz) (S : Int32 → Int32 → ST → Rz) (F : Int32 → Int32 → ST → Rz) (hRE : ∀ (hc : Nat) (ad : AD) (st : ST), okSt st → ∀ (sz : Nat) (level depth inn : Int32), E level depth inn st ≠ none → cPv l y_Pa_expression c_Pa_expression 6 fr0 lo0 (dC, dI) cI cZ sa rk hp hc h a1 a2 a3 a4 ht hq n1 n2 ad st sz [.ref hp, .int level, .int depth, .int inn] (E level depth inn st)) (hRS : ∀ (hc : Nat) (ad : AD) (st : ST), okSt st → ∀ (sz : Nat) (depth first : Int32), S depth first st ≠ none → cPv l y_Pa_statement c_Pa_statement 4 fr0 lo0 (dC, dI) cI cZ sa rk hp hc h a1 a2 a3 a4 ht hq n1 n2 ad st sz [.ref hp, .int depth, .int first] (S depth first st)) (hRF : ∀ (hc : Nat) (ad : AD) (st : ST), okSt st → ∀ (sz : Nat) (form depth : Int32), F form depth st ≠ none → cPv l y_Pa_function c_Pa_function 10 fr0 lo0 (dC, dI) cI cZ sa rk hp hc h a1 a2 a3 a4 ht hq n1 n2 ad st sz [.ref hp, .int form, .int depth] (F form depth st)) (hc : Nat) (ad : AD) (st : ST) (hst : okSt st) (sz : Nat) (made : Int32) (depth : Int32) (hg : f_Pa_forRest E S F st made depth ≠ none) : cPv l y_Pa_forRest c_Pa_forRest 3 (fr0 + 8) (lo0 + 323) (dC, dI) cI cZ sa rk hp hc h a1 a2 a3 a4 ht hq n1 n2 ad st sz [.ref hp, .int made, .int depth] (f_Pa_forRest E S F st made depth) := by
  refine vx_ofW (cc := c_Pa_forRest) (maxL := 3) (ret := none) (by decide) rfl ?_
  intro p e s m args below meth c s₁ B hml hnt hv
  obtain ⟨rfl, hsz, hP, hK, hD0, hC, hZ⟩ := hv
  have hx := B.exec
  have hb := B.bytes
  have hr := B.returns
  have hts0 := atoms_spec (ws := wy y_Pa_forRest c_Pa_forRest 3 none) B.pre
  have hts := htsL hts0
  have hown : s.vm.findClass R_Pa = some m.cls := findClass_of_methodNamed B.named
  have hlocks := B.notSynchronized
  subst hsz
  have hD := hD0.self (sz := s.heap.size)
  generalize hAe : va_A (wQ cI cZ hp hc h a1 a2 a3 a4 ht hq n1 n2 (ad, st)) s.heap.size = A at hD hZ ⊢
  have hA : ∀ q : Nat, s.heap.size ≤ q → A q := fun q h => by rw [← hAe]; exact Or.inr h
  have hS : va_S A s.heap s.heap [] := va_S.rf
  have hcl : 0 + bC st ≤ bC st := Nat.le_of_eq (Nat.zero_add _)
  have hsl : 0 + bS st ≤ bS st := Nat.le_of_eq (Nat.zero_add _)
  have hl := lv_entry ([.ref hp, .int made, .int depth]) (n := 3) (Nat.le_of_ble_eq_true rfl)
  rw [lg_entry_eq]
  generalize (lg_sl ([.ref hp, .int made, .int depth]) ++ List.replicate (3 - (lg_sl ([.ref hp, .int made, .int depth])).length) Slot.unset).toArray = ls at hl ⊢
  have hl : lv_has ls 3 [(0, .ref hp), (1, .int made), (2, .int depth)] := hl
  refine lv_aload_n hx hb d_Pa_forRest_0 rfl (lv_at hl 0 rfl) ?_
  refine lv_bipush (v := 13) hx hb d_Pa_forRest_1 (by decide) ?_
  refine rd_U (xm := ⟨"SyntaxTree$Parser", "atWord", "(I)Z"⟩) (owner := R_Cu) (v := (f_Cu_atWord st 13)) (As := [.int 13]) (rest := []) ⟨hx, hb, hml, hown, hts0⟩ (m_Cu_atWord l dC dI cI cZ hp hc h a1 a2 a3 a4 ht ad.1 ad.2.1 ad.2.2.1 ad.2.2.2 hq n1 n2 st hst 13) hP hK [0, 1, 2, 3, 4, 5, 6, 7, 8, 9, 10, 11, 12, 13, 14] rfl [0, 1] rfl 0 2 rfl rfl L_439 L_440 L_442 L_443 L_86 L_444 rfl k_Cu_atWord ⟨(by show _ ≤ fr0 + 8; omega), (by show _ ≤ lo0 + 323; omega)⟩ hl.1 ⟨Nat.le_trans (Nat.le_add_right _ _) hcl, Nat.le_trans (Nat.le_add_right _ _) hsl⟩ (Nat.le_of_ble_eq_true rfl) d_Pa_forRest_3 rfl ?_
  refine lv_if_eq (tgt := 59) hx hb d_Pa_forRest_6 (by decide) (fun c_1 => ?_) (fun c_1 => ?_)
  · refine lv_aload_n hx hb d_Pa_forRest_59 rfl (lv_at hl 0 rfl) ?_
    refine lv_bipush (v := 67) hx hb d_Pa_forRest_60 (by decide) ?_
    refine mx_Uv (xm := ⟨"SyntaxTree$Parser", "expect", "(I)V"⟩) (owner := R_Cu) (As := [.int 67]) (rest := []) ⟨hx, hb, hml, hown, hts0⟩ (m_Cu_expect l hlt dC dI cI cZ sa rk hp hc h a1 a2 a3 a4 ht hq n1 n2 ad st hst _ 67 (fun z => hg (by unfold f_Pa_forRest; rw [if_pos c_1, bnd_n z]))) hP hD hK hS hA hC hZ hnt hlocks L_510 L_511 L_513 L_514 L_86 L_515 rfl k_Cu_expect ⟨(by show _ ≤ fr0 + 8; omega), (by show _ ≤ lo0 + 323; omega)⟩ rfl rfl hl.1 (Nat.le_of_ble_eq_true rfl) d_Pa_forRest_62 rfl (fun q z => by unfold f_Pa_forRest; rw [if_pos c_1, bnd_l z]) hcl hsl (fun ad_2 st_2 H locs w_2 ok_2 e1_2 e2_2 hP hD hS => ?_)
    have hcl := cl_next hcl e1_2
    have hsl := cl_next hsl e2_2
    refine lv_aload_n hx hb d_Pa_forRest_65 rfl (lv_at hl 0 rfl) ?_
    refine lv_bipush (v := 67) hx hb d_Pa_forRest_66 (by decide) ?_
    refine rd_U (xm := ⟨"SyntaxTree$Parser", "atSign", "(I)Z"⟩) (owner := R_Cu) (v := (f_Cu_atSign st_2 67)) (As := [.int 67]) (rest := []) ⟨hx, hb, hml, hown, hts0⟩ (m_Cu_atSign l dC dI cI cZ hp hc h a1 a2 a3 a4 ht ad_2.1 ad_2.2.1 ad_2.2.2.1 ad_2.2.2.2 hq n1 n2 st_2 ok_2 67) hP hK [0, 1, 2, 3, 4, 5, 6, 7, 8, 9, 10, 11, 12, 13, 14] rfl [0, 1] rfl 0 2 rfl rfl L_496 L_497 L_499 L_500 L_86 L_501 rfl k_Cu_atSign ⟨(by show _ ≤ fr0 + 8; omega), (by show _ ≤ lo0 + 323; omega)⟩ hl.1 ⟨Nat.le_trans (Nat.le_add_right _ _) hcl, Nat.le_trans (Nat.le_add_right _ _) hsl⟩ (Nat.le_of_ble_eq_true rfl) d_Pa_forRest_68 rfl ?_
    refine lv_if_eq (tgt := 92) hx hb d_Pa_forRest_71 (by decide) (fun c_3 => ?_) (fun c_3 => ?_)
    · refine lv_aload_n hx hb d_Pa_forRest_92 rfl (lv_at hl 0 rfl) ?_
      refine lv_iconst (v := (-1)) hx hb d_Pa_forRest_93 (by decide) ?_
      refine lv_iload_n hx hb d_Pa_forRest_94 rfl (lv_at hl 2 rfl) ?_
      refine lv_iconst (v := 1) hx hb d_Pa_forRest_95 (by decide) ?_
      refine lv_iadd hx hb d_Pa_forRest_96 ?_
      refine lv_iconst (v := 1) hx hb d_Pa_forRest_97 (by decide) ?_
      refine mx_Vv (As := [.int (-1), .int (depth + 1), .int 1]) (rest := []) ⟨hx, hb, hml, hown, hts0⟩ (hRE hc ad_2 st_2 ok_2 _ (-1) (depth + 1) 1 (fun z => hg (by unfold f_Pa_forRest; rw [if_pos c_1, bnd_r w_2, if_pos c_3, bnd_n z]))) hP hD hK hS hA hC hZ hnt hlocks L_569 L_571 L_12 L_87 L_572 k_Pa_expression ⟨(by show _ ≤ fr0 + 8; omega), (by show _ ≤ lo0 + 323; omega)⟩ rfl rfl hl.1 (Nat.le_of_ble_eq_true rfl) d_Pa_forRest_98 rfl (fun q z => by unfold f_Pa_forRest; rw [if_pos c_1, bnd_r w_2, if_pos c_3, bnd_l z]) hcl hsl (fun ad_4 st_4 H locs w_4 ok_4 e1_4 e2_4 hP hD hS => ?_)
      have hcl := cl_next hcl e1_4
      have hsl := cl_next hsl e2_4
      refine lv_aload_n hx hb d_Pa_forRest_101 rfl (lv_at hl 0 rfl) ?_
      refine lv_bipush (v := 67) hx hb d_Pa_forRest_102 (by decide) ?_
      refine mx_Uv (xm := ⟨"SyntaxTree$Parser", "expect", "(I)V"⟩) (owner := R_Cu) (As := [.int 67]) (rest := []) ⟨hx, hb, hml, hown, hts0⟩ (m_Cu_expect l hlt dC dI cI cZ sa rk hp hc h a1 a2 a3 a4 ht hq n1 n2 ad_4 st_4 ok_4 _ 67 (fun z => hg (by unfold f_Pa_forRest; rw [if_pos c_1, bnd_r w_2, if_pos c_3, bnd_r w_4, bnd_n z]))) hP hD hK hS hA hC hZ hnt hlocks L_510 L_511 L_513 L_514 L_86 L_515 rfl k_Cu_expect ⟨(by show _ ≤ fr0 + 8; omega), (by show _ ≤ lo0 + 323; omega)⟩ rfl rfl hl.1 (Nat.le_of_ble_eq_true rfl) d_Pa_forRest_104 rfl (fun q z => by unfold f_Pa_forRest; rw [if_pos c_1, bnd_r w_2, if_pos c_3, bnd_r w_4, bnd_l z]) hcl hsl (fun ad_5 st_5 H locs w_5 ok_5 e1_5 e2_5 hP hD hS => ?_)
      have hcl := cl_next hcl e1_5
      have hsl := cl_next hsl e2_5
      refine lv_aload_n hx hb d_Pa_forRest_107 rfl (lv_at hl 0 rfl) ?_
      refine lv_bipush (v := 61) hx hb d_Pa_forRest_108 (by decide) ?_
      refine rd_U (xm := ⟨"SyntaxTree$Parser", "atSign", "(I)Z"⟩) (owner := R_Cu) (v := (f_Cu_atSign st_5 61)) (As := [.int 61]) (rest := []) ⟨hx, hb, hml, hown, hts0⟩ (m_Cu_atSign l dC dI cI cZ hp hc h a1 a2 a3 a4 ht ad_5.1 ad_5.2.1 ad_5.2.2.1 ad_5.2.2.2 hq n1 n2 st_5 ok_5 61) hP hK [0, 1, 2, 3, 4, 5, 6, 7, 8, 9, 10, 11, 12, 13, 14] rfl [0, 1] rfl 0 2 rfl rfl L_496 L_497 L_499 L_500 L_86 L_501 rfl k_Cu_atSign ⟨(by show _ ≤ fr0 + 8; omega), (by show _ ≤ lo0 + 323; omega)⟩ hl.1 ⟨Nat.le_trans (Nat.le_add_right _ _) hcl, Nat.le_trans (Nat.le_add_right _ _) hsl⟩ (Nat.le_of_ble_eq_true rfl) d_Pa_forRest_110 rfl ?_
      refine lv_if_eq (tgt := 134) hx hb d_Pa_forRest_113 (by decide) (fun c_6 => ?_) (fun c_6 => ?_)
      · refine lv_aload_n hx hb d_Pa_forRest_134 rfl (lv_at hl 0 rfl) ?_
        refine lv_iconst (v := (-1)) hx hb d_Pa_forRest_135 (by decide) ?_
        refine lv_iload_n hx hb d_Pa_forRest_136 rfl (lv_at hl 2 rfl) ?_
        refine lv_iconst (v := 1) hx hb d_Pa_forRest_137 (by decide) ?_
        refine lv_iadd hx hb d_Pa_forRest_138 ?_
        refine lv_iconst (v := 1) hx hb d_Pa_forRest_139 (by decide) ?_
        refine mx_Vv (As := [.int (-1), .int (depth + 1), .int 1]) (rest := []) ⟨hx, hb, hml, hown, hts0⟩ (hRE hc ad_5 st_5 ok_5 _ (-1) (depth + 1) 1 (fun z => hg (by unfold f_Pa_forRest; rw [if_pos c_1, bnd_r w_2, if_pos c_3, bnd_r w_4, bnd_r w_5, if_pos c_6, bnd_n z]))) hP hD hK hS hA hC hZ hnt hlocks L_569 L_571 L_12 L_87 L_572 k_Pa_expression ⟨(by show _ ≤ fr0 + 8; omega), (by show _ ≤ lo0 + 323; omega)⟩ rfl rfl hl.1 (Nat.le_of_ble_eq_true rfl) d_Pa_forRest_140 rfl (fun q z => by unfold f_Pa_forRest; rw [if_pos c_1, bnd_r w_2, if_pos c_3, bnd_r w_4, bnd_r w_5, if_pos c_6, bnd_l z]) hcl hsl (fun ad_7 st_7 H locs w_7 ok_7 e1_7 e2_7 hP hD hS => ?_)
        have hcl := cl_next hcl e1_7
        have hsl := cl_next hsl e2_7
        refine lv_aload_n hx hb d_Pa_forRest_143 rfl (lv_at hl 0 rfl) ?_
        refine lv_bipush (v := 61) hx hb d_Pa_forRest_144 (by decide) ?_
        refine mx_Uv (xm := ⟨"SyntaxTree$Parser", "expect", "(I)V"⟩) (owner := R_Cu) (As := [.int 61]) (rest := []) ⟨hx, hb, hml, hown, hts0⟩ (m_Cu_expect l hlt dC dI cI cZ sa rk hp hc h a1 a2 a3 a4 ht hq n1 n2 ad_7 st_7 ok_7 _ 61 (fun z => hg (by unfold f_Pa_forRest; rw [if_pos c_1, bnd_r w_2, if_pos c_3, bnd_r w_4, bnd_r w_5, if_pos c_6, bnd_r w_7, bnd_n z]))) hP hD hK hS hA hC hZ hnt hlocks L_510 L_511 L_513 L_514 L_86 L_515 rfl k_Cu_expect ⟨(by show _ ≤ fr0 + 8; omega), (by show _ ≤ lo0 + 323; omega)⟩ rfl rfl hl.1 (Nat.le_of_ble_eq_true rfl) d_Pa_forRest_146 rfl (fun q z => by unfold f_Pa_forRest; rw [if_pos c_1, bnd_r w_2, if_pos c_3, bnd_r w_4, bnd_r w_5, if_pos c_6, bnd_r w_7, bnd_l z]) hcl hsl (fun ad_8 st_8 H locs w_8 ok_8 e1_8 e2_8 hP hD hS => ?_)
        have hcl := cl_next hcl e1_8
        have hsl := cl_next hsl e2_8
        refine lv_aload_n hx hb d_Pa_forRest_149 rfl (lv_at hl 0 rfl) ?_
        refine va_get (D := (dC, dI)) (ci := 2) (v := .ref hc) (C := R_Pa) (T := T_Pa) (N := 7) hx hb hts u_Pa hown hK hP 0 rfl rfl 6 (by decide) (hts _ L_221) (fun x9 h9 => u_same (hts _ L_222) x9 h9) rfl d_Pa_forRest_150 ?_
        refine lv_dup hx hb d_Pa_forRest_153 rfl ?_
        refine va_get (D := (dC, dI)) (ci := 0) (v := .int (coP st_8)) (C := R_Co) (T := T_Co) (N := 5) hx hb hts u_Co hown hK hP 1 rfl rfl 3 (by decide) (hts _ L_177) (fun _ h9 => h9) rfl d_Pa_forRest_154 ?_
        refine lv_iconst (v := 1) hx hb d_Pa_forRest_157 (by decide) ?_
        refine lv_iadd hx hb d_Pa_forRest_158 ?_
        refine va_put (D := (dC, dI)) (ci := 0) (v := .int ((coP st_8) + 1)) (ty := .int) (C := R_Co) (T := T_Co) (N := 5) hx hb hts u_Co ty_Co tk_Co nm_Co hown hK hP hD hS 1 rfl rfl 3 (by decide) (hts _ L_177) (fun _ h9 => h9) rfl (by decide +kernel) rfl rfl (Nat.le_of_ble_eq_true rfl) d_Pa_forRest_159 (fun H locs hP hD hS => ?_)
        have hP : va_P (dC, dI) cls (wQ cI cZ hp hc h a1 a2 a3 a4 ht hq n1 n2 (ad_8, (setCo st_8 ((coF st_8), (coL st_8), (coS st_8), ((coP st_8) + 1), (coW st_8))))) H := hP
        have hD : va_D A (wQ cI cZ hp hc h a1 a2 a3 a4 ht hq n1 n2 (ad_8, (setCo st_8 ((coF st_8), (coL st_8), (coS st_8), ((coP st_8) + 1), (coW st_8))))) := hD
        refine lv_aload_n hx hb d_Pa_forRest_162 rfl (lv_at hl 0 rfl) ?_
        refine lv_iload_n hx hb d_Pa_forRest_163 rfl (lv_at hl 2 rfl) ?_
        refine lv_iconst (v := 1) hx hb d_Pa_forRest_164 (by decide) ?_
        refine lv_iadd hx hb d_Pa_forRest_165 ?_
        refine lv_aload_n hx hb d_Pa_forRest_166 rfl (lv_at hl 0 rfl) ?_
        refine va_get (D := (dC, dI)) (ci := 2) (v := .ref hq) (C := R_Pa) (T := T_Pa) (N := 7) hx hb hts u_Pa hown hK hP 0 rfl rfl 1 (by decide) (hts _ L_209) (fun _ h9 => h9) rfl d_Pa_forRest_167 ?_
        refine rd_V (v := (f_La_count (sLb st_8))) (As := []) (rest := [.int (depth + 1), .ref hp]) ⟨hx, hb, hml, hown, hts0⟩ (m_La_count l dC dI cI cZ hq n1 n2 (sLb st_8) ok_8.2.2.1 ) hP hK [12, 13, 14] rfl [0, 1] rfl 0 1 rfl rfl L_552 L_553 L_554 L_89 L_555 ⟨rfl, k_La_count⟩ ⟨(by show _ ≤ fr0 + 8; omega), (by show _ ≤ lo0 + 323; omega)⟩ hl.1 ⟨Nat.le_trans (Nat.le_add_right _ _) hcl, Nat.le_trans (Nat.le_add_right _ _) hsl⟩ (Nat.le_of_ble_eq_true rfl) d_Pa_forRest_170 rfl ?_
        refine mx_Vv (As := [.int (depth + 1), .int (f_La_count (sLb st_8))]) (rest := []) ⟨hx, hb, hml, hown, hts0⟩ (hRS hc ad_8 (setCo st_8 ((coF st_8), (coL st_8), (coS st_8), ((coP st_8) + 1), (coW st_8))) (show okSt (setCo st_8 ((coF st_8), (coL st_8), (coS st_8), ((coP st_8) + 1), (coW st_8))) from ⟨ok_8.1, ok_8.2.1, ok_8.2.2.1, ok_8.2.2.2⟩) _ (depth + 1) (f_La_count (sLb st_8)) (fun z => hg (by unfold f_Pa_forRest; rw [if_pos c_1, bnd_r w_2, if_pos c_3, bnd_r w_4, bnd_r w_5, if_pos c_6, bnd_r w_7, bnd_r w_8, bnd_n z]))) hP hD hK hS hA hC hZ hnt hlocks L_560 L_562 L_10 L_87 L_563 k_Pa_statement ⟨(by show _ ≤ fr0 + 8; omega), (by show _ ≤ lo0 + 323; omega)⟩ rfl rfl hl.1 (Nat.le_of_ble_eq_true rfl) d_Pa_forRest_173 rfl (fun q z => by unfold f_Pa_forRest; rw [if_pos c_1, bnd_r w_2, if_pos c_3, bnd_r w_4, bnd_r w_5, if_pos c_6, bnd_r w_7, bnd_r w_8, bnd_l z]) hcl hsl (fun ad_9 st_9 H locs w_9 ok_9 e1_9 e2_9 hP hD hS => ?_)
        have hcl := cl_next hcl e1_9
        have hsl := cl_next hsl e2_9
        refine lv_aload_n hx hb d_Pa_forRest_176 rfl (lv_at hl 0 rfl) ?_
        refine va_get (D := (dC, dI)) (ci := 2) (v := .ref hc) (C := R_Pa) (T := T_Pa) (N := 7) hx hb hts u_Pa hown hK hP 0 rfl rfl 6 (by decide) (hts _ L_221) (fun x9 h9 => u_same (hts _ L_222) x9 h9) rfl d_Pa_forRest_177 ?_
        refine lv_dup hx hb d_Pa_forRest_180 rfl ?_
        refine va_get (D := (dC, dI)) (ci := 0) (v := .int (coP st_9)) (C := R_Co) (T := T_Co) (N := 5) hx hb hts u_Co hown hK hP 1 rfl rfl 3 (by decide) (hts _ L_177) (fun _ h9 => h9) rfl d_Pa_forRest_181 ?_
        refine lv_iconst (v := 1) hx hb d_Pa_forRest_184 (by decide) ?_
        refine lv_isub hx hb d_Pa_forRest_185 ?_
        refine va_put (D := (dC, dI)) (ci := 0) (v := .int ((coP st_9) - 1)) (ty := .int) (C := R_Co) (T := T_Co) (N := 5) hx hb hts u_Co ty_Co tk_Co nm_Co hown hK hP hD hS 1 rfl rfl 3 (by decide) (hts _ L_177) (fun _ h9 => h9) rfl (by decide +kernel) rfl rfl (Nat.le_of_ble_eq_true rfl) d_Pa_forRest_186 (fun H locs hP hD hS => ?_)
        have hP : va_P (dC, dI) cls (wQ cI cZ hp hc h a1 a2 a3 a4 ht hq n1 n2 (ad_9, (setCo st_9 ((coF st_9), (coL st_9), (coS st_9), ((coP st_9) - 1), (coW st_9))))) H := hP
        have hD : va_D A (wQ cI cZ hp hc h a1 a2 a3 a4 ht hq n1 n2 (ad_9, (setCo st_9 ((coF st_9), (coL st_9), (coS st_9), ((coP st_9) - 1), (coW st_9))))) := hD
        refine lv_aload_n hx hb d_Pa_forRest_189 rfl (lv_at hl 0 rfl) ?_
        refine va_get (D := (dC, dI)) (ci := 2) (v := .ref ht) (C := R_Pa) (T := T_Pa) (N := 7) hx hb hts u_Pa hown hK hP 0 rfl rfl 0 (by decide) (hts _ L_208) (fun _ h9 => h9) rfl d_Pa_forRest_190 ?_
        refine lv_iload_n hx hb d_Pa_forRest_193 rfl (lv_at hl 1 rfl) ?_
        refine pT_v (g := (p_close (setCo st_9 ((coF st_9), (coL st_9), (coS st_9), ((coP st_9) - 1), (coW st_9))) made)) (st := (setCo st_9 ((coF st_9), (coL st_9), (coS st_9), ((coP st_9) - 1), (coW st_9)))) (As := [.int made]) (rest := []) ⟨hx, hb, hml, hown, hts0⟩ (m_Tr_close l dC dI cI cZ sa rk ht ad_9 (sTr st_9) ok_9.2.1 _ made) hP hD hK hS hA hC hZ L_582 L_583 L_584 L_85 L_585 ⟨rfl, k_Tr_close⟩ ⟨(by show _ ≤ fr0 + 8; omega), (by show _ ≤ lo0 + 323; omega)⟩ rfl rfl hl.1 (Nat.le_of_ble_eq_true rfl) d_Pa_forRest_194 rfl hcl hsl (Nat.zero_le _) (Nat.zero_le _) (show okSt (setCo st_9 ((coF st_9), (coL st_9), (coS st_9), ((coP st_9) - 1), (coW st_9))) from ⟨ok_9.1, ok_9.2.1, ok_9.2.2.1, ok_9.2.2.2⟩) (t_close_ok made ok_9.2.1) rfl (fun ad_10 st_10 H locs w_10 ok_10 e1_10 e2_10 hP hD hS => ?_)
        have hcl := cl_next hcl e1_10
        have hsl := cl_next hsl e2_10
        exact mx_vret (stF := st_10) hx hb hr hlocks hK hP hD hS hcl hsl (by unfold f_Pa_forRest; rw [if_pos c_1, bnd_r w_2, if_pos c_3, bnd_r w_4, bnd_r w_5, if_pos c_6, bnd_r w_7, bnd_r w_8, bnd_r w_9, bnd_r w_10]) ok_10 d_Pa_forRest_197
      · refine lv_aload_n hx hb d_Pa_forRest_116 rfl (lv_at hl 0 rfl) ?_
        refine va_get (D := (dC, dI)) (ci := 2) (v := .ref ht) (C := R_Pa) (T := T_Pa) (N := 7) hx hb hts u_Pa hown hK hP 0 rfl rfl 0 (by decide) (hts _ L_208) (fun _ h9 => h9) rfl d_Pa_forRest_117 ?_
        refine lv_bipush (v := 59) hx hb d_Pa_forRest_120 (by decide) ?_
        refine lv_iconst (v := 0) hx hb d_Pa_forRest_122 (by decide) ?_
        refine lv_aload_n hx hb d_Pa_forRest_123 rfl (lv_at hl 0 rfl) ?_
        refine va_get (D := (dC, dI)) (ci := 2) (v := .int (sAt st_5)) (C := R_Pa) (T := T_Pa) (N := 7) hx hb hts u_Pa hown hK hP 0 rfl rfl 4 (by decide) (hts _ L_215) (fun x9 h9 => u_same (hts _ L_216) x9 h9) rfl d_Pa_forRest_124 ?_
        have hn_11 : (p_open st_5 59 0 (sAt st_5)) ≠ none := (fun z => hg (by unfold f_Pa_forRest; rw [if_pos c_1, bnd_r w_2, if_pos c_3, bnd_r w_4, bnd_r w_5, if_neg c_6, bnd_n z]))
        refine pT_i (g := (p_open st_5 59 0 (sAt st_5))) (st := st_5) (As := [.int 59, .int 0, .int (sAt st_5)]) (rest := []) ⟨hx, hb, hml, hown, hts0⟩ (m_Tr_open l dC dI cI cZ sa rk ht ad_5 (sTr st_5) ok_5.2.1 _ 59 0 (sAt st_5) (p_open_c hn_11).1 (p_open_c hn_11).2.1) hP hD hK hS hA hC hZ L_416 L_417 L_418 L_85 L_419 ⟨rfl, k_Tr_open⟩ ⟨(by show _ ≤ fr0 + 8; omega), (by show _ ≤ lo0 + 323; omega)⟩ rfl rfl hl.1 (Nat.le_of_ble_eq_true rfl) d_Pa_forRest_127 rfl hcl hsl (p_open_c hn_11).2.2.1 (p_open_c hn_11).2.2.2 ok_5 (t_open_ok 59 0 (sAt st_5) ok_5.2.1 (p_open_c hn_11).1 (p_open_c hn_11).2.1) (p_open_e hn_11) (fun r_11 ad_11 st_11 H locs w_11 ok_11 e1_11 e2_11 hP hD hS => ?_)
        have hcl := cl_next hcl e1_11
        have hsl := cl_next hsl e2_11
        refine lv_pop hx hb d_Pa_forRest_130 rfl ?_
        refine lv_goto (tgt := 143) hx hb d_Pa_forRest_131 (by decide) ?_
        refine lv_aload_n hx hb d_Pa_forRest_143 rfl (lv_at hl 0 rfl) ?_
        refine lv_bipush (v := 61) hx hb d_Pa_forRest_144 (by decide) ?_
        refine mx_Uv (xm := ⟨"SyntaxTree$Parser", "expect", "(I)V"⟩) (owner := R_Cu) (As := [.int 61]) (rest := []) ⟨hx, hb, hml, hown, hts0⟩ (m_Cu_expect l hlt dC dI cI cZ sa rk hp hc h a1 a2 a3 a4 ht hq n1 n2 ad_11 st_11 ok_11 _ 61 (fun z => hg (by unfold f_Pa_forRest; rw [if_pos c_1, bnd_r w_2, if_pos c_3, bnd_r w_4, bnd_r w_5, if_neg c_6, bnd_r w_11, bnd_n z]))) hP hD hK hS hA hC hZ hnt hlocks L_510 L_511 L_513 L_514 L_86 L_515 rfl k_Cu_expect ⟨(by show _ ≤ fr0 + 8; omega), (by show _ ≤ lo0 + 323; omega)⟩ rfl rfl hl.1 (Nat.le_of_ble_eq_true rfl) d_Pa_forRest_146 rfl (fun q z => by unfold f_Pa_forRest; rw [if_pos c_1, bnd_r w_2, if_pos c_3, bnd_r w_4, bnd_r w_5, if_neg c_6, bnd_r w_11, bnd_l z]) hcl hsl (fun ad_12 st_12 H locs w_12 ok_12 e1_12 e2_12 hP hD hS => ?_)
        have hcl := cl_next hcl e1_12
        have hsl := cl_next hsl e2_12
        refine lv_aload_n hx hb d_Pa_forRest_149 rfl (lv_at hl 0 rfl) ?_
        refine va_get (D := (dC, dI)) (ci := 2) (v := .ref hc) (C := R_Pa) (T := T_Pa) (N := 7) hx hb hts u_Pa hown hK hP 0 rfl rfl 6 (by decide) (hts _ L_221) (fun x9 h9 => u_same (hts _ L_222) x9 h9) rfl d_Pa_forRest_150 ?_
        refine lv_dup hx hb d_Pa_forRest_153 rfl ?_
        refine va_get (D := (dC, dI)) (ci := 0) (v := .int (coP st_12)) (C := R_Co) (T := T_Co) (N := 5) hx hb hts u_Co hown hK hP 1 rfl rfl 3 (by decide) (hts _ L_177) (fun _ h9 => h9) rfl d_Pa_forRest_154 ?_
        refine lv_iconst (v := 1) hx hb d_Pa_forRest_157 (by decide) ?_
        refine lv_iadd hx hb d_Pa_forRest_158 ?_
        refine va_put (D := (dC, dI)) (ci := 0) (v := .int ((coP st_12) + 1)) (ty := .int) (C := R_Co) (T := T_Co) (N := 5) hx hb hts u_Co ty_Co tk_Co nm_Co hown hK hP hD hS 1 rfl rfl 3 (by decide) (hts _ L_177) (fun _ h9 => h9) rfl (by decide +kernel) rfl rfl (Nat.le_of_ble_eq_true rfl) d_Pa_forRest_159 (fun H locs hP hD hS => ?_)
        have hP : va_P (dC, dI) cls (wQ cI cZ hp hc h a1 a2 a3 a4 ht hq n1 n2 (ad_12, (setCo st_12 ((coF st_12), (coL st_12), (coS st_12), ((coP st_12) + 1), (coW st_12))))) H := hP
        have hD : va_D A (wQ cI cZ hp hc h a1 a2 a3 a4 ht hq n1 n2 (ad_12, (setCo st_12 ((coF st_12), (coL st_12), (coS st_12), ((coP st_12) + 1), (coW st_12))))) := hD
        refine lv_aload_n hx hb d_Pa_forRest_162 rfl (lv_at hl 0 rfl) ?_
        refine lv_iload_n hx hb d_Pa_forRest_163 rfl (lv_at hl 2 rfl) ?_
        refine lv_iconst (v := 1) hx hb d_Pa_forRest_164 (by decide) ?_
        refine lv_iadd hx hb d_Pa_forRest_165 ?_
        refine lv_aload_n hx hb d_Pa_forRest_166 rfl (lv_at hl 0 rfl) ?_
        refine va_get (D := (dC, dI)) (ci := 2) (v := .ref hq) (C := R_Pa) (T := T_Pa) (N := 7) hx hb hts u_Pa hown hK hP 0 rfl rfl 1 (by decide) (hts _ L_209) (fun _ h9 => h9) rfl d_Pa_forRest_167 ?_
        refine rd_V (v := (f_La_count (sLb st_12))) (As := []) (rest := [.int (depth + 1), .ref hp]) ⟨hx, hb, hml, hown, hts0⟩ (m_La_count l dC dI cI cZ hq n1 n2 (sLb st_12) ok_12.2.2.1 ) hP hK [12, 13, 14] rfl [0, 1] rfl 0 1 rfl rfl L_552 L_553 L_554 L_89 L_555 ⟨rfl, k_La_count⟩ ⟨(by show _ ≤ fr0 + 8; omega), (by show _ ≤ lo0 + 323; omega)⟩ hl.1 ⟨Nat.le_trans (Nat.le_add_right _ _) hcl, Nat.le_trans (Nat.le_add_right _ _) hsl⟩ (Nat.le_of_ble_eq_true rfl) d_Pa_forRest_170 rfl ?_
        refine mx_Vv (As := [.int (depth + 1), .int (f_La_count (sLb st_12))]) (rest := []) ⟨hx, hb, hml, hown, hts0⟩ (hRS hc ad_12 (setCo st_12 ((coF st_12), (coL st_12), (coS st_12), ((coP st_12) + 1), (coW st_12))) (show okSt (setCo st_12 ((coF st_12), (coL st_12), (coS st_12), ((coP st_12) + 1), (coW st_12))) from ⟨ok_12.1, ok_12.2.1, ok_12.2.2.1, ok_12.2.2.2⟩) _ (depth + 1) (f_La_count (sLb st_12)) (fun z => hg (by unfold f_Pa_forRest; rw [if_pos c_1, bnd_r w_2, if_pos c_3, bnd_r w_4, bnd_r w_5, if_neg c_6, bnd_r w_11, bnd_r w_12, bnd_n z]))) hP hD hK hS hA hC hZ hnt hlocks L_560 L_562 L_10 L_87 L_563 k_Pa_statement ⟨(by show _ ≤ fr0 + 8; omega), (by show _ ≤ lo0 + 323; omega)⟩ rfl rfl hl.1 (Nat.le_of_ble_eq_true rfl) d_Pa_forRest_173 rfl (fun q z => by unfold f_Pa_forRest; rw [if_pos c_1, bnd_r w_2, if_pos c_3, bnd_r w_4, bnd_r w_5, if_neg c_6, bnd_r w_11, bnd_r w_12, bnd_l z]) hcl hsl (fun ad_13 st_13 H locs w_13 ok_13 e1_13 e2_13 hP hD hS => ?_)
        have hcl := cl_next hcl e1_13
        have hsl := cl_next hsl e2_13
        refine lv_aload_n hx hb d_Pa_forRest_176 rfl (lv_at hl 0 rfl) ?_
        refine va_get (D := (dC, dI)) (ci := 2) (v := .ref hc) (C := R_Pa) (T := T_Pa) (N := 7) hx hb hts u_Pa hown hK hP 0 rfl rfl 6 (by decide) (hts _ L_221) (fun x9 h9 => u_same (hts _ L_222) x9 h9) rfl d_Pa_forRest_177 ?_
        refine lv_dup hx hb d_Pa_forRest_180 rfl ?_
        refine va_get (D := (dC, dI)) (ci := 0) (v := .int (coP st_13)) (C := R_Co) (T := T_Co) (N := 5) hx hb hts u_Co hown hK hP 1 rfl rfl 3 (by decide) (hts _ L_177) (fun _ h9 => h9) rfl d_Pa_forRest_181 ?_
        refine lv_iconst (v := 1) hx hb d_Pa_forRest_184 (by decide) ?_
        refine lv_isub hx hb d_Pa_forRest_185 ?_
        refine va_put (D := (dC, dI)) (ci := 0) (v := .int ((coP st_13) - 1)) (ty := .int) (C := R_Co) (T := T_Co) (N := 5) hx hb hts u_Co ty_Co tk_Co nm_Co hown hK hP hD hS 1 rfl rfl 3 (by decide) (hts _ L_177) (fun _ h9 => h9) rfl (by decide +kernel) rfl rfl (Nat.le_of_ble_eq_true rfl) d_Pa_forRest_186 (fun H locs hP hD hS => ?_)
        have hP : va_P (dC, dI) cls (wQ cI cZ hp hc h a1 a2 a3 a4 ht hq n1 n2 (ad_13, (setCo st_13 ((coF st_13), (coL st_13), (coS st_13), ((coP st_13) - 1), (coW st_13))))) H := hP
        have hD : va_D A (wQ cI cZ hp hc h a1 a2 a3 a4 ht hq n1 n2 (ad_13, (setCo st_13 ((coF st_13), (coL st_13), (coS st_13), ((coP st_13) - 1), (coW st_13))))) := hD
        refine lv_aload_n hx hb d_Pa_forRest_189 rfl (lv_at hl 0 rfl) ?_
        refine va_get (D := (dC, dI)) (ci := 2) (v := .ref ht) (C := R_Pa) (T := T_Pa) (N := 7) hx hb hts u_Pa hown hK hP 0 rfl rfl 0 (by decide) (hts _ L_208) (fun _ h9 => h9) rfl d_Pa_forRest_190 ?_
        refine lv_iload_n hx hb d_Pa_forRest_193 rfl (lv_at hl 1 rfl) ?_
        refine pT_v (g := (p_close (setCo st_13 ((coF st_13), (coL st_13), (coS st_13), ((coP st_13) - 1), (coW st_13))) made)) (st := (setCo st_13 ((coF st_13), (coL st_13), (coS st_13), ((coP st_13) - 1), (coW st_13)))) (As := [.int made]) (rest := []) ⟨hx, hb, hml, hown, hts0⟩ (m_Tr_close l dC dI cI cZ sa rk ht ad_13 (sTr st_13) ok_13.2.1 _ made) hP hD hK hS hA hC hZ L_582 L_583 L_584 L_85 L_585 ⟨rfl, k_Tr_close⟩ ⟨(by show _ ≤ fr0 + 8; omega), (by show _ ≤ lo0 + 323; omega)⟩ rfl rfl hl.1 (Nat.le_of_ble_eq_true rfl) d_Pa_forRest_194 rfl hcl hsl (Nat.zero_le _) (Nat.zero_le _) (show okSt (setCo st_13 ((coF st_13), (coL st_13), (coS st_13), ((coP st_13) - 1), (coW st_13))) from ⟨ok_13.1, ok_13.2.1, ok_13.2.2.1, ok_13.2.2.2⟩) (t_close_ok made ok_13.2.1) rfl (fun ad_14 st_14 H locs w_14 ok_14 e1_14 e2_14 hP hD hS => ?_)
        have hcl := cl_next hcl e1_14
        have hsl := cl_next hsl e2_14
        exact mx_vret (stF := st_14) hx hb hr hlocks hK hP hD hS hcl hsl (by unfold f_Pa_forRest; rw [if_pos c_1, bnd_r w_2, if_pos c_3, bnd_r w_4, bnd_r w_5, if_neg c_6, bnd_r w_11, bnd_r w_12, bnd_r w_13, bnd_r w_14]) ok_14 d_Pa_forRest_197
    · refine lv_aload_n hx hb d_Pa_forRest_74 rfl (lv_at hl 0 rfl) ?_
      refine va_get (D := (dC, dI)) (ci := 2) (v := .ref ht) (C := R_Pa) (T := T_Pa) (N := 7) hx hb hts u_Pa hown hK hP 0 rfl rfl 0 (by decide) (hts _ L_208) (fun _ h9 => h9) rfl d_Pa_forRest_75 ?_
      refine lv_bipush (v := 59) hx hb d_Pa_forRest_78 (by decide) ?_
      refine lv_iconst (v := 0) hx hb d_Pa_forRest_80 (by decide) ?_
      refine lv_aload_n hx hb d_Pa_forRest_81 rfl (lv_at hl 0 rfl) ?_
      refine va_get (D := (dC, dI)) (ci := 2) (v := .int (sAt st_2)) (C := R_Pa) (T := T_Pa) (N := 7) hx hb hts u_Pa hown hK hP 0 rfl rfl 4 (by decide) (hts _ L_215) (fun x9 h9 => u_same (hts _ L_216) x9 h9) rfl d_Pa_forRest_82 ?_
      have hn_15 : (p_open st_2 59 0 (sAt st_2)) ≠ none := (fun z => hg (by unfold f_Pa_forRest; rw [if_pos c_1, bnd_r w_2, if_neg c_3, bnd_n z]))
      refine pT_i (g := (p_open st_2 59 0 (sAt st_2))) (st := st_2) (As := [.int 59, .int 0, .int (sAt st_2)]) (rest := []) ⟨hx, hb, hml, hown, hts0⟩ (m_Tr_open l dC dI cI cZ sa rk ht ad_2 (sTr st_2) ok_2.2.1 _ 59 0 (sAt st_2) (p_open_c hn_15).1 (p_open_c hn_15).2.1) hP hD hK hS hA hC hZ L_416 L_417 L_418 L_85 L_419 ⟨rfl, k_Tr_open⟩ ⟨(by show _ ≤ fr0 + 8; omega), (by show _ ≤ lo0 + 323; omega)⟩ rfl rfl hl.1 (Nat.le_of_ble_eq_true rfl) d_Pa_forRest_85 rfl hcl hsl (p_open_c hn_15).2.2.1 (p_open_c hn_15).2.2.2 ok_2 (t_open_ok 59 0 (sAt st_2) ok_2.2.1 (p_open_c hn_15).1 (p_open_c hn_15).2.1) (p_open_e hn_15) (fun r_15 ad_15 st_15 H locs w_15 ok_15 e1_15 e2_15 hP hD hS => ?_)
      have hcl := cl_next hcl e1_15
      have hsl := cl_next hsl e2_15
      refine lv_pop hx hb d_Pa_forRest_88 rfl ?_
      refine lv_goto (tgt := 101) hx hb d_Pa_forRest_89 (by decide) ?_
      refine lv_aload_n hx hb d_Pa_forRest_101 rfl (lv_at hl 0 rfl) ?_
      refine lv_bipush (v := 67) hx hb d_Pa_forRest_102 (by decide) ?_
      refine mx_Uv (xm := ⟨"SyntaxTree$Parser", "expect", "(I)V"⟩) (owner := R_Cu) (As := [.int 67]) (rest := []) ⟨hx, hb, hml, hown, hts0⟩ (m_Cu_expect l hlt dC dI cI cZ sa rk hp hc h a1 a2 a3 a4 ht hq n1 n2 ad_15 st_15 ok_15 _ 67 (fun z => hg (by unfold f_Pa_forRest; rw [if_pos c_1, bnd_r w_2, if_neg c_3, bnd_r w_15, bnd_n z]))) hP hD hK hS hA hC hZ hnt hlocks L_510 L_511 L_513 L_514 L_86 L_515 rfl k_Cu_expect ⟨(by show _ ≤ fr0 + 8; omega), (by show _ ≤ lo0 + 323; omega)⟩ rfl rfl hl.1 (Nat.le_of_ble_eq_true rfl) d_Pa_forRest_104 rfl (fun q z => by unfold f_Pa_forRest; rw [if_pos c_1, bnd_r w_2, if_neg c_3, bnd_r w_15, bnd_l z]) hcl hsl (fun ad_16 st_16 H locs w_16 ok_16 e1_16 e2_16 hP hD hS => ?_)
      have hcl := cl_next hcl e1_16
      have hsl := cl_next hsl e2_16
      refine lv_aload_n hx hb d_Pa_forRest_107 rfl (lv_at hl 0 rfl) ?_
      refine lv_bipush (v := 61) hx hb d_Pa_forRest_108 (by decide) ?_
      refine rd_U (xm := ⟨"SyntaxTree$Parser", "atSign", "(I)Z"⟩) (owner := R_Cu) (v := (f_Cu_atSign st_16 61)) (As := [.int 61]) (rest := []) ⟨hx, hb, hml, hown, hts0⟩ (m_Cu_atSign l dC dI cI cZ hp hc h a1 a2 a3 a4 ht ad_16.1 ad_16.2.1 ad_16.2.2.1 ad_16.2.2.2 hq n1 n2 st_16 ok_16 61) hP hK [0, 1, 2, 3, 4, 5, 6, 7, 8, 9, 10, 11, 12, 13, 14] rfl [0, 1] rfl 0 2 rfl rfl L_496 L_497 L_499 L_500 L_86 L_501 rfl k_Cu_atSign ⟨(by show _ ≤ fr0 + 8; omega), (by show _ ≤ lo0 + 323; omega)⟩ hl.1 ⟨Nat.le_trans (Nat.le_add_right _ _) hcl, Nat.le_trans (Nat.le_add_right _ _) hsl⟩ (Nat.le_of_ble_eq_true rfl) d_Pa_forRest_110 rfl ?_
      refine lv_if_eq (tgt := 134) hx hb d_Pa_forRest_113 (by decide) (fun c_17 => ?_) (fun c_17 => ?_)
      · refine lv_aload_n hx hb d_Pa_forRest_134 rfl (lv_at hl 0 rfl) ?_
        refine lv_iconst (v := (-1)) hx hb d_Pa_forRest_135 (by decide) ?_
        refine lv_iload_n hx hb d_Pa_forRest_136 rfl (lv_at hl 2 rfl) ?_
        refine lv_iconst (v := 1) hx hb d_Pa_forRest_137 (by decide) ?_
        refine lv_iadd hx hb d_Pa_forRest_138 ?_
        refine lv_iconst (v := 1) hx hb d_Pa_forRest_139 (by decide) ?_
        refine mx_Vv (As := [.int (-1), .int (depth + 1), .int 1]) (rest := []) ⟨hx, hb, hml, hown, hts0⟩ (hRE hc ad_16 st_16 ok_16 _ (-1) (depth + 1) 1 (fun z => hg (by unfold f_Pa_forRest; rw [if_pos c_1, bnd_r w_2, if_neg c_3, bnd_r w_15, bnd_r w_16, if_pos c_17, bnd_n z]))) hP hD hK hS hA hC hZ hnt hlocks L_569 L_571 L_12 L_87 L_572 k_Pa_expression ⟨(by show _ ≤ fr0 + 8; omega), (by show _ ≤ lo0 + 323; omega)⟩ rfl rfl hl.1 (Nat.le_of_ble_eq_true rfl) d_Pa_forRest_140 rfl (fun q z => by unfold f_Pa_forRest; rw [if_pos c_1, bnd_r w_2, if_neg c_3, bnd_r w_15, bnd_r w_16, if_pos c_17, bnd_l z]) hcl hsl (fun ad_18 st_18 H locs w_18 ok_18 e1_18 e2_18 hP hD hS => ?_)
        have hcl := cl_next hcl e1_18
        have hsl := cl_next hsl e2_18
        refine lv_aload_n hx hb d_Pa_forRest_143 rfl (lv_at hl 0 rfl) ?_
        refine lv_bipush (v := 61) hx hb d_Pa_forRest_144 (by decide) ?_
        refine mx_Uv (xm := ⟨"SyntaxTree$Parser", "expect", "(I)V"⟩) (owner := R_Cu) (As := [.int 61]) (rest := []) ⟨hx, hb, hml, hown, hts0⟩ (m_Cu_expect l hlt dC dI cI cZ sa rk hp hc h a1 a2 a3 a4 ht hq n1 n2 ad_18 st_18 ok_18 _ 61 (fun z => hg (by unfold f_Pa_forRest; rw [if_pos c_1, bnd_r w_2, if_neg c_3, bnd_r w_15, bnd_r w_16, if_pos c_17, bnd_r w_18, bnd_n z]))) hP hD hK hS hA hC hZ hnt hlocks L_510 L_511 L_513 L_514 L_86 L_515 rfl k_Cu_expect ⟨(by show _ ≤ fr0 + 8; omega), (by show _ ≤ lo0 + 323; omega)⟩ rfl rfl hl.1 (Nat.le_of_ble_eq_true rfl) d_Pa_forRest_146 rfl (fun q z => by unfold f_Pa_forRest; rw [if_pos c_1, bnd_r w_2, if_neg c_3, bnd_r w_15, bnd_r w_16, if_pos c_17, bnd_r w_18, bnd_l z]) hcl hsl (fun ad_19 st_19 H locs w_19 ok_19 e1_19 e2_19 hP hD hS => ?_)
        have hcl := cl_next hcl e1_19
        have hsl := cl_next hsl e2_19
        refine lv_aload_n hx hb d_Pa_forRest_149 rfl (lv_at hl 0 rfl) ?_
        refine va_get (D := (dC, dI)) (ci := 2) (v := .ref hc) (C := R_Pa) (T := T_Pa) (N := 7) hx hb hts u_Pa hown hK hP 0 rfl rfl 6 (by decide) (hts _ L_221) (fun x9 h9 => u_same (hts _ L_222) x9 h9) rfl d_Pa_forRest_150 ?_
        refine lv_dup hx hb d_Pa_forRest_153 rfl ?_
        refine va_get (D := (dC, dI)) (ci := 0) (v := .int (coP st_19)) (C := R_Co) (T := T_Co) (N := 5) hx hb hts u_Co hown hK hP 1 rfl rfl 3 (by decide) (hts _ L_177) (fun _ h9 => h9) rfl d_Pa_forRest_154 ?_
        refine lv_iconst (v := 1) hx hb d_Pa_forRest_157 (by decide) ?_
        refine lv_iadd hx hb d_Pa_forRest_158 ?_
        refine va_put (D := (dC, dI)) (ci := 0) (v := .int ((coP st_19) + 1)) (ty := .int) (C := R_Co) (T := T_Co) (N := 5) hx hb hts u_Co ty_Co tk_Co nm_Co hown hK hP hD hS 1 rfl rfl 3 (by decide) (hts _ L_177) (fun _ h9 => h9) rfl (by decide +kernel) rfl rfl (Nat.le_of_ble_eq_true rfl) d_Pa_forRest_159 (fun H locs hP hD hS => ?_)
        have hP : va_P (dC, dI) cls (wQ cI cZ hp hc h a1 a2 a3 a4 ht hq n1 n2 (ad_19, (setCo st_19 ((coF st_19), (coL st_19), (coS st_19), ((coP st_19) + 1), (coW st_19))))) H := hP
        have hD : va_D A (wQ cI cZ hp hc h a1 a2 a3 a4 ht hq n1 n2 (ad_19, (setCo st_19 ((coF st_19), (coL st_19), (coS st_19), ((coP st_19) + 1), (coW st_19))))) := hD
        refine lv_aload_n hx hb d_Pa_forRest_162 rfl (lv_at hl 0 rfl) ?_
        refine lv_iload_n hx hb d_Pa_forRest_163 rfl (lv_at hl 2 rfl) ?_
        refine lv_iconst (v := 1) hx hb d_Pa_forRest_164 (by decide) ?_
        refine lv_iadd hx hb d_Pa_forRest_165 ?_
        refine lv_aload_n hx hb d_Pa_forRest_166 rfl (lv_at hl 0 rfl) ?_
        refine va_get (D := (dC, dI)) (ci := 2) (v := .ref hq) (C := R_Pa) (T := T_Pa) (N := 7) hx hb hts u_Pa hown hK hP 0 rfl rfl 1 (by decide) (hts _ L_209) (fun _ h9 => h9) rfl d_Pa_forRest_167 ?_
        refine rd_V (v := (f_La_count (sLb st_19))) (As := []) (rest := [.int (depth + 1), .ref hp]) ⟨hx, hb, hml, hown, hts0⟩ (m_La_count l dC dI cI cZ hq n1 n2 (sLb st_19) ok_19.2.2.1 ) hP hK [12, 13, 14] rfl [0, 1] rfl 0 1 rfl rfl L_552 L_553 L_554 L_89 L_555 ⟨rfl, k_La_count⟩ ⟨(by show _ ≤ fr0 + 8; omega), (by show _ ≤ lo0 + 323; omega)⟩ hl.1 ⟨Nat.le_trans (Nat.le_add_right _ _) hcl, Nat.le_trans (Nat.le_add_right _ _) hsl⟩ (Nat.le_of_ble_eq_true rfl) d_Pa_forRest_170 rfl ?_
        refine mx_Vv (As := [.int (depth + 1), .int (f_La_count (sLb st_19))]) (rest := []) ⟨hx, hb, hml, hown, hts0⟩ (hRS hc ad_19 (setCo st_19 ((coF st_19), (coL st_19), (coS st_19), ((coP st_19) + 1), (coW st_19))) (show okSt (setCo st_19 ((coF st_19), (coL st_19), (coS st_19), ((coP st_19) + 1), (coW st_19))) from ⟨ok_19.1, ok_19.2.1, ok_19.2.2.1, ok_19.2.2.2⟩) _ (depth + 1) (f_La_count (sLb st_19)) (fun z => hg (by unfold f_Pa_forRest; rw [if_pos c_1, bnd_r w_2, if_neg c_3, bnd_r w_15, bnd_r w_16, if_pos c_17, bnd_r w_18, bnd_r w_19, bnd_n z]))) hP hD hK hS hA hC hZ hnt hlocks L_560 L_562 L_10 L_87 L_563 k_Pa_statement ⟨(by show _ ≤ fr0 + 8; omega), (by show _ ≤ lo0 + 323; omega)⟩ rfl rfl hl.1 (Nat.le_of_ble_eq_true rfl) d_Pa_forRest_173 rfl (fun q z => by unfold f_Pa_forRest; rw [if_pos c_1, bnd_r w_2, if_neg c_3, bnd_r w_15, bnd_r w_16, if_pos c_17, bnd_r w_18, bnd_r w_19, bnd_l z]) hcl hsl (fun ad_20 st_20 H locs w_20 ok_20 e1_20 e2_20 hP hD hS => ?_)
        have hcl := cl_next hcl e1_20
        have hsl := cl_next hsl e2_20
        refine lv_aload_n hx hb d_Pa_forRest_176 rfl (lv_at hl 0 rfl) ?_
        refine va_get (D := (dC, dI)) (ci := 2) (v := .ref hc) (C := R_Pa) (T := T_Pa) (N := 7) hx hb hts u_Pa hown hK hP 0 rfl rfl 6 (by decide) (hts _ L_221) (fun x9 h9 => u_same (hts _ L_222) x9 h9) rfl d_Pa_forRest_177 ?_
        refine lv_dup hx hb d_Pa_forRest_180 rfl ?_
        refine va_get (D := (dC, dI)) (ci := 0) (v := .int (coP st_20)) (C := R_Co) (T := T_Co) (N := 5) hx hb hts u_Co hown hK hP 1 rfl rfl 3 (by decide) (hts _ L_177) (fun _ h9 => h9) rfl d_Pa_forRest_181 ?_
        refine lv_iconst (v := 1) hx hb d_Pa_forRest_184 (by decide) ?_
        refine lv_isub hx hb d_Pa_forRest_185 ?_
        refine va_put (D := (dC, dI)) (ci := 0) (v := .int ((coP st_20) - 1)) (ty := .int) (C := R_Co) (T := T_Co) (N := 5) hx hb hts u_Co ty_Co tk_Co nm_Co hown hK hP hD hS 1 rfl rfl 3 (by decide) (hts _ L_177) (fun _ h9 => h9) rfl (by decide +kernel) rfl rfl (Nat.le_of_ble_eq_true rfl) d_Pa_forRest_186 (fun H locs hP hD hS => ?_)
        have hP : va_P (dC, dI) cls (wQ cI cZ hp hc h a1 a2 a3 a4 ht hq n1 n2 (ad_20, (setCo st_20 ((coF st_20), (coL st_20), (coS st_20), ((coP st_20) - 1), (coW st_20))))) H := hP
        have hD : va_D A (wQ cI cZ hp hc h a1 a2 a3 a4 ht hq n1 n2 (ad_20, (setCo st_20 ((coF st_20), (coL st_20), (coS st_20), ((coP st_20) - 1), (coW st_20))))) := hD
        refine lv_aload_n hx hb d_Pa_forRest_189 rfl (lv_at hl 0 rfl) ?_
        refine va_get (D := (dC, dI)) (ci := 2) (v := .ref ht) (C := R_Pa) (T := T_Pa) (N := 7) hx hb hts u_Pa hown hK hP 0 rfl rfl 0 (by decide) (hts _ L_208) (fun _ h9 => h9) rfl d_Pa_forRest_190 ?_
        refine lv_iload_n hx hb d_Pa_forRest_193 rfl (lv_at hl 1 rfl) ?_
        refine pT_v (g := (p_close (setCo st_20 ((coF st_20), (coL st_20), (coS st_20), ((coP st_20) - 1), (coW st_20))) made)) (st := (setCo st_20 ((coF st_20), (coL st_20), (coS st_20), ((coP st_20) - 1), (coW st_20)))) (As := [.int made]) (rest := []) ⟨hx, hb, hml, hown, hts0⟩ (m_Tr_close l dC dI cI cZ sa rk ht ad_20 (sTr st_20) ok_20.2.1 _ made) hP hD hK hS hA hC hZ L_582 L_583 L_584 L_85 L_585 ⟨rfl, k_Tr_close⟩ ⟨(by show _ ≤ fr0 + 8; omega), (by show _ ≤ lo0 + 323; omega)⟩ rfl rfl hl.1 (Nat.le_of_ble_eq_true rfl) d_Pa_forRest_194 rfl hcl hsl (Nat.zero_le _) (Nat.zero_le _) (show okSt (setCo st_20 ((coF st_20), (coL st_20), (coS st_20), ((coP st_20) - 1), (coW st_20))) from ⟨ok_20.1, ok_20.2.1, ok_20.2.2.1, ok_20.2.2.2⟩) (t_close_ok made ok_20.2.1) rfl (fun ad_21 st_21 H locs w_21 ok_21 e1_21 e2_21 hP hD hS => ?_)
        have hcl := cl_next hcl e1_21
        have hsl := cl_next hsl e2_21
        exact mx_vret (stF := st_21) hx hb hr hlocks hK hP hD hS hcl hsl (by unfold f_Pa_forRest; rw [if_pos c_1, bnd_r w_2, if_neg c_3, bnd_r w_15, bnd_r w_16, if_pos c_17, bnd_r w_18, bnd_r w_19, bnd_r w_20, bnd_r w_21]) ok_21 d_Pa_forRest_197
      · refine lv_aload_n hx hb d_Pa_forRest_116 rfl (lv_at hl 0 rfl) ?_
        refine va_get (D := (dC, dI)) (ci := 2) (v := .ref ht) (C := R_Pa) (T := T_Pa) (N := 7) hx hb hts u_Pa hown hK hP 0 rfl rfl 0 (by decide) (hts _ L_208) (fun _ h9 => h9) rfl d_Pa_forRest_117 ?_
        refine lv_bipush (v := 59) hx hb d_Pa_forRest_120 (by decide) ?_
        refine lv_iconst (v := 0) hx hb d_Pa_forRest_122 (by decide) ?_
        refine lv_aload_n hx hb d_Pa_forRest_123 rfl (lv_at hl 0 rfl) ?_
        refine va_get (D := (dC, dI)) (ci := 2) (v := .int (sAt st_16)) (C := R_Pa) (T := T_Pa) (N := 7) hx hb hts u_Pa hown hK hP 0 rfl rfl 4 (by decide) (hts _ L_215) (fun x9 h9 => u_same (hts _ L_216) x9 h9) rfl d_Pa_forRest_124 ?_
        have hn_22 : (p_open st_16 59 0 (sAt st_16)) ≠ none := (fun z => hg (by unfold f_Pa_forRest; rw [if_pos c_1, bnd_r w_2, if_neg c_3, bnd_r w_15, bnd_r w_16, if_neg c_17, bnd_n z]))
        refine pT_i (g := (p_open st_16 59 0 (sAt st_16))) (st := st_16) (As := [.int 59, .int 0, .int (sAt st_16)]) (rest := []) ⟨hx, hb, hml, hown, hts0⟩ (m_Tr_open l dC dI cI cZ sa rk ht ad_16 (sTr st_16) ok_16.2.1 _ 59 0 (sAt st_16) (p_open_c hn_22).1 (p_open_c hn_22).2.1) hP hD hK hS hA hC hZ L_416 L_417 L_418 L_85 L_419 ⟨rfl, k_Tr_open⟩ ⟨(by show _ ≤ fr0 + 8; omega), (by show _ ≤ lo0 + 323; omega)⟩ rfl rfl hl.1 (Nat.le_of_ble_eq_true rfl) d_Pa_forRest_127 rfl hcl hsl (p_open_c hn_22).2.2.1 (p_open_c hn_22).2.2.2 ok_16 (t_open_ok 59 0 (sAt st_16) ok_16.2.1 (p_open_c hn_22).1 (p_open_c hn_22).2.1) (p_open_e hn_22) (fun r_22 ad_22 st_22 H locs w_22 ok_22 e1_22 e2_22 hP hD hS => ?_)
        have hcl := cl_next hcl e1_22
        have hsl := cl_next hsl e2_22
        refine lv_pop hx hb d_Pa_forRest_130 rfl ?_
        refine lv_goto (tgt := 143) hx hb d_Pa_forRest_131 (by decide) ?_
        refine lv_aload_n hx hb d_Pa_forRest_143 rfl (lv_at hl 0 rfl) ?_
        refine lv_bipush (v := 61) hx hb d_Pa_forRest_144 (by decide) ?_
        refine mx_Uv (xm := ⟨"SyntaxTree$Parser", "expect", "(I)V"⟩) (owner := R_Cu) (As := [.int 61]) (rest := []) ⟨hx, hb, hml, hown, hts0⟩ (m_Cu_expect l hlt dC dI cI cZ sa rk hp hc h a1 a2 a3 a4 ht hq n1 n2 ad_22 st_22 ok_22 _ 61 (fun z => hg (by unfold f_Pa_forRest; rw [if_pos c_1, bnd_r w_2, if_neg c_3, bnd_r w_15, bnd_r w_16, if_neg c_17, bnd_r w_22, bnd_n z]))) hP hD hK hS hA hC hZ hnt hlocks L_510 L_511 L_513 L_514 L_86 L_515 rfl k_Cu_expect ⟨(by show _ ≤ fr0 + 8; omega), (by show _ ≤ lo0 + 323; omega)⟩ rfl rfl hl.1 (Nat.le_of_ble_eq_true rfl) d_Pa_forRest_146 rfl (fun q z => by unfold f_Pa_forRest; rw [if_pos c_1, bnd_r w_2, if_neg c_3, bnd_r w_15, bnd_r w_16, if_neg c_17, bnd_r w_22, bnd_l z]) hcl hsl (fun ad_23 st_23 H locs w_23 ok_23 e1_23 e2_23 hP hD hS => ?_)
        have hcl := cl_next hcl e1_23
        have hsl := cl_next hsl e2_23
        refine lv_aload_n hx hb d_Pa_forRest_149 rfl (lv_at hl 0 rfl) ?_
        refine va_get (D := (dC, dI)) (ci := 2) (v := .ref hc) (C := R_Pa) (T := T_Pa) (N := 7) hx hb hts u_Pa hown hK hP 0 rfl rfl 6 (by decide) (hts _ L_221) (fun x9 h9 => u_same (hts _ L_222) x9 h9) rfl d_Pa_forRest_150 ?_
        refine lv_dup hx hb d_Pa_forRest_153 rfl ?_
        refine va_get (D := (dC, dI)) (ci := 0) (v := .int (coP st_23)) (C := R_Co) (T := T_Co) (N := 5) hx hb hts u_Co hown hK hP 1 rfl rfl 3 (by decide) (hts _ L_177) (fun _ h9 => h9) rfl d_Pa_forRest_154 ?_
        refine lv_iconst (v := 1) hx hb d_Pa_forRest_157 (by decide) ?_
        refine lv_iadd hx hb d_Pa_forRest_158 ?_
        refine va_put (D := (dC, dI)) (ci := 0) (v := .int ((coP st_23) + 1)) (ty := .int) (C := R_Co) (T := T_Co) (N := 5) hx hb hts u_Co ty_Co tk_Co nm_Co hown hK hP hD hS 1 rfl rfl 3 (by decide) (hts _ L_177) (fun _ h9 => h9) rfl (by decide +kernel) rfl rfl (Nat.le_of_ble_eq_true rfl) d_Pa_forRest_159 (fun H locs hP hD hS => ?_)
        have hP : va_P (dC, dI) cls (wQ cI cZ hp hc h a1 a2 a3 a4 ht hq n1 n2 (ad_23, (setCo st_23 ((coF st_23), (coL st_23), (coS st_23), ((coP st_23) + 1), (coW st_23))))) H := hP
        have hD : va_D A (wQ cI cZ hp hc h a1 a2 a3 a4 ht hq n1 n2 (ad_23, (setCo st_23 ((coF st_23), (coL st_23), (coS st_23), ((coP st_23) + 1), (coW st_23))))) := hD
        refine lv_aload_n hx hb d_Pa_forRest_162 rfl (lv_at hl 0 rfl) ?_
        refine lv_iload_n hx hb d_Pa_forRest_163 rfl (lv_at hl 2 rfl) ?_
        refine lv_iconst (v := 1) hx hb d_Pa_forRest_164 (by decide) ?_
        refine lv_iadd hx hb d_Pa_forRest_165 ?_
        refine lv_aload_n hx hb d_Pa_forRest_166 rfl (lv_at hl 0 rfl) ?_
        refine va_get (D := (dC, dI)) (ci := 2) (v := .ref hq) (C := R_Pa) (T := T_Pa) (N := 7) hx hb hts u_Pa hown hK hP 0 rfl rfl 1 (by decide) (hts _ L_209) (fun _ h9 => h9) rfl d_Pa_forRest_167 ?_
        refine rd_V (v := (f_La_count (sLb st_23))) (As := []) (rest := [.int (depth + 1), .ref hp]) ⟨hx, hb, hml, hown, hts0⟩ (m_La_count l dC dI cI cZ hq n1 n2 (sLb st_23) ok_23.2.2.1 ) hP hK [12, 13, 14] rfl [0, 1] rfl 0 1 rfl rfl L_552 L_553 L_554 L_89 L_555 ⟨rfl, k_La_count⟩ ⟨(by show _ ≤ fr0 + 8; omega), (by show _ ≤ lo0 + 323; omega)⟩ hl.1 ⟨Nat.le_trans (Nat.le_add_right _ _) hcl, Nat.le_trans (Nat.le_add_right _ _) hsl⟩ (Nat.le_of_ble_eq_true rfl) d_Pa_forRest_170 rfl ?_
        refine mx_Vv (As := [.int (depth + 1), .int (f_La_count (sLb st_23))]) (rest := []) ⟨hx, hb, hml, hown, hts0⟩ (hRS hc ad_23 (setCo st_23 ((coF st_23), (coL st_23), (coS st_23), ((coP st_23) + 1), (coW st_23))) (show okSt (setCo st_23 ((coF st_23), (coL st_23), (coS st_23), ((coP st_23) + 1), (coW st_23))) from ⟨ok_23.1, ok_23.2.1, ok_23.2.2.1, ok_23.2.2.2⟩) _ (depth + 1) (f_La_count (sLb st_23)) (fun z => hg (by unfold f_Pa_forRest; rw [if_pos c_1, bnd_r w_2, if_neg c_3, bnd_r w_15, bnd_r w_16, if_neg c_17, bnd_r w_22, bnd_r w_23, bnd_n z]))) hP hD hK hS hA hC hZ hnt hlocks L_560 L_562 L_10 L_87 L_563 k_Pa_statement ⟨(by show _ ≤ fr0 + 8; omega), (by show _ ≤ lo0 + 323; omega)⟩ rfl rfl hl.1 (Nat.le_of_ble_eq_true rfl) d_Pa_forRest_173 rfl (fun q z => by unfold f_Pa_forRest; rw [if_pos c_1, bnd_r w_2, if_neg c_3, bnd_r w_15, bnd_r w_16, if_neg c_17, bnd_r w_22, bnd_r w_23, bnd_l z]) hcl hsl (fun ad_24 st_24 H locs w_24 ok_24 e1_24 e2_24 hP hD hS => ?_)
        have hcl := cl_next hcl e1_24
        have hsl := cl_next hsl e2_24
        refine lv_aload_n hx hb d_Pa_forRest_176 rfl (lv_at hl 0 rfl) ?_
        refine va_get (D := (dC, dI)) (ci := 2) (v := .ref hc) (C := R_Pa) (T := T_Pa) (N := 7) hx hb hts u_Pa hown hK hP 0 rfl rfl 6 (by decide) (hts _ L_221) (fun x9 h9 => u_same (hts _ L_222) x9 h9) rfl d_Pa_forRest_177 ?_
        refine lv_dup hx hb d_Pa_forRest_180 rfl ?_
        refine va_get (D := (dC, dI)) (ci := 0) (v := .int (coP st_24)) (C := R_Co) (T := T_Co) (N := 5) hx hb hts u_Co hown hK hP 1 rfl rfl 3 (by decide) (hts _ L_177) (fun _ h9 => h9) rfl d_Pa_forRest_181 ?_
        refine lv_iconst (v := 1) hx hb d_Pa_forRest_184 (by decide) ?_
        refine lv_isub hx hb d_Pa_forRest_185 ?_
        refine va_put (D := (dC, dI)) (ci := 0) (v := .int ((coP st_24) - 1)) (ty := .int) (C := R_Co) (T := T_Co) (N := 5) hx hb hts u_Co ty_Co tk_Co nm_Co hown hK hP hD hS 1 rfl rfl 3 (by decide) (hts _ L_177) (fun _ h9 => h9) rfl (by decide +kernel) rfl rfl (Nat.le_of_ble_eq_true rfl) d_Pa_forRest_186 (fun H locs hP hD hS => ?_)
        have hP : va_P (dC, dI) cls (wQ cI cZ hp hc h a1 a2 a3 a4 ht hq n1 n2 (ad_24, (setCo st_24 ((coF st_24), (coL st_24), (coS st_24), ((coP st_24) - 1), (coW st_24))))) H := hP
        have hD : va_D A (wQ cI cZ hp hc h a1 a2 a3 a4 ht hq n1 n2 (ad_24, (setCo st_24 ((coF st_24), (coL st_24), (coS st_24), ((coP st_24) - 1), (coW st_24))))) := hD
        refine lv_aload_n hx hb d_Pa_forRest_189 rfl (lv_at hl 0 rfl) ?_
        refine va_get (D := (dC, dI)) (ci := 2) (v := .ref ht) (C := R_Pa) (T := T_Pa) (N := 7) hx hb hts u_Pa hown hK hP 0 rfl rfl 0 (by decide) (hts _ L_208) (fun _ h9 => h9) rfl d_Pa_forRest_190 ?_
        refine lv_iload_n hx hb d_Pa_forRest_193 rfl (lv_at hl 1 rfl) ?_
        refine pT_v (g := (p_close (setCo st_24 ((coF st_24), (coL st_24), (coS st_24), ((coP st_24) - 1), (coW st_24))) made)) (st := (setCo st_24 ((coF st_24), (coL st_24), (coS st_24), ((coP st_24) - 1), (coW st_24)))) (As := [.int made]) (rest := []) ⟨hx, hb, hml, hown, hts0⟩ (m_Tr_close l dC dI cI cZ sa rk ht ad_24 (sTr st_24) ok_24.2.1 _ made) hP hD hK hS hA hC hZ L_582 L_583 L_584 L_85 L_585 ⟨rfl, k_Tr_close⟩ ⟨(by show _ ≤ fr0 + 8; omega), (by show _ ≤ lo0 + 323; omega)⟩ rfl rfl hl.1 (Nat.le_of_ble_eq_true rfl) d_Pa_forRest_194 rfl hcl hsl (Nat.zero_le _) (Nat.zero_le _) (show okSt (setCo st_24 ((coF st_24), (coL st_24), (coS st_24), ((coP st_24) - 1), (coW st_24))) from ⟨ok_24.1, ok_24.2.1, ok_24.2.2.1, ok_24.2.2.2⟩) (t_close_ok made ok_24.2.1) rfl (fun ad_25 st_25 H locs w_25 ok_25 e1_25 e2_25 hP hD hS => ?_)
        have hcl := cl_next hcl e1_25
        have hsl := cl_next hsl e2_25
        exact mx_vret (stF := st_25) hx hb hr hlocks hK hP hD hS hcl hsl (by unfold f_Pa_forRest; rw [if_pos c_1, bnd_r w_2, if_neg c_3, bnd_r w_15, bnd_r w_16, if_neg c_17, bnd_r w_22, bnd_r w_23, bnd_r w_24, bnd_r w_25]) ok_25 d_Pa_forRest_197
  · refine lv_aload_n hx hb d_Pa_forRest_9 rfl (lv_at hl 0 rfl) ?_
    refine lv_iload_n hx hb d_Pa_forRest_10 rfl (lv_at hl 1 rfl) ?_
    refine lv_iconst (v := 1) hx hb d_Pa_forRest_11 (by decide) ?_
    refine lv_iadd hx hb d_Pa_forRest_12 ?_
    refine mx_Vi (As := [.int (made + 1)]) (rest := []) ⟨hx, hb, hml, hown, hts0⟩ (m_Pa_mayTakeKeys l hlt dC dI cI cZ sa rk hp hc h a1 a2 a3 a4 ht hq n1 n2 ad st hst _ (made + 1) (fun z => hg (by unfold f_Pa_forRest; rw [if_neg c_1, bnd_n z]))) hP hD hK hS hA hC hZ hnt hlocks L_758 L_760 L_40 L_87 L_761 k_Pa_mayTakeKeys ⟨(by show _ ≤ fr0 + 8; omega), (by show _ ≤ lo0 + 323; omega)⟩ rfl rfl hl.1 (Nat.le_of_ble_eq_true rfl) d_Pa_forRest_13 rfl (fun q z => by unfold f_Pa_forRest; rw [if_neg c_1, bnd_l z]) hcl hsl (fun r_26 ad_26 st_26 H locs w_26 ok_26 e1_26 e2_26 hP hD hS => ?_)
    have hcl := cl_next hcl e1_26
    have hsl := cl_next hsl e2_26
    refine lv_if_ne (tgt := 27) hx hb d_Pa_forRest_16 (by decide) (fun c_27 => ?_) (fun c_27 => ?_)
    · refine lv_aload_n hx hb d_Pa_forRest_27 rfl (lv_at hl 0 rfl) ?_
      refine va_get (D := (dC, dI)) (ci := 2) (v := .ref ht) (C := R_Pa) (T := T_Pa) (N := 7) hx hb hts u_Pa hown hK hP 0 rfl rfl 0 (by decide) (hts _ L_208) (fun _ h9 => h9) rfl d_Pa_forRest_28 ?_
      refine lv_iload_n hx hb d_Pa_forRest_31 rfl (lv_at hl 1 rfl) ?_
      refine lv_bipush (v := 10) hx hb d_Pa_forRest_32 (by decide) ?_
      refine pT_v (g := (p_setKind st_26 made 10)) (st := st_26) (As := [.int made, .int 10]) (rest := []) ⟨hx, hb, hml, hown, hts0⟩ (m_Tr_setKind l dC dI cI cZ sa rk ht ad_26 (sTr st_26) ok_26.2.1 _ made 10) hP hD hK hS hA hC hZ L_767 L_768 L_769 L_85 L_770 ⟨rfl, k_Tr_setKind⟩ ⟨(by show _ ≤ fr0 + 8; omega), (by show _ ≤ lo0 + 323; omega)⟩ rfl rfl hl.1 (Nat.le_of_ble_eq_true rfl) d_Pa_forRest_34 rfl hcl hsl (Nat.zero_le _) (Nat.zero_le _) ok_26 (t_setKind_ok made 10 ok_26.2.1) rfl (fun ad_28 st_28 H locs w_28 ok_28 e1_28 e2_28 hP hD hS => ?_)
      have hcl := cl_next hcl e1_28
      have hsl := cl_next hsl e2_28
      refine lv_aload_n hx hb d_Pa_forRest_37 rfl (lv_at hl 0 rfl) ?_
      refine lv_dup hx hb d_Pa_forRest_38 rfl ?_
      refine va_get (D := (dC, dI)) (ci := 2) (v := .int (sAt st_28)) (C := R_Pa) (T := T_Pa) (N := 7) hx hb hts u_Pa hown hK hP 0 rfl rfl 4 (by decide) (hts _ L_215) (fun x9 h9 => u_same (hts _ L_216) x9 h9) rfl d_Pa_forRest_39 ?_
      refine lv_iconst (v := 1) hx hb d_Pa_forRest_42 (by decide) ?_
      refine lv_iadd hx hb d_Pa_forRest_43 ?_
      refine va_put (D := (dC, dI)) (ci := 2) (v := .int ((sAt st_28) + 1)) (ty := .int) (C := R_Pa) (T := T_Pa) (N := 7) hx hb hts u_Pa ty_Pa tk_Pa nm_Pa hown hK hP hD hS 0 rfl rfl 4 (by decide) (hts _ L_215) (fun x9 h9 => u_same (hts _ L_216) x9 h9) rfl (by decide +kernel) rfl rfl (Nat.le_of_ble_eq_true rfl) d_Pa_forRest_44 (fun H locs hP hD hS => ?_)
      have hP : va_P (dC, dI) cls (wQ cI cZ hp hc h a1 a2 a3 a4 ht hq n1 n2 (ad_28, (setAt st_28 ((sAt st_28) + 1)))) H := hP
      have hD : va_D A (wQ cI cZ hp hc h a1 a2 a3 a4 ht hq n1 n2 (ad_28, (setAt st_28 ((sAt st_28) + 1)))) := hD
      refine lv_aload_n hx hb d_Pa_forRest_47 rfl (lv_at hl 0 rfl) ?_
      refine lv_iconst (v := (-1)) hx hb d_Pa_forRest_48 (by decide) ?_
      refine lv_iload_n hx hb d_Pa_forRest_49 rfl (lv_at hl 2 rfl) ?_
      refine lv_iconst (v := 1) hx hb d_Pa_forRest_50 (by decide) ?_
      refine lv_iadd hx hb d_Pa_forRest_51 ?_
      refine lv_iconst (v := 1) hx hb d_Pa_forRest_52 (by decide) ?_
      refine mx_Vv (As := [.int (-1), .int (depth + 1), .int 1]) (rest := []) ⟨hx, hb, hml, hown, hts0⟩ (hRE hc ad_28 (setAt st_28 ((sAt st_28) + 1)) (show okSt (setAt st_28 ((sAt st_28) + 1)) from ⟨ok_28.1, ok_28.2.1, ok_28.2.2.1, ok_28.2.2.2⟩) _ (-1) (depth + 1) 1 (fun z => hg (by unfold f_Pa_forRest; rw [if_neg c_1, bnd_r w_26, if_neg c_27, bnd_r w_28, bnd_n z]))) hP hD hK hS hA hC hZ hnt hlocks L_569 L_571 L_12 L_87 L_572 k_Pa_expression ⟨(by show _ ≤ fr0 + 8; omega), (by show _ ≤ lo0 + 323; omega)⟩ rfl rfl hl.1 (Nat.le_of_ble_eq_true rfl) d_Pa_forRest_53 rfl (fun q z => by unfold f_Pa_forRest; rw [if_neg c_1, bnd_r w_26, if_neg c_27, bnd_r w_28, bnd_l z]) hcl hsl (fun ad_29 st_29 H locs w_29 ok_29 e1_29 e2_29 hP hD hS => ?_)
      have hcl := cl_next hcl e1_29
      have hsl := cl_next hsl e2_29
      refine lv_goto (tgt := 143) hx hb d_Pa_forRest_56 (by decide) ?_
      refine lv_aload_n hx hb d_Pa_forRest_143 rfl (lv_at hl 0 rfl) ?_
      refine lv_bipush (v := 61) hx hb d_Pa_forRest_144 (by decide) ?_
      refine mx_Uv (xm := ⟨"SyntaxTree$Parser", "expect", "(I)V"⟩) (owner := R_Cu) (As := [.int 61]) (rest := []) ⟨hx, hb, hml, hown, hts0⟩ (m_Cu_expect l hlt dC dI cI cZ sa rk hp hc h a1 a2 a3 a4 ht hq n1 n2 ad_29 st_29 ok_29 _ 61 (fun z => hg (by unfold f_Pa_forRest; rw [if_neg c_1, bnd_r w_26, if_neg c_27, bnd_r w_28, bnd_r w_29, bnd_n z]))) hP hD hK hS hA hC hZ hnt hlocks L_510 L_511 L_513 L_514 L_86 L_515 rfl k_Cu_expect ⟨(by show _ ≤ fr0 + 8; omega), (by show _ ≤ lo0 + 323; omega)⟩ rfl rfl hl.1 (Nat.le_of_ble_eq_true rfl) d_Pa_forRest_146 rfl (fun q z => by unfold f_Pa_forRest; rw [if_neg c_1, bnd_r w_26, if_neg c_27, bnd_r w_28, bnd_r w_29, bnd_l z]) hcl hsl (fun ad_30 st_30 H locs w_30 ok_30 e1_30 e2_30 hP hD hS => ?_)
      have hcl := cl_next hcl e1_30
      have hsl := cl_next hsl e2_30
      refine lv_aload_n hx hb d_Pa_forRest_149 rfl (lv_at hl 0 rfl) ?_
      refine va_get (D := (dC, dI)) (ci := 2) (v := .ref hc) (C := R_Pa) (T := T_Pa) (N := 7) hx hb hts u_Pa hown hK hP 0 rfl rfl 6 (by decide) (hts _ L_221) (fun x9 h9 => u_same (hts _ L_222) x9 h9) rfl d_Pa_forRest_150 ?_
      refine lv_dup hx hb d_Pa_forRest_153 rfl ?_
      refine va_get (D := (dC, dI)) (ci := 0) (v := .int (coP st_30)) (C := R_Co) (T := T_Co) (N := 5) hx hb hts u_Co hown hK hP 1 rfl rfl 3 (by decide) (hts _ L_177) (fun _ h9 => h9) rfl d_Pa_forRest_154 ?_
      refine lv_iconst (v := 1) hx hb d_Pa_forRest_157 (by decide) ?_
      refine lv_iadd hx hb d_Pa_forRest_158 ?_
      refine va_put (D := (dC, dI)) (ci := 0) (v := .int ((coP st_30) + 1)) (ty := .int) (C := R_Co) (T := T_Co) (N := 5) hx hb hts u_Co ty_Co tk_Co nm_Co hown hK hP hD hS 1 rfl rfl 3 (by decide) (hts _ L_177) (fun _ h9 => h9) rfl (by decide +kernel) rfl rfl (Nat.le_of_ble_eq_true rfl) d_Pa_forRest_159 (fun H locs hP hD hS => ?_)
      have hP : va_P (dC, dI) cls (wQ cI cZ hp hc h a1 a2 a3 a4 ht hq n1 n2 (ad_30, (setCo st_30 ((coF st_30), (coL st_30), (coS st_30), ((coP st_30) + 1), (coW st_30))))) H := hP
      have hD : va_D A (wQ cI cZ hp hc h a1 a2 a3 a4 ht hq n1 n2 (ad_30, (setCo st_30 ((coF st_30), (coL st_30), (coS st_30), ((coP st_30) + 1), (coW st_30))))) := hD
      refine lv_aload_n hx hb d_Pa_forRest_162 rfl (lv_at hl 0 rfl) ?_
      refine lv_iload_n hx hb d_Pa_forRest_163 rfl (lv_at hl 2 rfl) ?_
      refine lv_iconst (v := 1) hx hb d_Pa_forRest_164 (by decide) ?_
      refine lv_iadd hx hb d_Pa_forRest_165 ?_
      refine lv_aload_n hx hb d_Pa_forRest_166 rfl (lv_at hl 0 rfl) ?_
      refine va_get (D := (dC, dI)) (ci := 2) (v := .ref hq) (C := R_Pa) (T := T_Pa) (N := 7) hx hb hts u_Pa hown hK hP 0 rfl rfl 1 (by decide) (hts _ L_209) (fun _ h9 => h9) rfl d_Pa_forRest_167 ?_
      refine rd_V (v := (f_La_count (sLb st_30))) (As := []) (rest := [.int (depth + 1), .ref hp]) ⟨hx, hb, hml, hown, hts0⟩ (m_La_count l dC dI cI cZ hq n1 n2 (sLb st_30) ok_30.2.2.1 ) hP hK [12, 13, 14] rfl [0, 1] rfl 0 1 rfl rfl L_552 L_553 L_554 L_89 L_555 ⟨rfl, k_La_count⟩ ⟨(by show _ ≤ fr0 + 8; omega), (by show _ ≤ lo0 + 323; omega)⟩ hl.1 ⟨Nat.le_trans (Nat.le_add_right _ _) hcl, Nat.le_trans (Nat.le_add_right _ _) hsl⟩ (Nat.le_of_ble_eq_true rfl) d_Pa_forRest_170 rfl ?_
      refine mx_Vv (As := [.int (depth + 1), .int (f_La_count (sLb st_30))]) (rest := []) ⟨hx, hb, hml, hown, hts0⟩ (hRS hc ad_30 (setCo st_30 ((coF st_30), (coL st_30), (coS st_30), ((coP st_30) + 1), (coW st_30))) (show okSt (setCo st_30 ((coF st_30), (coL st_30), (coS st_30), ((coP st_30) + 1), (coW st_30))) from ⟨ok_30.1, ok_30.2.1, ok_30.2.2.1, ok_30.2.2.2⟩) _ (depth + 1) (f_La_count (sLb st_30)) (fun z => hg (by unfold f_Pa_forRest; rw [if_neg c_1, bnd_r w_26, if_neg c_27, bnd_r w_28, bnd_r w_29, bnd_r w_30, bnd_n z]))) hP hD hK hS hA hC hZ hnt hlocks L_560 L_562 L_10 L_87 L_563 k_Pa_statement ⟨(by show _ ≤ fr0 + 8; omega), (by show _ ≤ lo0 + 323; omega)⟩ rfl rfl hl.1 (Nat.le_of_ble_eq_true rfl) d_Pa_forRest_173 rfl (fun q z => by unfold f_Pa_forRest; rw [if_neg c_1, bnd_r w_26, if_neg c_27, bnd_r w_28, bnd_r w_29, bnd_r w_30, bnd_l z]) hcl hsl (fun ad_31 st_31 H locs w_31 ok_31 e1_31 e2_31 hP hD hS => ?_)
      have hcl := cl_next hcl e1_31
      have hsl := cl_next hsl e2_31
      refine lv_aload_n hx hb d_Pa_forRest_176 rfl (lv_at hl 0 rfl) ?_
      refine va_get (D := (dC, dI)) (ci := 2) (v := .ref hc) (C := R_Pa) (T := T_Pa) (N := 7) hx hb hts u_Pa hown hK hP 0 rfl rfl 6 (by decide) (hts _ L_221) (fun x9 h9 => u_same (hts _ L_222) x9 h9) rfl d_Pa_forRest_177 ?_
      refine lv_dup hx hb d_Pa_forRest_180 rfl ?_
      refine va_get (D := (dC, dI)) (ci := 0) (v := .int (coP st_31)) (C := R_Co) (T := T_Co) (N := 5) hx hb hts u_Co hown hK hP 1 rfl rfl 3 (by decide) (hts _ L_177) (fun _ h9 => h9) rfl d_Pa_forRest_181 ?_
      refine lv_iconst (v := 1) hx hb d_Pa_forRest_184 (by decide) ?_
      refine lv_isub hx hb d_Pa_forRest_185 ?_
      refine va_put (D := (dC, dI)) (ci := 0) (v := .int ((coP st_31) - 1)) (ty := .int) (C := R_Co) (T := T_Co) (N := 5) hx hb hts u_Co ty_Co tk_Co nm_Co hown hK hP hD hS 1 rfl rfl 3 (by decide) (hts _ L_177) (fun _ h9 => h9) rfl (by decide +kernel) rfl rfl (Nat.le_of_ble_eq_true rfl) d_Pa_forRest_186 (fun H locs hP hD hS => ?_)
      have hP : va_P (dC, dI) cls (wQ cI cZ hp hc h a1 a2 a3 a4 ht hq n1 n2 (ad_31, (setCo st_31 ((coF st_31), (coL st_31), (coS st_31), ((coP st_31) - 1), (coW st_31))))) H := hP
      have hD : va_D A (wQ cI cZ hp hc h a1 a2 a3 a4 ht hq n1 n2 (ad_31, (setCo st_31 ((coF st_31), (coL st_31), (coS st_31), ((coP st_31) - 1), (coW st_31))))) := hD
      refine lv_aload_n hx hb d_Pa_forRest_189 rfl (lv_at hl 0 rfl) ?_
      refine va_get (D := (dC, dI)) (ci := 2) (v := .ref ht) (C := R_Pa) (T := T_Pa) (N := 7) hx hb hts u_Pa hown hK hP 0 rfl rfl 0 (by decide) (hts _ L_208) (fun _ h9 => h9) rfl d_Pa_forRest_190 ?_
      refine lv_iload_n hx hb d_Pa_forRest_193 rfl (lv_at hl 1 rfl) ?_
      refine pT_v (g := (p_close (setCo st_31 ((coF st_31), (coL st_31), (coS st_31), ((coP st_31) - 1), (coW st_31))) made)) (st := (setCo st_31 ((coF st_31), (coL st_31), (coS st_31), ((coP st_31) - 1), (coW st_31)))) (As := [.int made]) (rest := []) ⟨hx, hb, hml, hown, hts0⟩ (m_Tr_close l dC dI cI cZ sa rk ht ad_31 (sTr st_31) ok_31.2.1 _ made) hP hD hK hS hA hC hZ L_582 L_583 L_584 L_85 L_585 ⟨rfl, k_Tr_close⟩ ⟨(by show _ ≤ fr0 + 8; omega), (by show _ ≤ lo0 + 323; omega)⟩ rfl rfl hl.1 (Nat.le_of_ble_eq_true rfl) d_Pa_forRest_194 rfl hcl hsl (Nat.zero_le _) (Nat.zero_le _) (show okSt (setCo st_31 ((coF st_31), (coL st_31), (coS st_31), ((coP st_31) - 1), (coW st_31))) from ⟨ok_31.1, ok_31.2.1, ok_31.2.2.1, ok_31.2.2.2⟩) (t_close_ok made ok_31.2.1) rfl (fun ad_32 st_32 H locs w_32 ok_32 e1_32 e2_32 hP hD hS => ?_)
      have hcl := cl_next hcl e1_32
      have hsl := cl_next hsl e2_32
      exact mx_vret (stF := st_32) hx hb hr hlocks hK hP hD hS hcl hsl (by unfold f_Pa_forRest; rw [if_neg c_1, bnd_r w_26, if_neg c_27, bnd_r w_28, bnd_r w_29, bnd_r w_30, bnd_r w_31, bnd_r w_32]) ok_32 d_Pa_forRest_197
    · refine lv_aload_n hx hb d_Pa_forRest_19 rfl (lv_at hl 0 rfl) ?_
      refine lv_aload_n hx hb d_Pa_forRest_20 rfl (lv_at hl 0 rfl) ?_
      refine va_get (D := (dC, dI)) (ci := 2) (v := .int (sAt st_26)) (C := R_Pa) (T := T_Pa) (N := 7) hx hb hts u_Pa hown hK hP 0 rfl rfl 4 (by decide) (hts _ L_215) (fun x9 h9 => u_same (hts _ L_216) x9 h9) rfl d_Pa_forRest_21 ?_
      refine mx_Uv (xm := ⟨"SyntaxTree$Parser", "refuse", "(I)V"⟩) (owner := R_Cu) (As := [.int (sAt st_26)]) (rest := []) ⟨hx, hb, hml, hown, hts0⟩ (m_Cu_refuse l hlt dC dI cI cZ sa rk hp hc h a1 a2 a3 a4 ht hq n1 n2 ad_26 st_26 ok_26 _ (sAt st_26) (fun z => hg (by unfold f_Pa_forRest; rw [if_neg c_1, bnd_r w_26, if_pos c_27, bnd_n z]))) hP hD hK hS hA hC hZ hnt hlocks L_536 L_537 L_539 L_460 L_86 L_463 rfl k_Cu_refuse ⟨(by show _ ≤ fr0 + 8; omega), (by show _ ≤ lo0 + 323; omega)⟩ rfl rfl hl.1 (Nat.le_of_ble_eq_true rfl) d_Pa_forRest_24 rfl (fun q z => by unfold f_Pa_forRest; rw [if_neg c_1, bnd_r w_26, if_pos c_27, bnd_l z]) hcl hsl (fun ad_33 st_33 H locs w_33 ok_33 e1_33 e2_33 hP hD hS => ?_)
      have hcl := cl_next hcl e1_33
      have hsl := cl_next hsl e2_33
      refine lv_aload_n hx hb d_Pa_forRest_27 rfl (lv_at hl 0 rfl) ?_
      refine va_get (D := (dC, dI)) (ci := 2) (v := .ref ht) (C := R_Pa) (T := T_Pa) (N := 7) hx hb hts u_Pa hown hK hP 0 rfl rfl 0 (by decide) (hts _ L_208) (fun _ h9 => h9) rfl d_Pa_forRest_28 ?_
      refine lv_iload_n hx hb d_Pa_forRest_31 rfl (lv_at hl 1 rfl) ?_
      refine lv_bipush (v := 10) hx hb d_Pa_forRest_32 (by decide) ?_
      refine pT_v (g := (p_setKind st_33 made 10)) (st := st_33) (As := [.int made, .int 10]) (rest := []) ⟨hx, hb, hml, hown, hts0⟩ (m_Tr_setKind l dC dI cI cZ sa rk ht ad_33 (sTr st_33) ok_33.2.1 _ made 10) hP hD hK hS hA hC hZ L_767 L_768 L_769 L_85 L_770 ⟨rfl, k_Tr_setKind⟩ ⟨(by show _ ≤ fr0 + 8; omega), (by show _ ≤ lo0 + 323; omega)⟩ rfl rfl hl.1 (Nat.le_of_ble_eq_true rfl) d_Pa_forRest_34 rfl hcl hsl (Nat.zero_le _) (Nat.zero_le _) ok_33 (t_setKind_ok made 10 ok_33.2.1) rfl (fun ad_34 st_34 H locs w_34 ok_34 e1_34 e2_34 hP hD hS => ?_)
      have hcl := cl_next hcl e1_34
      have hsl := cl_next hsl e2_34
      refine lv_aload_n hx hb d_Pa_forRest_37 rfl (lv_at hl 0 rfl) ?_
      refine lv_dup hx hb d_Pa_forRest_38 rfl ?_
      refine va_get (D := (dC, dI)) (ci := 2) (v := .int (sAt st_34)) (C := R_Pa) (T := T_Pa) (N := 7) hx hb hts u_Pa hown hK hP 0 rfl rfl 4 (by decide) (hts _ L_215) (fun x9 h9 => u_same (hts _ L_216) x9 h9) rfl d_Pa_forRest_39 ?_
      refine lv_iconst (v := 1) hx hb d_Pa_forRest_42 (by decide) ?_
      refine lv_iadd hx hb d_Pa_forRest_43 ?_
      refine va_put (D := (dC, dI)) (ci := 2) (v := .int ((sAt st_34) + 1)) (ty := .int) (C := R_Pa) (T := T_Pa) (N := 7) hx hb hts u_Pa ty_Pa tk_Pa nm_Pa hown hK hP hD hS 0 rfl rfl 4 (by decide) (hts _ L_215) (fun x9 h9 => u_same (hts _ L_216) x9 h9) rfl (by decide +kernel) rfl rfl (Nat.le_of_ble_eq_true rfl) d_Pa_forRest_44 (fun H locs hP hD hS => ?_)
      have hP : va_P (dC, dI) cls (wQ cI cZ hp hc h a1 a2 a3 a4 ht hq n1 n2 (ad_34, (setAt st_34 ((sAt st_34) + 1)))) H := hP
      have hD : va_D A (wQ cI cZ hp hc h a1 a2 a3 a4 ht hq n1 n2 (ad_34, (setAt st_34 ((sAt st_34) + 1)))) := hD
      refine lv_aload_n hx hb d_Pa_forRest_47 rfl (lv_at hl 0 rfl) ?_
      refine lv_iconst (v := (-1)) hx hb d_Pa_forRest_48 (by decide) ?_
      refine lv_iload_n hx hb d_Pa_forRest_49 rfl (lv_at hl 2 rfl) ?_
      refine lv_iconst (v := 1) hx hb d_Pa_forRest_50 (by decide) ?_
      refine lv_iadd hx hb d_Pa_forRest_51 ?_
      refine lv_iconst (v := 1) hx hb d_Pa_forRest_52 (by decide) ?_
      refine mx_Vv (As := [.int (-1), .int (depth + 1), .int 1]) (rest := []) ⟨hx, hb, hml, hown, hts0⟩ (hRE hc ad_34 (setAt st_34 ((sAt st_34) + 1)) (show okSt (setAt st_34 ((sAt st_34) + 1)) from ⟨ok_34.1, ok_34.2.1, ok_34.2.2.1, ok_34.2.2.2⟩) _ (-1) (depth + 1) 1 (fun z => hg (by unfold f_Pa_forRest; rw [if_neg c_1, bnd_r w_26, if_pos c_27, bnd_r w_33, bnd_r w_34, bnd_n z]))) hP hD hK hS hA hC hZ hnt hlocks L_569 L_571 L_12 L_87 L_572 k_Pa_expression ⟨(by show _ ≤ fr0 + 8; omega), (by show _ ≤ lo0 + 323; omega)⟩ rfl rfl hl.1 (Nat.le_of_ble_eq_true rfl) d_Pa_forRest_53 rfl (fun q z => by unfold f_Pa_forRest; rw [if_neg c_1, bnd_r w_26, if_pos c_27, bnd_r w_33, bnd_r w_34, bnd_l z]) hcl hsl (fun ad_35 st_35 H locs w_35 ok_35 e1_35 e2_35 hP hD hS => ?_)
      have hcl := cl_next hcl e1_35
      have hsl := cl_next hsl e2_35
      refine lv_goto (tgt := 143) hx hb d_Pa_forRest_56 (by decide) ?_
      refine lv_aload_n hx hb d_Pa_forRest_143 rfl (lv_at hl 0 rfl) ?_
      refine lv_bipush (v := 61) hx hb d_Pa_forRest_144 (by decide) ?_
      refine mx_Uv (xm := ⟨"SyntaxTree$Parser", "expect", "(I)V"⟩) (owner := R_Cu) (As := [.int 61]) (rest := []) ⟨hx, hb, hml, hown, hts0⟩ (m_Cu_expect l hlt dC dI cI cZ sa rk hp hc h a1 a2 a3 a4 ht hq n1 n2 ad_35 st_35 ok_35 _ 61 (fun z => hg (by unfold f_Pa_forRest; rw [if_neg c_1, bnd_r w_26, if_pos c_27, bnd_r w_33, bnd_r w_34, bnd_r w_35, bnd_n z]))) hP hD hK hS hA hC hZ hnt hlocks L_510 L_511 L_513 L_514 L_86 L_515 rfl k_Cu_expect ⟨(by show _ ≤ fr0 + 8; omega), (by show _ ≤ lo0 + 323; omega)⟩ rfl rfl hl.1 (Nat.le_of_ble_eq_true rfl) d_Pa_forRest_146 rfl (fun q z => by unfold f_Pa_forRest; rw [if_neg c_1, bnd_r w_26, if_pos c_27, bnd_r w_33, bnd_r w_34, bnd_r w_35, bnd_l z]) hcl hsl (fun ad_36 st_36 H locs w_36 ok_36 e1_36 e2_36 hP hD hS => ?_)
      have hcl := cl_next hcl e1_36
      have hsl := cl_next hsl e2_36
      refine lv_aload_n hx hb d_Pa_forRest_149 rfl (lv_at hl 0 rfl) ?_
      refine va_get (D := (dC, dI)) (ci := 2) (v := .ref hc) (C := R_Pa) (T := T_Pa) (N := 7) hx hb hts u_Pa hown hK hP 0 rfl rfl 6 (by decide) (hts _ L_221) (fun x9 h9 => u_same (hts _ L_222) x9 h9) rfl d_Pa_forRest_150 ?_
      refine lv_dup hx hb d_Pa_forRest_153 rfl ?_
      refine va_get (D := (dC, dI)) (ci := 0) (v := .int (coP st_36)) (C := R_Co) (T := T_Co) (N := 5) hx hb hts u_Co hown hK hP 1 rfl rfl 3 (by decide) (hts _ L_177) (fun _ h9 => h9) rfl d_Pa_forRest_154 ?_
      refine lv_iconst (v := 1) hx hb d_Pa_forRest_157 (by decide) ?_
      refine lv_iadd hx hb d_Pa_forRest_158 ?_
      refine va_put (D := (dC, dI)) (ci := 0) (v := .int ((coP st_36) + 1)) (ty := .int) (C := R_Co) (T := T_Co) (N := 5) hx hb hts u_Co ty_Co tk_Co nm_Co hown hK hP hD hS 1 rfl rfl 3 (by decide) (hts _ L_177) (fun _ h9 => h9) rfl (by decide +kernel) rfl rfl (Nat.le_of_ble_eq_true rfl) d_Pa_forRest_159 (fun H locs hP hD hS => ?_)
      have hP : va_P (dC, dI) cls (wQ cI cZ hp hc h a1 a2 a3 a4 ht hq n1 n2 (ad_36, (setCo st_36 ((coF st_36), (coL st_36), (coS st_36), ((coP st_36) + 1), (coW st_36))))) H := hP
      have hD : va_D A (wQ cI cZ hp hc h a1 a2 a3 a4 ht hq n1 n2 (ad_36, (setCo st_36 ((coF st_36), (coL st_36), (coS st_36), ((coP st_36) + 1), (coW st_36))))) := hD
      refine lv_aload_n hx hb d_Pa_forRest_162 rfl (lv_at hl 0 rfl) ?_
      refine lv_iload_n hx hb d_Pa_forRest_163 rfl (lv_at hl 2 rfl) ?_
      refine lv_iconst (v := 1) hx hb d_Pa_forRest_164 (by decide) ?_
      refine lv_iadd hx hb d_Pa_forRest_165 ?_
      refine lv_aload_n hx hb d_Pa_forRest_166 rfl (lv_at hl 0 rfl) ?_
      refine va_get (D := (dC, dI)) (ci := 2) (v := .ref hq) (C := R_Pa) (T := T_Pa) (N := 7) hx hb hts u_Pa hown hK hP 0 rfl rfl 1 (by decide) (hts _ L_209) (fun _ h9 => h9) rfl d_Pa_forRest_167 ?_
      refine rd_V (v := (f_La_count (sLb st_36))) (As := []) (rest := [.int (depth + 1), .ref hp]) ⟨hx, hb, hml, hown, hts0⟩ (m_La_count l dC dI cI cZ hq n1 n2 (sLb st_36) ok_36.2.2.1 ) hP hK [12, 13, 14] rfl [0, 1] rfl 0 1 rfl rfl L_552 L_553 L_554 L_89 L_555 ⟨rfl, k_La_count⟩ ⟨(by show _ ≤ fr0 + 8; omega), (by show _ ≤ lo0 + 323; omega)⟩ hl.1 ⟨Nat.le_trans (Nat.le_add_right _ _) hcl, Nat.le_trans (Nat.le_add_right _ _) hsl⟩ (Nat.le_of_ble_eq_true rfl) d_Pa_forRest_170 rfl ?_
      refine mx_Vv (As := [.int (depth + 1), .int (f_La_count (sLb st_36))]) (rest := []) ⟨hx, hb, hml, hown, hts0⟩ (hRS hc ad_36 (setCo st_36 ((coF st_36), (coL st_36), (coS st_36), ((coP st_36) + 1), (coW st_36))) (show okSt (setCo st_36 ((coF st_36), (coL st_36), (coS st_36), ((coP st_36) + 1), (coW st_36))) from ⟨ok_36.1, ok_36.2.1, ok_36.2.2.1, ok_36.2.2.2⟩) _ (depth + 1) (f_La_count (sLb st_36)) (fun z => hg (by unfold f_Pa_forRest; rw [if_neg c_1, bnd_r w_26, if_pos c_27, bnd_r w_33, bnd_r w_34, bnd_r w_35, bnd_r w_36, bnd_n z]))) hP hD hK hS hA hC hZ hnt hlocks L_560 L_562 L_10 L_87 L_563 k_Pa_statement ⟨(by show _ ≤ fr0 + 8; omega), (by show _ ≤ lo0 + 323; omega)⟩ rfl rfl hl.1 (Nat.le_of_ble_eq_true rfl) d_Pa_forRest_173 rfl (fun q z => by unfold f_Pa_forRest; rw [if_neg c_1, bnd_r w_26, if_pos c_27, bnd_r w_33, bnd_r w_34, bnd_r w_35, bnd_r w_36, bnd_l z]) hcl hsl (fun ad_37 st_37 H locs w_37 ok_37 e1_37 e2_37 hP hD hS => ?_)
      have hcl := cl_next hcl e1_37
      have hsl := cl_next hsl e2_37
      refine lv_aload_n hx hb d_Pa_forRest_176 rfl (lv_at hl 0 rfl) ?_
      refine va_get (D := (dC, dI)) (ci := 2) (v := .ref hc) (C := R_Pa) (T := T_Pa) (N := 7) hx hb hts u_Pa hown hK hP 0 rfl rfl 6 (by decide) (hts _ L_221) (fun x9 h9 => u_same (hts _ L_222) x9 h9) rfl d_Pa_forRest_177 ?_
      refine lv_dup hx hb d_Pa_forRest_180 rfl ?_
      refine va_get (D := (dC, dI)) (ci := 0) (v := .int (coP st_37)) (C := R_Co) (T := T_Co) (N := 5) hx hb hts u_Co hown hK hP 1 rfl rfl 3 (by decide) (hts _ L_177) (fun _ h9 => h9) rfl d_Pa_forRest_181 ?_
      refine lv_iconst (v := 1) hx hb d_Pa_forRest_184 (by decide) ?_
      refine lv_isub hx hb d_Pa_forRest_185 ?_
      refine va_put (D := (dC, dI)) (ci := 0) (v := .int ((coP st_37) - 1)) (ty := .int) (C := R_Co) (T := T_Co) (N := 5) hx hb hts u_Co ty_Co tk_Co nm_Co hown hK hP hD hS 1 rfl rfl 3 (by decide) (hts _ L_177) (fun _ h9 => h9) rfl (by decide +kernel) rfl rfl (Nat.le_of_ble_eq_true rfl) d_Pa_forRest_186 (fun H locs hP hD hS => ?_)
      have hP : va_P (dC, dI) cls (wQ cI cZ hp hc h a1 a2 a3 a4 ht hq n1 n2 (ad_37, (setCo st_37 ((coF st_37), (coL st_37), (coS st_37), ((coP st_37) - 1), (coW st_37))))) H := hP
      have hD : va_D A (wQ cI cZ hp hc h a1 a2 a3 a4 ht hq n1 n2 (ad_37, (setCo st_37 ((coF st_37), (coL st_37), (coS st_37), ((coP st_37) - 1), (coW st_37))))) := hD
      refine lv_aload_n hx hb d_Pa_forRest_189 rfl (lv_at hl 0 rfl) ?_
      refine va_get (D := (dC, dI)) (ci := 2) (v := .ref ht) (C := R_Pa) (T := T_Pa) (N := 7) hx hb hts u_Pa hown hK hP 0 rfl rfl 0 (by decide) (hts _ L_208) (fun _ h9 => h9) rfl d_Pa_forRest_190 ?_
      refine lv_iload_n hx hb d_Pa_forRest_193 rfl (lv_at hl 1 rfl) ?_
      refine pT_v (g := (p_close (setCo st_37 ((coF st_37), (coL st_37), (coS st_37), ((coP st_37) - 1), (coW st_37))) made)) (st := (setCo st_37 ((coF st_37), (coL st_37), (coS st_37), ((coP st_37) - 1), (coW st_37)))) (As := [.int made]) (rest := []) ⟨hx, hb, hml, hown, hts0⟩ (m_Tr_close l dC dI cI cZ sa rk ht ad_37 (sTr st_37) ok_37.2.1 _ made) hP hD hK hS hA hC hZ L_582 L_583 L_584 L_85 L_585 ⟨rfl, k_Tr_close⟩ ⟨(by show _ ≤ fr0 + 8; omega), (by show _ ≤ lo0 + 323; omega)⟩ rfl rfl hl.1 (Nat.le_of_ble_eq_true rfl) d_Pa_forRest_194 rfl hcl hsl (Nat.zero_le _) (Nat.zero_le _) (show okSt (setCo st_37 ((coF st_37), (coL st_37), (coS st_37), ((coP st_37) - 1), (coW st_37))) from ⟨ok_37.1, ok_37.2.1, ok_37.2.2.1, ok_37.2.2.2⟩) (t_close_ok made ok_37.2.1) rfl (fun ad_38 st_38 H locs w_38 ok_38 e1_38 e2_38 hP hD hS => ?_)
      have hcl := cl_next hcl e1_38
      have hsl := cl_next hsl e2_38
      exact mx_vret (stF := st_38) hx hb hr hlocks hK hP hD hS hcl hsl (by unfold f_Pa_forRest; rw [if_neg c_1, bnd_r w_26, if_pos c_27, bnd_r w_33, bnd_r w_34, bnd_r w_35, bnd_r w_36, bnd_r w_37, bnd_r w_38]) ok_38 d_Pa_forRest_197
