def f_Pa_emptyStatement (st : ST)  : Rz := (bnd (p_open st 4 0 (sAt st)) (fun r_1 st_1 => (some (.inr (0, (setAt st_1 ((sAt st_1) + 1)))))))
set_option maxRecDepth 100000 in
set_option maxHeartbeats 4000000 in
theorem m_Pa_emptyStatement (l : Launch) (hlt : l.stackTraces = false) (dC : Nat → ClassId) (dI : Nat → Nat → Nat) (cI cZ : ClassId) (sa rk hp hc h a1 a2 a3 a4 ht hq n1 n2 : Nat) (ad : AD) (st : ST) (hst : okSt st) (sz : Nat)  (hg : f_Pa_emptyStatement st ≠ none) : cPv l y_Pa_emptyStatement c_Pa_emptyStatement 1 4 323 (dC, dI) cI cZ sa rk hp hc h a1 a2 a3 a4 ht hq n1 n2 ad st sz [.ref hp] (f_Pa_emptyStatement st) := by
  refine vx_ofW (cc := c_Pa_emptyStatement) (maxL := 1) (ret := none) (by decide) rfl ?_
  intro p e s m args below meth c s₁ B hml hnt hv
  obtain ⟨rfl, hsz, hP, hK, hD0, hC, hZ⟩ := hv
  have hx := B.exec
  have hb := B.bytes
  have hr := B.returns
  have hts0 := atoms_spec (ws := wy y_Pa_emptyStatement c_Pa_emptyStatement 1 none) B.pre
  have hts := htsL hts0
  have hown : s.vm.findClass R_Pa = some m.cls := findClass_of_methodNamed B.named
  have hlocks := B.notSynchronized
  subst hsz
  have hD := hD0.self (sz := s.heap.size)
  generalize hAe : va_A (wQ cI cZ hp hc h a1 a2 a3 a4 ht hq n1 n2 (ad, st)) s.heap.size = A at hD hZ ⊢
  have hA : ∀ q : Nat, s.heap.size ≤ q → A q := fun q h => by rw [← hAe]; exact Or.inr h
  have hS : va_S A s.heap s.heap [] := va_S.rf
  have hcl : 0 + bC st ≤ bC st := Nat.le_of_eq (Nat.zero_add _)
  have hsl : 0 + bS st ≤ bS st := Nat.le_of_eq (Nat.zero_add _)
  have hl := lv_entry ([.ref hp]) (n := 1) (Nat.le_of_ble_eq_true rfl)
  rw [lg_entry_eq]
  generalize (lg_sl ([.ref hp]) ++ List.replicate (1 - (lg_sl ([.ref hp])).length) Slot.unset).toArray = ls at hl ⊢
  have hl : lv_has ls 1 [(0, .ref hp)] := hl
  refine lv_aload_n hx hb d_Pa_emptyStatement_0 rfl (lv_at hl 0 rfl) ?_
  refine va_get (D := (dC, dI)) (ci := 2) (v := .ref ht) (C := R_Pa) (T := T_Pa) (N := 7) hx hb hts u_Pa hown hK hP 0 rfl rfl 0 (by decide) (hts _ L_208) (fun _ h9 => h9) rfl d_Pa_emptyStatement_1 ?_
  refine lv_iconst (v := 4) hx hb d_Pa_emptyStatement_4 (by decide) ?_
  refine lv_iconst (v := 0) hx hb d_Pa_emptyStatement_5 (by decide) ?_
  refine lv_aload_n hx hb d_Pa_emptyStatement_6 rfl (lv_at hl 0 rfl) ?_
  refine va_get (D := (dC, dI)) (ci := 2) (v := .int (sAt st)) (C := R_Pa) (T := T_Pa) (N := 7) hx hb hts u_Pa hown hK hP 0 rfl rfl 4 (by decide) (hts _ L_215) (fun x9 h9 => u_same (hts _ L_216) x9 h9) rfl d_Pa_emptyStatement_7 ?_
  have hn_1 : (p_open st 4 0 (sAt st)) ≠ none := (fun z => hg (by unfold f_Pa_emptyStatement; rw [bnd_n z]))
  refine pT_i (g := (p_open st 4 0 (sAt st))) (st := st) (As := [.int 4, .int 0, .int (sAt st)]) (rest := []) ⟨hx, hb, hml, hown, hts0⟩ (m_Tr_open l dC dI cI cZ sa rk ht ad (sTr st) hst.2.1 _ 4 0 (sAt st) (p_open_c hn_1).1 (p_open_c hn_1).2.1) hP hD hK hS hA hC hZ L_416 L_417 L_418 L_85 L_419 ⟨rfl, k_Tr_open⟩ ⟨Nat.le_of_ble_eq_true rfl, Nat.le_of_ble_eq_true rfl⟩ rfl rfl hl.1 (Nat.le_of_ble_eq_true rfl) d_Pa_emptyStatement_10 rfl hcl hsl (p_open_c hn_1).2.2.1 (p_open_c hn_1).2.2.2 hst (t_open_ok 4 0 (sAt st) hst.2.1 (p_open_c hn_1).1 (p_open_c hn_1).2.1) (p_open_e hn_1) (fun r_1 ad_1 st_1 H locs w_1 ok_1 e1_1 e2_1 hP hD hS => ?_)
  have hcl := cl_next hcl e1_1
  have hsl := cl_next hsl e2_1
  refine lv_pop hx hb d_Pa_emptyStatement_13 rfl ?_
  refine lv_aload_n hx hb d_Pa_emptyStatement_14 rfl (lv_at hl 0 rfl) ?_
  refine lv_dup hx hb d_Pa_emptyStatement_15 rfl ?_
  refine va_get (D := (dC, dI)) (ci := 2) (v := .int (sAt st_1)) (C := R_Pa) (T := T_Pa) (N := 7) hx hb hts u_Pa hown hK hP 0 rfl rfl 4 (by decide) (hts _ L_215) (fun x9 h9 => u_same (hts _ L_216) x9 h9) rfl d_Pa_emptyStatement_16 ?_
  refine lv_iconst (v := 1) hx hb d_Pa_emptyStatement_19 (by decide) ?_
  refine lv_iadd hx hb d_Pa_emptyStatement_20 ?_
  refine va_put (D := (dC, dI)) (ci := 2) (v := .int ((sAt st_1) + 1)) (ty := .int) (C := R_Pa) (T := T_Pa) (N := 7) hx hb hts u_Pa ty_Pa tk_Pa nm_Pa hown hK hP hD hS 0 rfl rfl 4 (by decide) (hts _ L_215) (fun x9 h9 => u_same (hts _ L_216) x9 h9) rfl (by decide +kernel) rfl rfl (Nat.le_of_ble_eq_true rfl) d_Pa_emptyStatement_21 (fun H locs hP hD hS => ?_)
  have hP : va_P (dC, dI) cls (wQ cI cZ hp hc h a1 a2 a3 a4 ht hq n1 n2 (ad_1, (setAt st_1 ((sAt st_1) + 1)))) H := hP
  have hD : va_D A (wQ cI cZ hp hc h a1 a2 a3 a4 ht hq n1 n2 (ad_1, (setAt st_1 ((sAt st_1) + 1)))) := hD
  exact mx_vret (stF := (setAt st_1 ((sAt st_1) + 1))) hx hb hr hlocks hK hP hD hS hcl hsl (by unfold f_Pa_emptyStatement; rw [bnd_r w_1]) (show okSt (setAt st_1 ((sAt st_1) + 1)) from ⟨ok_1.1, ok_1.2.1, ok_1.2.2.1, ok_1.2.2.2⟩) d_Pa_emptyStatement_24
def f_Pa_debuggerStatement (st : ST)  : Rz := (bnd (p_open st 23 0 (sAt st)) (fun r_1 st_1 => (bnd (f_Cu_semicolon (setAt st_1 ((sAt st_1) + 1))) (fun _ st_2 => (some (.inr (0, st_2)))))))
set_option maxRecDepth 100000 in
set_option maxHeartbeats 4000000 in
theorem m_Pa_debuggerStatement (l : Launch) (hlt : l.stackTraces = false) (dC : Nat → ClassId) (dI : Nat → Nat → Nat) (cI cZ : ClassId) (sa rk hp hc h a1 a2 a3 a4 ht hq n1 n2 : Nat) (ad : AD) (st : ST) (hst : okSt st) (sz : Nat)  (hg : f_Pa_debuggerStatement st ≠ none) : cPv l y_Pa_debuggerStatement c_Pa_debuggerStatement 1 8 323 (dC, dI) cI cZ sa rk hp hc h a1 a2 a3 a4 ht hq n1 n2 ad st sz [.ref hp] (f_Pa_debuggerStatement st) := by
  refine vx_ofW (cc := c_Pa_debuggerStatement) (maxL := 1) (ret := none) (by decide) rfl ?_
  intro p e s m args below meth c s₁ B hml hnt hv
  obtain ⟨rfl, hsz, hP, hK, hD0, hC, hZ⟩ := hv
  have hx := B.exec
  have hb := B.bytes
  have hr := B.returns
  have hts0 := atoms_spec (ws := wy y_Pa_debuggerStatement c_Pa_debuggerStatement 1 none) B.pre
  have hts := htsL hts0
  have hown : s.vm.findClass R_Pa = some m.cls := findClass_of_methodNamed B.named
  have hlocks := B.notSynchronized
  subst hsz
  have hD := hD0.self (sz := s.heap.size)
  generalize hAe : va_A (wQ cI cZ hp hc h a1 a2 a3 a4 ht hq n1 n2 (ad, st)) s.heap.size = A at hD hZ ⊢
  have hA : ∀ q : Nat, s.heap.size ≤ q → A q := fun q h => by rw [← hAe]; exact Or.inr h
  have hS : va_S A s.heap s.heap [] := va_S.rf
  have hcl : 0 + bC st ≤ bC st := Nat.le_of_eq (Nat.zero_add _)
  have hsl : 0 + bS st ≤ bS st := Nat.le_of_eq (Nat.zero_add _)
  have hl := lv_entry ([.ref hp]) (n := 1) (Nat.le_of_ble_eq_true rfl)
  rw [lg_entry_eq]
  generalize (lg_sl ([.ref hp]) ++ List.replicate (1 - (lg_sl ([.ref hp])).length) Slot.unset).toArray = ls at hl ⊢
  have hl : lv_has ls 1 [(0, .ref hp)] := hl
  refine lv_aload_n hx hb d_Pa_debuggerStatement_0 rfl (lv_at hl 0 rfl) ?_
  refine va_get (D := (dC, dI)) (ci := 2) (v := .ref ht) (C := R_Pa) (T := T_Pa) (N := 7) hx hb hts u_Pa hown hK hP 0 rfl rfl 0 (by decide) (hts _ L_208) (fun _ h9 => h9) rfl d_Pa_debuggerStatement_1 ?_
  refine lv_bipush (v := 23) hx hb d_Pa_debuggerStatement_4 (by decide) ?_
  refine lv_iconst (v := 0) hx hb d_Pa_debuggerStatement_6 (by decide) ?_
  refine lv_aload_n hx hb d_Pa_debuggerStatement_7 rfl (lv_at hl 0 rfl) ?_
  refine va_get (D := (dC, dI)) (ci := 2) (v := .int (sAt st)) (C := R_Pa) (T := T_Pa) (N := 7) hx hb hts u_Pa hown hK hP 0 rfl rfl 4 (by decide) (hts _ L_215) (fun x9 h9 => u_same (hts _ L_216) x9 h9) rfl d_Pa_debuggerStatement_8 ?_
  have hn_1 : (p_open st 23 0 (sAt st)) ≠ none := (fun z => hg (by unfold f_Pa_debuggerStatement; rw [bnd_n z]))
  refine pT_i (g := (p_open st 23 0 (sAt st))) (st := st) (As := [.int 23, .int 0, .int (sAt st)]) (rest := []) ⟨hx, hb, hml, hown, hts0⟩ (m_Tr_open l dC dI cI cZ sa rk ht ad (sTr st) hst.2.1 _ 23 0 (sAt st) (p_open_c hn_1).1 (p_open_c hn_1).2.1) hP hD hK hS hA hC hZ L_416 L_417 L_418 L_85 L_419 ⟨rfl, k_Tr_open⟩ ⟨Nat.le_of_ble_eq_true rfl, Nat.le_of_ble_eq_true rfl⟩ rfl rfl hl.1 (Nat.le_of_ble_eq_true rfl) d_Pa_debuggerStatement_11 rfl hcl hsl (p_open_c hn_1).2.2.1 (p_open_c hn_1).2.2.2 hst (t_open_ok 23 0 (sAt st) hst.2.1 (p_open_c hn_1).1 (p_open_c hn_1).2.1) (p_open_e hn_1) (fun r_1 ad_1 st_1 H locs w_1 ok_1 e1_1 e2_1 hP hD hS => ?_)
  have hcl := cl_next hcl e1_1
  have hsl := cl_next hsl e2_1
  refine lv_pop hx hb d_Pa_debuggerStatement_14 rfl ?_
  refine lv_aload_n hx hb d_Pa_debuggerStatement_15 rfl (lv_at hl 0 rfl) ?_
  refine lv_dup hx hb d_Pa_debuggerStatement_16 rfl ?_
  refine va_get (D := (dC, dI)) (ci := 2) (v := .int (sAt st_1)) (C := R_Pa) (T := T_Pa) (N := 7) hx hb hts u_Pa hown hK hP 0 rfl rfl 4 (by decide) (hts _ L_215) (fun x9 h9 => u_same (hts _ L_216) x9 h9) rfl d_Pa_debuggerStatement_17 ?_
  refine lv_iconst (v := 1) hx hb d_Pa_debuggerStatement_20 (by decide) ?_
  refine lv_iadd hx hb d_Pa_debuggerStatement_21 ?_
  refine va_put (D := (dC, dI)) (ci := 2) (v := .int ((sAt st_1) + 1)) (ty := .int) (C := R_Pa) (T := T_Pa) (N := 7) hx hb hts u_Pa ty_Pa tk_Pa nm_Pa hown hK hP hD hS 0 rfl rfl 4 (by decide) (hts _ L_215) (fun x9 h9 => u_same (hts _ L_216) x9 h9) rfl (by decide +kernel) rfl rfl (Nat.le_of_ble_eq_true rfl) d_Pa_debuggerStatement_22 (fun H locs hP hD hS => ?_)
  have hP : va_P (dC, dI) cls (wQ cI cZ hp hc h a1 a2 a3 a4 ht hq n1 n2 (ad_1, (setAt st_1 ((sAt st_1) + 1)))) H := hP
  have hD : va_D A (wQ cI cZ hp hc h a1 a2 a3 a4 ht hq n1 n2 (ad_1, (setAt st_1 ((sAt st_1) + 1)))) := hD
  refine lv_aload_n hx hb d_Pa_debuggerStatement_25 rfl (lv_at hl 0 rfl) ?_
  refine mx_Uv (xm := ⟨"SyntaxTree$Parser", "semicolon", "()V"⟩) (owner := R_Cu) (As := []) (rest := []) ⟨hx, hb, hml, hown, hts0⟩ (m_Cu_semicolon l hlt dC dI cI cZ sa rk hp hc h a1 a2 a3 a4 ht hq n1 n2 ad_1 (setAt st_1 ((sAt st_1) + 1)) (show okSt (setAt st_1 ((sAt st_1) + 1)) from ⟨ok_1.1, ok_1.2.1, ok_1.2.2.1, ok_1.2.2.2⟩) _  (fun z => hg (by unfold f_Pa_debuggerStatement; rw [bnd_r w_1, bnd_n z]))) hP hD hK hS hA hC hZ hnt hlocks L_711 L_712 L_714 L_715 L_86 L_716 rfl k_Cu_semicolon ⟨Nat.le_of_ble_eq_true rfl, Nat.le_of_ble_eq_true rfl⟩ rfl rfl hl.1 (Nat.le_of_ble_eq_true rfl) d_Pa_debuggerStatement_26 rfl (fun q z => by unfold f_Pa_debuggerStatement; rw [bnd_r w_1, bnd_l z]) hcl hsl (fun ad_2 st_2 H locs w_2 ok_2 e1_2 e2_2 hP hD hS => ?_)
  have hcl := cl_next hcl e1_2
  have hsl := cl_next hsl e2_2
  exact mx_vret (stF := st_2) hx hb hr hlocks hK hP hD hS hcl hsl (by unfold f_Pa_debuggerStatement; rw [bnd_r w_1, bnd_r w_2]) ok_2 d_Pa_debuggerStatement_29
def f_Pa_member (st : ST) (start : Int32) (wh : Int32) : Rz := (if (f_Tk_kind (sTk st) (sAt st)) = 1 then (bnd (p_wrap st start 36 (f_Tk_name (sTk st) (sAt st)) wh) (fun _ st_2 => (some (.inr (0, (setAt st_2 ((sAt st_2) + 1))))))) else (bnd (f_Cu_refuse st (sAt st)) (fun _ st_3 => (bnd (p_wrap st_3 start 36 (f_Tk_name (sTk st_3) (sAt st_3)) wh) (fun _ st_4 => (some (.inr (0, (setAt st_4 ((sAt st_4) + 1))))))))))
set_option maxRecDepth 100000 in
set_option maxHeartbeats 4000000 in
theorem m_Pa_member (l : Launch) (hlt : l.stackTraces = false) (dC : Nat → ClassId) (dI : Nat → Nat → Nat) (cI cZ : ClassId) (sa rk hp hc h a1 a2 a3 a4 ht hq n1 n2 : Nat) (ad : AD) (st : ST) (hst : okSt st) (sz : Nat) (start : Int32) (wh : Int32) (hg : f_Pa_member st start wh ≠ none) : cPv l y_Pa_member c_Pa_member 3 7 325 (dC, dI) cI cZ sa rk hp hc h a1 a2 a3 a4 ht hq n1 n2 ad st sz [.ref hp, .int start, .int wh] (f_Pa_member st start wh) := by
  refine vx_ofW (cc := c_Pa_member) (maxL := 3) (ret := none) (by decide) rfl ?_
  intro p e s m args below meth c s₁ B hml hnt hv
  obtain ⟨rfl, hsz, hP, hK, hD0, hC, hZ⟩ := hv
  have hx := B.exec
  have hb := B.bytes
  have hr := B.returns
  have hts0 := atoms_spec (ws := wy y_Pa_member c_Pa_member 3 none) B.pre
  have hts := htsL hts0
  have hown : s.vm.findClass R_Pa = some m.cls := findClass_of_methodNamed B.named
  have hlocks := B.notSynchronized
  subst hsz
  have hD := hD0.self (sz := s.heap.size)
  generalize hAe : va_A (wQ cI cZ hp hc h a1 a2 a3 a4 ht hq n1 n2 (ad, st)) s.heap.size = A at hD hZ ⊢
  have hA : ∀ q : Nat, s.heap.size ≤ q → A q := fun q h => by rw [← hAe]; exact Or.inr h
  have hS : va_S A s.heap s.heap [] := va_S.rf
  have hcl : 0 + bC st ≤ bC st := Nat.le_of_eq (Nat.zero_add _)
  have hsl : 0 + bS st ≤ bS st := Nat.le_of_eq (Nat.zero_add _)
  have hl := lv_entry ([.ref hp, .int start, .int wh]) (n := 3) (Nat.le_of_ble_eq_true rfl)
  rw [lg_entry_eq]
  generalize (lg_sl ([.ref hp, .int start, .int wh]) ++ List.replicate (3 - (lg_sl ([.ref hp, .int start, .int wh])).length) Slot.unset).toArray = ls at hl ⊢
  have hl : lv_has ls 3 [(0, .ref hp), (1, .int start), (2, .int wh)] := hl
  refine lv_aload_n hx hb d_Pa_member_0 rfl (lv_at hl 0 rfl) ?_
  refine va_get (D := (dC, dI)) (ci := 2) (v := .ref h) (C := R_Pa) (T := T_Pa) (N := 7) hx hb hts u_Pa hown hK hP 0 rfl rfl 3 (by decide) (hts _ L_212) (fun x9 h9 => u_same (hts _ L_213) x9 h9) rfl d_Pa_member_1 ?_
  refine lv_aload_n hx hb d_Pa_member_4 rfl (lv_at hl 0 rfl) ?_
  refine va_get (D := (dC, dI)) (ci := 2) (v := .int (sAt st)) (C := R_Pa) (T := T_Pa) (N := 7) hx hb hts u_Pa hown hK hP 0 rfl rfl 4 (by decide) (hts _ L_215) (fun x9 h9 => u_same (hts _ L_216) x9 h9) rfl d_Pa_member_5 ?_
  refine rd_V (v := (f_Tk_kind (sTk st) (sAt st))) (As := [.int (sAt st)]) (rest := []) ⟨hx, hb, hml, hown, hts0⟩ (m_Tk_kind l dC dI cI cZ h a1 a2 a3 a4 (sTk st) hst.1 (sAt st)) hP hK [2, 3, 4, 5, 6] rfl [0, 1] rfl 0 3 rfl rfl L_617 L_436 L_437 L_84 L_438 ⟨rfl, k_Tk_kind⟩ ⟨Nat.le_of_ble_eq_true rfl, Nat.le_of_ble_eq_true rfl⟩ hl.1 ⟨Nat.le_trans (Nat.le_add_right _ _) hcl, Nat.le_trans (Nat.le_add_right _ _) hsl⟩ (Nat.le_of_ble_eq_true rfl) d_Pa_member_8 rfl ?_
  refine lv_iconst (v := 1) hx hb d_Pa_member_11 (by decide) ?_
  refine lv_icmp_eq (tgt := 23) hx hb d_Pa_member_12 (by decide) (fun c_1 => ?_) (fun c_1 => ?_)
  · refine lv_aload_n hx hb d_Pa_member_23 rfl (lv_at hl 0 rfl) ?_
    refine va_get (D := (dC, dI)) (ci := 2) (v := .ref ht) (C := R_Pa) (T := T_Pa) (N := 7) hx hb hts u_Pa hown hK hP 0 rfl rfl 0 (by decide) (hts _ L_208) (fun _ h9 => h9) rfl d_Pa_member_24 ?_
    refine lv_iload_n hx hb d_Pa_member_27 rfl (lv_at hl 1 rfl) ?_
    refine lv_bipush (v := 36) hx hb d_Pa_member_28 (by decide) ?_
    refine lv_aload_n hx hb d_Pa_member_30 rfl (lv_at hl 0 rfl) ?_
    refine va_get (D := (dC, dI)) (ci := 2) (v := .ref h) (C := R_Pa) (T := T_Pa) (N := 7) hx hb hts u_Pa hown hK hP 0 rfl rfl 3 (by decide) (hts _ L_212) (fun x9 h9 => u_same (hts _ L_213) x9 h9) rfl d_Pa_member_31 ?_
    refine lv_aload_n hx hb d_Pa_member_34 rfl (lv_at hl 0 rfl) ?_
    refine va_get (D := (dC, dI)) (ci := 2) (v := .int (sAt st)) (C := R_Pa) (T := T_Pa) (N := 7) hx hb hts u_Pa hown hK hP 0 rfl rfl 4 (by decide) (hts _ L_215) (fun x9 h9 => u_same (hts _ L_216) x9 h9) rfl d_Pa_member_35 ?_
    refine rd_V (v := (f_Tk_name (sTk st) (sAt st))) (As := [.int (sAt st)]) (rest := [.int 36, .int start, .ref ht]) ⟨hx, hb, hml, hown, hts0⟩ (m_Tk_name l dC dI cI cZ h a1 a2 a3 a4 (sTk st) hst.1 (sAt st)) hP hK [2, 3, 4, 5, 6] rfl [0, 1] rfl 0 3 rfl rfl L_623 L_478 L_479 L_84 L_480 ⟨rfl, k_Tk_name⟩ ⟨Nat.le_of_ble_eq_true rfl, Nat.le_of_ble_eq_true rfl⟩ hl.1 ⟨Nat.le_trans (Nat.le_add_right _ _) hcl, Nat.le_trans (Nat.le_add_right _ _) hsl⟩ (Nat.le_of_ble_eq_true rfl) d_Pa_member_38 rfl ?_
    refine lv_iload_n hx hb d_Pa_member_41 rfl (lv_at hl 2 rfl) ?_
    have hn_2 : (p_wrap st start 36 (f_Tk_name (sTk st) (sAt st)) wh) ≠ none := (fun z => hg (by unfold f_Pa_member; rw [if_pos c_1, bnd_n z]))
    refine pT_v (g := (p_wrap st start 36 (f_Tk_name (sTk st) (sAt st)) wh)) (st := st) (As := [.int start, .int 36, .int (f_Tk_name (sTk st) (sAt st)), .int wh]) (rest := []) ⟨hx, hb, hml, hown, hts0⟩ (m_Tr_wrap l dC dI cI cZ sa rk ht ad (sTr st) hst.2.1 _ start 36 (f_Tk_name (sTk st) (sAt st)) wh (p_wrap_c hn_2).1 (p_wrap_c hn_2).2.1) hP hD hK hS hA hC hZ L_669 L_670 L_671 L_85 L_672 ⟨rfl, k_Tr_wrap⟩ ⟨Nat.le_of_ble_eq_true rfl, Nat.le_of_ble_eq_true rfl⟩ rfl rfl hl.1 (Nat.le_of_ble_eq_true rfl) d_Pa_member_42 rfl hcl hsl (p_wrap_c hn_2).2.2.1 (p_wrap_c hn_2).2.2.2 hst (t_wrap_ok start 36 (f_Tk_name (sTk st) (sAt st)) wh hst.2.1 (p_wrap_c hn_2).1 (p_wrap_c hn_2).2.1) (p_wrap_e hn_2) (fun ad_2 st_2 H locs w_2 ok_2 e1_2 e2_2 hP hD hS => ?_)
    have hcl := cl_next hcl e1_2
    have hsl := cl_next hsl e2_2
    refine lv_aload_n hx hb d_Pa_member_45 rfl (lv_at hl 0 rfl) ?_
    refine lv_dup hx hb d_Pa_member_46 rfl ?_
    refine va_get (D := (dC, dI)) (ci := 2) (v := .int (sAt st_2)) (C := R_Pa) (T := T_Pa) (N := 7) hx hb hts u_Pa hown hK hP 0 rfl rfl 4 (by decide) (hts _ L_215) (fun x9 h9 => u_same (hts _ L_216) x9 h9) rfl d_Pa_member_47 ?_
    refine lv_iconst (v := 1) hx hb d_Pa_member_50 (by decide) ?_
    refine lv_iadd hx hb d_Pa_member_51 ?_
    refine va_put (D := (dC, dI)) (ci := 2) (v := .int ((sAt st_2) + 1)) (ty := .int) (C := R_Pa) (T := T_Pa) (N := 7) hx hb hts u_Pa ty_Pa tk_Pa nm_Pa hown hK hP hD hS 0 rfl rfl 4 (by decide) (hts _ L_215) (fun x9 h9 => u_same (hts _ L_216) x9 h9) rfl (by decide +kernel) rfl rfl (Nat.le_of_ble_eq_true rfl) d_Pa_member_52 (fun H locs hP hD hS => ?_)
    have hP : va_P (dC, dI) cls (wQ cI cZ hp hc h a1 a2 a3 a4 ht hq n1 n2 (ad_2, (setAt st_2 ((sAt st_2) + 1)))) H := hP
    have hD : va_D A (wQ cI cZ hp hc h a1 a2 a3 a4 ht hq n1 n2 (ad_2, (setAt st_2 ((sAt st_2) + 1)))) := hD
    exact mx_vret (stF := (setAt st_2 ((sAt st_2) + 1))) hx hb hr hlocks hK hP hD hS hcl hsl (by unfold f_Pa_member; rw [if_pos c_1, bnd_r w_2]) (show okSt (setAt st_2 ((sAt st_2) + 1)) from ⟨ok_2.1, ok_2.2.1, ok_2.2.2.1, ok_2.2.2.2⟩) d_Pa_member_55
  · refine lv_aload_n hx hb d_Pa_member_15 rfl (lv_at hl 0 rfl) ?_
    refine lv_aload_n hx hb d_Pa_member_16 rfl (lv_at hl 0 rfl) ?_
    refine va_get (D := (dC, dI)) (ci := 2) (v := .int (sAt st)) (C := R_Pa) (T := T_Pa) (N := 7) hx hb hts u_Pa hown hK hP 0 rfl rfl 4 (by decide) (hts _ L_215) (fun x9 h9 => u_same (hts _ L_216) x9 h9) rfl d_Pa_member_17 ?_
    refine mx_Uv (xm := ⟨"SyntaxTree$Parser", "refuse", "(I)V"⟩) (owner := R_Cu) (As := [.int (sAt st)]) (rest := []) ⟨hx, hb, hml, hown, hts0⟩ (m_Cu_refuse l hlt dC dI cI cZ sa rk hp hc h a1 a2 a3 a4 ht hq n1 n2 ad st hst _ (sAt st) (fun z => hg (by unfold f_Pa_member; rw [if_neg c_1, bnd_n z]))) hP hD hK hS hA hC hZ hnt hlocks L_536 L_537 L_539 L_460 L_86 L_463 rfl k_Cu_refuse ⟨Nat.le_of_ble_eq_true rfl, Nat.le_of_ble_eq_true rfl⟩ rfl rfl hl.1 (Nat.le_of_ble_eq_true rfl) d_Pa_member_20 rfl (fun q z => by unfold f_Pa_member; rw [if_neg c_1, bnd_l z]) hcl hsl (fun ad_3 st_3 H locs w_3 ok_3 e1_3 e2_3 hP hD hS => ?_)
    have hcl := cl_next hcl e1_3
    have hsl := cl_next hsl e2_3
    refine lv_aload_n hx hb d_Pa_member_23 rfl (lv_at hl 0 rfl) ?_
    refine va_get (D := (dC, dI)) (ci := 2) (v := .ref ht) (C := R_Pa) (T := T_Pa) (N := 7) hx hb hts u_Pa hown hK hP 0 rfl rfl 0 (by decide) (hts _ L_208) (fun _ h9 => h9) rfl d_Pa_member_24 ?_
    refine lv_iload_n hx hb d_Pa_member_27 rfl (lv_at hl 1 rfl) ?_
    refine lv_bipush (v := 36) hx hb d_Pa_member_28 (by decide) ?_
    refine lv_aload_n hx hb d_Pa_member_30 rfl (lv_at hl 0 rfl) ?_
    refine va_get (D := (dC, dI)) (ci := 2) (v := .ref h) (C := R_Pa) (T := T_Pa) (N := 7) hx hb hts u_Pa hown hK hP 0 rfl rfl 3 (by decide) (hts _ L_212) (fun x9 h9 => u_same (hts _ L_213) x9 h9) rfl d_Pa_member_31 ?_
    refine lv_aload_n hx hb d_Pa_member_34 rfl (lv_at hl 0 rfl) ?_
    refine va_get (D := (dC, dI)) (ci := 2) (v := .int (sAt st_3)) (C := R_Pa) (T := T_Pa) (N := 7) hx hb hts u_Pa hown hK hP 0 rfl rfl 4 (by decide) (hts _ L_215) (fun x9 h9 => u_same (hts _ L_216) x9 h9) rfl d_Pa_member_35 ?_
    refine rd_V (v := (f_Tk_name (sTk st_3) (sAt st_3))) (As := [.int (sAt st_3)]) (rest := [.int 36, .int start, .ref ht]) ⟨hx, hb, hml, hown, hts0⟩ (m_Tk_name l dC dI cI cZ h a1 a2 a3 a4 (sTk st_3) ok_3.1 (sAt st_3)) hP hK [2, 3, 4, 5, 6] rfl [0, 1] rfl 0 3 rfl rfl L_623 L_478 L_479 L_84 L_480 ⟨rfl, k_Tk_name⟩ ⟨Nat.le_of_ble_eq_true rfl, Nat.le_of_ble_eq_true rfl⟩ hl.1 ⟨Nat.le_trans (Nat.le_add_right _ _) hcl, Nat.le_trans (Nat.le_add_right _ _) hsl⟩ (Nat.le_of_ble_eq_true rfl) d_Pa_member_38 rfl ?_
    refine lv_iload_n hx hb d_Pa_member_41 rfl (lv_at hl 2 rfl) ?_
    have hn_4 : (p_wrap st_3 start 36 (f_Tk_name (sTk st_3) (sAt st_3)) wh) ≠ none := (fun z => hg (by unfold f_Pa_member; rw [if_neg c_1, bnd_r w_3, bnd_n z]))
    refine pT_v (g := (p_wrap st_3 start 36 (f_Tk_name (sTk st_3) (sAt st_3)) wh)) (st := st_3) (As := [.int start, .int 36, .int (f_Tk_name (sTk st_3) (sAt st_3)), .int wh]) (rest := []) ⟨hx, hb, hml, hown, hts0⟩ (m_Tr_wrap l dC dI cI cZ sa rk ht ad_3 (sTr st_3) ok_3.2.1 _ start 36 (f_Tk_name (sTk st_3) (sAt st_3)) wh (p_wrap_c hn_4).1 (p_wrap_c hn_4).2.1) hP hD hK hS hA hC hZ L_669 L_670 L_671 L_85 L_672 ⟨rfl, k_Tr_wrap⟩ ⟨Nat.le_of_ble_eq_true rfl, Nat.le_of_ble_eq_true rfl⟩ rfl rfl hl.1 (Nat.le_of_ble_eq_true rfl) d_Pa_member_42 rfl hcl hsl (p_wrap_c hn_4).2.2.1 (p_wrap_c hn_4).2.2.2 ok_3 (t_wrap_ok start 36 (f_Tk_name (sTk st_3) (sAt st_3)) wh ok_3.2.1 (p_wrap_c hn_4).1 (p_wrap_c hn_4).2.1) (p_wrap_e hn_4) (fun ad_4 st_4 H locs w_4 ok_4 e1_4 e2_4 hP hD hS => ?_)
    have hcl := cl_next hcl e1_4
    have hsl := cl_next hsl e2_4
    refine lv_aload_n hx hb d_Pa_member_45 rfl (lv_at hl 0 rfl) ?_
    refine lv_dup hx hb d_Pa_member_46 rfl ?_
    refine va_get (D := (dC, dI)) (ci := 2) (v := .int (sAt st_4)) (C := R_Pa) (T := T_Pa) (N := 7) hx hb hts u_Pa hown hK hP 0 rfl rfl 4 (by decide) (hts _ L_215) (fun x9 h9 => u_same (hts _ L_216) x9 h9) rfl d_Pa_member_47 ?_
    refine lv_iconst (v := 1) hx hb d_Pa_member_50 (by decide) ?_
    refine lv_iadd hx hb d_Pa_member_51 ?_
    refine va_put (D := (dC, dI)) (ci := 2) (v := .int ((sAt st_4) + 1)) (ty := .int) (C := R_Pa) (T := T_Pa) (N := 7) hx hb hts u_Pa ty_Pa tk_Pa nm_Pa hown hK hP hD hS 0 rfl rfl 4 (by decide) (hts _ L_215) (fun x9 h9 => u_same (hts _ L_216) x9 h9) rfl (by decide +kernel) rfl rfl (Nat.le_of_ble_eq_true rfl) d_Pa_member_52 (fun H locs hP hD hS => ?_)
    have hP : va_P (dC, dI) cls (wQ cI cZ hp hc h a1 a2 a3 a4 ht hq n1 n2 (ad_4, (setAt st_4 ((sAt st_4) + 1)))) H := hP
    have hD : va_D A (wQ cI cZ hp hc h a1 a2 a3 a4 ht hq n1 n2 (ad_4, (setAt st_4 ((sAt st_4) + 1)))) := hD
    exact mx_vret (stF := (setAt st_4 ((sAt st_4) + 1))) hx hb hr hlocks hK hP hD hS hcl hsl (by unfold f_Pa_member; rw [if_neg c_1, bnd_r w_3, bnd_r w_4]) (show okSt (setAt st_4 ((sAt st_4) + 1)) from ⟨ok_4.1, ok_4.2.1, ok_4.2.2.1, ok_4.2.2.2⟩) d_Pa_member_55
def f_Pa_postfix (st : ST) (start : Int32) : Rz := (if (f_Tk_line (sTk st) (sAt st)) = 0 then (if (f_Cu_atSign st 73) = 0 then (if (f_Cu_atSign st 74) = 0 then (some (.inr (0, st))) else (if (f_Pa_assignable st start) = 0 then (bnd (f_Cu_refuse st (sAt st)) (fun _ st_10 => (bnd (p_wrap st_10 start 44 4 (sAt st_10)) (fun _ st_11 => (some (.inr (0, (setAt st_11 ((sAt st_11) + 1))))))))) else (bnd (p_wrap st start 44 4 (sAt st)) (fun _ st_9 => (some (.inr (0, (setAt st_9 ((sAt st_9) + 1))))))))) else (if (f_Pa_assignable st start) = 0 then (bnd (f_Cu_refuse st (sAt st)) (fun _ st_5 => (bnd (p_wrap st_5 start 44 3 (sAt st_5)) (fun _ st_6 => (some (.inr (0, (setAt st_6 ((sAt st_6) + 1))))))))) else (bnd (p_wrap st start 44 3 (sAt st)) (fun _ st_4 => (some (.inr (0, (setAt st_4 ((sAt st_4) + 1))))))))) else (some (.inr (0, st))))
set_option maxRecDepth 100000 in
set_option maxHeartbeats 4000000 in
theorem m_Pa_postfix (l : Launch) (hlt : l.stackTraces = false) (dC : Nat → ClassId) (dI : Nat → Nat → Nat) (cI cZ : ClassId) (sa rk hp hc h a1 a2 a3 a4 ht hq n1 n2 : Nat) (ad : AD) (st : ST) (hst : okSt st) (sz : Nat) (start : Int32) (hg : f_Pa_postfix st start ≠ none) : cPv l y_Pa_postfix c_Pa_postfix 3 7 325 (dC, dI) cI cZ sa rk hp hc h a1 a2 a3 a4 ht hq n1 n2 ad st sz [.ref hp, .int start] (f_Pa_postfix st start) := by
  refine vx_ofW (cc := c_Pa_postfix) (maxL := 3) (ret := none) (by decide) rfl ?_
  intro p e s m args below meth c s₁ B hml hnt hv
  obtain ⟨rfl, hsz, hP, hK, hD0, hC, hZ⟩ := hv
  have hx := B.exec
  have hb := B.bytes
  have hr := B.returns
  have hts0 := atoms_spec (ws := wy y_Pa_postfix c_Pa_postfix 3 none) B.pre
  have hts := htsL hts0
  have hown : s.vm.findClass R_Pa = some m.cls := findClass_of_methodNamed B.named
  have hlocks := B.notSynchronized
  subst hsz
  have hD := hD0.self (sz := s.heap.size)
  generalize hAe : va_A (wQ cI cZ hp hc h a1 a2 a3 a4 ht hq n1 n2 (ad, st)) s.heap.size = A at hD hZ ⊢
  have hA : ∀ q : Nat, s.heap.size ≤ q → A q := fun q h => by rw [← hAe]; exact Or.inr h
  have hS : va_S A s.heap s.heap [] := va_S.rf
  have hcl : 0 + bC st ≤ bC st := Nat.le_of_eq (Nat.zero_add _)
  have hsl : 0 + bS st ≤ bS st := Nat.le_of_eq (Nat.zero_add _)
  have hl := lv_entry ([.ref hp, .int start]) (n := 3) (Nat.le_of_ble_eq_true rfl)
  rw [lg_entry_eq]
  generalize (lg_sl ([.ref hp, .int start]) ++ List.replicate (3 - (lg_sl ([.ref hp, .int start])).length) Slot.unset).toArray = ls at hl ⊢
  have hl : lv_has ls 3 [(0, .ref hp), (1, .int start)] := hl
  refine lv_aload_n hx hb d_Pa_postfix_0 rfl (lv_at hl 0 rfl) ?_
  refine lv_bipush (v := 73) hx hb d_Pa_postfix_1 (by decide) ?_
  refine rd_U (xm := ⟨"SyntaxTree$Parser", "atSign", "(I)Z"⟩) (owner := R_Cu) (v := (f_Cu_atSign st 73)) (As := [.int 73]) (rest := []) ⟨hx, hb, hml, hown, hts0⟩ (m_Cu_atSign l dC dI cI cZ hp hc h a1 a2 a3 a4 ht ad.1 ad.2.1 ad.2.2.1 ad.2.2.2 hq n1 n2 st hst 73) hP hK [0, 1, 2, 3, 4, 5, 6, 7, 8, 9, 10, 11, 12, 13, 14] rfl [0, 1] rfl 0 2 rfl rfl L_496 L_497 L_499 L_500 L_86 L_501 rfl k_Cu_atSign ⟨Nat.le_of_ble_eq_true rfl, Nat.le_of_ble_eq_true rfl⟩ hl.1 ⟨Nat.le_trans (Nat.le_add_right _ _) hcl, Nat.le_trans (Nat.le_add_right _ _) hsl⟩ (Nat.le_of_ble_eq_true rfl) d_Pa_postfix_3 rfl ?_
  refine lv_istore_n (lv' := [(2, .int (f_Cu_atSign st 73)), (0, .ref hp), (1, .int start)]) hx hb d_Pa_postfix_6 rfl hl (by decide) rfl (fun ls hl => ?_)
  refine lv_aload_n hx hb d_Pa_postfix_7 rfl (lv_at hl 1 rfl) ?_
  refine va_get (D := (dC, dI)) (ci := 2) (v := .ref h) (C := R_Pa) (T := T_Pa) (N := 7) hx hb hts u_Pa hown hK hP 0 rfl rfl 3 (by decide) (hts _ L_212) (fun x9 h9 => u_same (hts _ L_213) x9 h9) rfl d_Pa_postfix_8 ?_
  refine lv_aload_n hx hb d_Pa_postfix_11 rfl (lv_at hl 1 rfl) ?_
  refine va_get (D := (dC, dI)) (ci := 2) (v := .int (sAt st)) (C := R_Pa) (T := T_Pa) (N := 7) hx hb hts u_Pa hown hK hP 0 rfl rfl 4 (by decide) (hts _ L_215) (fun x9 h9 => u_same (hts _ L_216) x9 h9) rfl d_Pa_postfix_12 ?_
  refine rd_V (v := (f_Tk_line (sTk st) (sAt st))) (As := [.int (sAt st)]) (rest := []) ⟨hx, hb, hml, hown, hts0⟩ (m_Tk_line l dC dI cI cZ h a1 a2 a3 a4 (sTk st) hst.1 (sAt st)) hP hK [2, 3, 4, 5, 6] rfl [0, 1] rfl 0 3 rfl rfl L_678 L_679 L_680 L_84 L_681 ⟨rfl, k_Tk_line⟩ ⟨Nat.le_of_ble_eq_true rfl, Nat.le_of_ble_eq_true rfl⟩ hl.1 ⟨Nat.le_trans (Nat.le_add_right _ _) hcl, Nat.le_trans (Nat.le_add_right _ _) hsl⟩ (Nat.le_of_ble_eq_true rfl) d_Pa_postfix_15 rfl ?_
  refine lv_if_ne (tgt := 34) hx hb d_Pa_postfix_18 (by decide) (fun c_1 => ?_) (fun c_1 => ?_)
  · exact mx_vret (stF := st) hx hb hr hlocks hK hP hD hS hcl hsl (by unfold f_Pa_postfix; rw [if_neg c_1]) hst d_Pa_postfix_34
  · refine lv_iload_n hx hb d_Pa_postfix_21 rfl (lv_at hl 0 rfl) ?_
    refine lv_if_ne (tgt := 35) hx hb d_Pa_postfix_22 (by decide) (fun c_2 => ?_) (fun c_2 => ?_)
    · refine lv_aload_n hx hb d_Pa_postfix_35 rfl (lv_at hl 1 rfl) ?_
      refine lv_iload_n hx hb d_Pa_postfix_36 rfl (lv_at hl 2 rfl) ?_
      refine rd_V (v := (f_Pa_assignable st start)) (As := [.int start]) (rest := []) ⟨hx, hb, hml, hown, hts0⟩ (m_Pa_assignable l dC dI cI cZ hp hc h a1 a2 a3 a4 ht ad.1 ad.2.1 ad.2.2.1 ad.2.2.2 hq n1 n2 st hst start) hP hK [0, 1, 2, 3, 4, 5, 6, 7, 8, 9, 10, 11, 12, 13, 14] rfl [0, 1] rfl 0 2 rfl rfl L_586 L_588 L_15 L_87 L_589 ⟨rfl, k_Pa_assignable⟩ ⟨Nat.le_of_ble_eq_true rfl, Nat.le_of_ble_eq_true rfl⟩ hl.1 ⟨Nat.le_trans (Nat.le_add_right _ _) hcl, Nat.le_trans (Nat.le_add_right _ _) hsl⟩ (Nat.le_of_ble_eq_true rfl) d_Pa_postfix_37 rfl ?_
      refine lv_if_ne (tgt := 51) hx hb d_Pa_postfix_40 (by decide) (fun c_3 => ?_) (fun c_3 => ?_)
      · refine lv_aload_n hx hb d_Pa_postfix_51 rfl (lv_at hl 1 rfl) ?_
        refine va_get (D := (dC, dI)) (ci := 2) (v := .ref ht) (C := R_Pa) (T := T_Pa) (N := 7) hx hb hts u_Pa hown hK hP 0 rfl rfl 0 (by decide) (hts _ L_208) (fun _ h9 => h9) rfl d_Pa_postfix_52 ?_
        refine lv_iload_n hx hb d_Pa_postfix_55 rfl (lv_at hl 2 rfl) ?_
        refine lv_bipush (v := 44) hx hb d_Pa_postfix_56 (by decide) ?_
        refine lv_iload_n hx hb d_Pa_postfix_58 rfl (lv_at hl 0 rfl) ?_
        refine lv_if_eq (tgt := 66) hx hb d_Pa_postfix_59 (by decide) (fun q9 => absurd q9 c_2) (fun _ => ?_)
        refine lv_iconst (v := 3) hx hb d_Pa_postfix_62 (by decide) ?_
        refine lv_goto (tgt := 67) hx hb d_Pa_postfix_63 (by decide) ?_
        refine lv_aload_n hx hb d_Pa_postfix_67 rfl (lv_at hl 1 rfl) ?_
        refine va_get (D := (dC, dI)) (ci := 2) (v := .int (sAt st)) (C := R_Pa) (T := T_Pa) (N := 7) hx hb hts u_Pa hown hK hP 0 rfl rfl 4 (by decide) (hts _ L_215) (fun x9 h9 => u_same (hts _ L_216) x9 h9) rfl d_Pa_postfix_68 ?_
        have hn_4 : (p_wrap st start 44 3 (sAt st)) ≠ none := (fun z => hg (by unfold f_Pa_postfix; rw [if_pos c_1, if_neg c_2, if_neg c_3, bnd_n z]))
        refine pT_v (g := (p_wrap st start 44 3 (sAt st))) (st := st) (As := [.int start, .int 44, .int 3, .int (sAt st)]) (rest := []) ⟨hx, hb, hml, hown, hts0⟩ (m_Tr_wrap l dC dI cI cZ sa rk ht ad (sTr st) hst.2.1 _ start 44 3 (sAt st) (p_wrap_c hn_4).1 (p_wrap_c hn_4).2.1) hP hD hK hS hA hC hZ L_669 L_670 L_671 L_85 L_672 ⟨rfl, k_Tr_wrap⟩ ⟨Nat.le_of_ble_eq_true rfl, Nat.le_of_ble_eq_true rfl⟩ rfl rfl hl.1 (Nat.le_of_ble_eq_true rfl) d_Pa_postfix_71 rfl hcl hsl (p_wrap_c hn_4).2.2.1 (p_wrap_c hn_4).2.2.2 hst (t_wrap_ok start 44 3 (sAt st) hst.2.1 (p_wrap_c hn_4).1 (p_wrap_c hn_4).2.1) (p_wrap_e hn_4) (fun ad_4 st_4 H locs w_4 ok_4 e1_4 e2_4 hP hD hS => ?_)
        have hcl := cl_next hcl e1_4
        have hsl := cl_next hsl e2_4
        refine lv_aload_n hx hb d_Pa_postfix_74 rfl (lv_at hl 1 rfl) ?_
        refine lv_dup hx hb d_Pa_postfix_75 rfl ?_
        refine va_get (D := (dC, dI)) (ci := 2) (v := .int (sAt st_4)) (C := R_Pa) (T := T_Pa) (N := 7) hx hb hts u_Pa hown hK hP 0 rfl rfl 4 (by decide) (hts _ L_215) (fun x9 h9 => u_same (hts _ L_216) x9 h9) rfl d_Pa_postfix_76 ?_
        refine lv_iconst (v := 1) hx hb d_Pa_postfix_79 (by decide) ?_
        refine lv_iadd hx hb d_Pa_postfix_80 ?_
        refine va_put (D := (dC, dI)) (ci := 2) (v := .int ((sAt st_4) + 1)) (ty := .int) (C := R_Pa) (T := T_Pa) (N := 7) hx hb hts u_Pa ty_Pa tk_Pa nm_Pa hown hK hP hD hS 0 rfl rfl 4 (by decide) (hts _ L_215) (fun x9 h9 => u_same (hts _ L_216) x9 h9) rfl (by decide +kernel) rfl rfl (Nat.le_of_ble_eq_true rfl) d_Pa_postfix_81 (fun H locs hP hD hS => ?_)
        have hP : va_P (dC, dI) cls (wQ cI cZ hp hc h a1 a2 a3 a4 ht hq n1 n2 (ad_4, (setAt st_4 ((sAt st_4) + 1)))) H := hP
        have hD : va_D A (wQ cI cZ hp hc h a1 a2 a3 a4 ht hq n1 n2 (ad_4, (setAt st_4 ((sAt st_4) + 1)))) := hD
        exact mx_vret (stF := (setAt st_4 ((sAt st_4) + 1))) hx hb hr hlocks hK hP hD hS hcl hsl (by unfold f_Pa_postfix; rw [if_pos c_1, if_neg c_2, if_neg c_3, bnd_r w_4]) (show okSt (setAt st_4 ((sAt st_4) + 1)) from ⟨ok_4.1, ok_4.2.1, ok_4.2.2.1, ok_4.2.2.2⟩) d_Pa_postfix_84
      · refine lv_aload_n hx hb d_Pa_postfix_43 rfl (lv_at hl 1 rfl) ?_
        refine lv_aload_n hx hb d_Pa_postfix_44 rfl (lv_at hl 1 rfl) ?_
        refine va_get (D := (dC, dI)) (ci := 2) (v := .int (sAt st)) (C := R_Pa) (T := T_Pa) (N := 7) hx hb hts u_Pa hown hK hP 0 rfl rfl 4 (by decide) (hts _ L_215) (fun x9 h9 => u_same (hts _ L_216) x9 h9) rfl d_Pa_postfix_45 ?_
        refine mx_Uv (xm := ⟨"SyntaxTree$Parser", "refuse", "(I)V"⟩) (owner := R_Cu) (As := [.int (sAt st)]) (rest := []) ⟨hx, hb, hml, hown, hts0⟩ (m_Cu_refuse l hlt dC dI cI cZ sa rk hp hc h a1 a2 a3 a4 ht hq n1 n2 ad st hst _ (sAt st) (fun z => hg (by unfold f_Pa_postfix; rw [if_pos c_1, if_neg c_2, if_pos c_3, bnd_n z]))) hP hD hK hS hA hC hZ hnt hlocks L_536 L_537 L_539 L_460 L_86 L_463 rfl k_Cu_refuse ⟨Nat.le_of_ble_eq_true rfl, Nat.le_of_ble_eq_true rfl⟩ rfl rfl hl.1 (Nat.le_of_ble_eq_true rfl) d_Pa_postfix_48 rfl (fun q z => by unfold f_Pa_postfix; rw [if_pos c_1, if_neg c_2, if_pos c_3, bnd_l z]) hcl hsl (fun ad_5 st_5 H locs w_5 ok_5 e1_5 e2_5 hP hD hS => ?_)
        have hcl := cl_next hcl e1_5
        have hsl := cl_next hsl e2_5
        refine lv_aload_n hx hb d_Pa_postfix_51 rfl (lv_at hl 1 rfl) ?_
        refine va_get (D := (dC, dI)) (ci := 2) (v := .ref ht) (C := R_Pa) (T := T_Pa) (N := 7) hx hb hts u_Pa hown hK hP 0 rfl rfl 0 (by decide) (hts _ L_208) (fun _ h9 => h9) rfl d_Pa_postfix_52 ?_
        refine lv_iload_n hx hb d_Pa_postfix_55 rfl (lv_at hl 2 rfl) ?_
        refine lv_bipush (v := 44) hx hb d_Pa_postfix_56 (by decide) ?_
        refine lv_iload_n hx hb d_Pa_postfix_58 rfl (lv_at hl 0 rfl) ?_
        refine lv_if_eq (tgt := 66) hx hb d_Pa_postfix_59 (by decide) (fun q9 => absurd q9 c_2) (fun _ => ?_)
        refine lv_iconst (v := 3) hx hb d_Pa_postfix_62 (by decide) ?_
        refine lv_goto (tgt := 67) hx hb d_Pa_postfix_63 (by decide) ?_
        refine lv_aload_n hx hb d_Pa_postfix_67 rfl (lv_at hl 1 rfl) ?_
        refine va_get (D := (dC, dI)) (ci := 2) (v := .int (sAt st_5)) (C := R_Pa) (T := T_Pa) (N := 7) hx hb hts u_Pa hown hK hP 0 rfl rfl 4 (by decide) (hts _ L_215) (fun x9 h9 => u_same (hts _ L_216) x9 h9) rfl d_Pa_postfix_68 ?_
        have hn_6 : (p_wrap st_5 start 44 3 (sAt st_5)) ≠ none := (fun z => hg (by unfold f_Pa_postfix; rw [if_pos c_1, if_neg c_2, if_pos c_3, bnd_r w_5, bnd_n z]))
        refine pT_v (g := (p_wrap st_5 start 44 3 (sAt st_5))) (st := st_5) (As := [.int start, .int 44, .int 3, .int (sAt st_5)]) (rest := []) ⟨hx, hb, hml, hown, hts0⟩ (m_Tr_wrap l dC dI cI cZ sa rk ht ad_5 (sTr st_5) ok_5.2.1 _ start 44 3 (sAt st_5) (p_wrap_c hn_6).1 (p_wrap_c hn_6).2.1) hP hD hK hS hA hC hZ L_669 L_670 L_671 L_85 L_672 ⟨rfl, k_Tr_wrap⟩ ⟨Nat.le_of_ble_eq_true rfl, Nat.le_of_ble_eq_true rfl⟩ rfl rfl hl.1 (Nat.le_of_ble_eq_true rfl) d_Pa_postfix_71 rfl hcl hsl (p_wrap_c hn_6).2.2.1 (p_wrap_c hn_6).2.2.2 ok_5 (t_wrap_ok start 44 3 (sAt st_5) ok_5.2.1 (p_wrap_c hn_6).1 (p_wrap_c hn_6).2.1) (p_wrap_e hn_6) (fun ad_6 st_6 H locs w_6 ok_6 e1_6 e2_6 hP hD hS => ?_)
        have hcl := cl_next hcl e1_6
        have hsl := cl_next hsl e2_6
        refine lv_aload_n hx hb d_Pa_postfix_74 rfl (lv_at hl 1 rfl) ?_
        refine lv_dup hx hb d_Pa_postfix_75 rfl ?_
        refine va_get (D := (dC, dI)) (ci := 2) (v := .int (sAt st_6)) (C := R_Pa) (T := T_Pa) (N := 7) hx hb hts u_Pa hown hK hP 0 rfl rfl 4 (by decide) (hts _ L_215) (fun x9 h9 => u_same (hts _ L_216) x9 h9) rfl d_Pa_postfix_76 ?_
        refine lv_iconst (v := 1) hx hb d_Pa_postfix_79 (by decide) ?_
        refine lv_iadd hx hb d_Pa_postfix_80 ?_
        refine va_put (D := (dC, dI)) (ci := 2) (v := .int ((sAt st_6) + 1)) (ty := .int) (C := R_Pa) (T := T_Pa) (N := 7) hx hb hts u_Pa ty_Pa tk_Pa nm_Pa hown hK hP hD hS 0 rfl rfl 4 (by decide) (hts _ L_215) (fun x9 h9 => u_same (hts _ L_216) x9 h9) rfl (by decide +kernel) rfl rfl (Nat.le_of_ble_eq_true rfl) d_Pa_postfix_81 (fun H locs hP hD hS => ?_)
        have hP : va_P (dC, dI) cls (wQ cI cZ hp hc h a1 a2 a3 a4 ht hq n1 n2 (ad_6, (setAt st_6 ((sAt st_6) + 1)))) H := hP
        have hD : va_D A (wQ cI cZ hp hc h a1 a2 a3 a4 ht hq n1 n2 (ad_6, (setAt st_6 ((sAt st_6) + 1)))) := hD
        exact mx_vret (stF := (setAt st_6 ((sAt st_6) + 1))) hx hb hr hlocks hK hP hD hS hcl hsl (by unfold f_Pa_postfix; rw [if_pos c_1, if_neg c_2, if_pos c_3, bnd_r w_5, bnd_r w_6]) (show okSt (setAt st_6 ((sAt st_6) + 1)) from ⟨ok_6.1, ok_6.2.1, ok_6.2.2.1, ok_6.2.2.2⟩) d_Pa_postfix_84
    · refine lv_aload_n hx hb d_Pa_postfix_25 rfl (lv_at hl 1 rfl) ?_
      refine lv_bipush (v := 74) hx hb d_Pa_postfix_26 (by decide) ?_
      refine rd_U (xm := ⟨"SyntaxTree$Parser", "atSign", "(I)Z"⟩) (owner := R_Cu) (v := (f_Cu_atSign st 74)) (As := [.int 74]) (rest := []) ⟨hx, hb, hml, hown, hts0⟩ (m_Cu_atSign l dC dI cI cZ hp hc h a1 a2 a3 a4 ht ad.1 ad.2.1 ad.2.2.1 ad.2.2.2 hq n1 n2 st hst 74) hP hK [0, 1, 2, 3, 4, 5, 6, 7, 8, 9, 10, 11, 12, 13, 14] rfl [0, 1] rfl 0 2 rfl rfl L_496 L_497 L_499 L_500 L_86 L_501 rfl k_Cu_atSign ⟨Nat.le_of_ble_eq_true rfl, Nat.le_of_ble_eq_true rfl⟩ hl.1 ⟨Nat.le_trans (Nat.le_add_right _ _) hcl, Nat.le_trans (Nat.le_add_right _ _) hsl⟩ (Nat.le_of_ble_eq_true rfl) d_Pa_postfix_28 rfl ?_
      refine lv_if_ne (tgt := 35) hx hb d_Pa_postfix_31 (by decide) (fun c_7 => ?_) (fun c_7 => ?_)
      · refine lv_aload_n hx hb d_Pa_postfix_35 rfl (lv_at hl 1 rfl) ?_
        refine lv_iload_n hx hb d_Pa_postfix_36 rfl (lv_at hl 2 rfl) ?_
        refine rd_V (v := (f_Pa_assignable st start)) (As := [.int start]) (rest := []) ⟨hx, hb, hml, hown, hts0⟩ (m_Pa_assignable l dC dI cI cZ hp hc h a1 a2 a3 a4 ht ad.1 ad.2.1 ad.2.2.1 ad.2.2.2 hq n1 n2 st hst start) hP hK [0, 1, 2, 3, 4, 5, 6, 7, 8, 9, 10, 11, 12, 13, 14] rfl [0, 1] rfl 0 2 rfl rfl L_586 L_588 L_15 L_87 L_589 ⟨rfl, k_Pa_assignable⟩ ⟨Nat.le_of_ble_eq_true rfl, Nat.le_of_ble_eq_true rfl⟩ hl.1 ⟨Nat.le_trans (Nat.le_add_right _ _) hcl, Nat.le_trans (Nat.le_add_right _ _) hsl⟩ (Nat.le_of_ble_eq_true rfl) d_Pa_postfix_37 rfl ?_
        refine lv_if_ne (tgt := 51) hx hb d_Pa_postfix_40 (by decide) (fun c_8 => ?_) (fun c_8 => ?_)
        · refine lv_aload_n hx hb d_Pa_postfix_51 rfl (lv_at hl 1 rfl) ?_
          refine va_get (D := (dC, dI)) (ci := 2) (v := .ref ht) (C := R_Pa) (T := T_Pa) (N := 7) hx hb hts u_Pa hown hK hP 0 rfl rfl 0 (by decide) (hts _ L_208) (fun _ h9 => h9) rfl d_Pa_postfix_52 ?_
          refine lv_iload_n hx hb d_Pa_postfix_55 rfl (lv_at hl 2 rfl) ?_
          refine lv_bipush (v := 44) hx hb d_Pa_postfix_56 (by decide) ?_
          refine lv_iload_n hx hb d_Pa_postfix_58 rfl (lv_at hl 0 rfl) ?_
          refine lv_if_eq (tgt := 66) hx hb d_Pa_postfix_59 (by decide) (fun _ => ?_) (fun q9 => absurd c_2 q9)
          refine lv_iconst (v := 4) hx hb d_Pa_postfix_66 (by decide) ?_
          refine lv_aload_n hx hb d_Pa_postfix_67 rfl (lv_at hl 1 rfl) ?_
          refine va_get (D := (dC, dI)) (ci := 2) (v := .int (sAt st)) (C := R_Pa) (T := T_Pa) (N := 7) hx hb hts u_Pa hown hK hP 0 rfl rfl 4 (by decide) (hts _ L_215) (fun x9 h9 => u_same (hts _ L_216) x9 h9) rfl d_Pa_postfix_68 ?_
          have hn_9 : (p_wrap st start 44 4 (sAt st)) ≠ none := (fun z => hg (by unfold f_Pa_postfix; rw [if_pos c_1, if_pos c_2, if_neg c_7, if_neg c_8, bnd_n z]))
          refine pT_v (g := (p_wrap st start 44 4 (sAt st))) (st := st) (As := [.int start, .int 44, .int 4, .int (sAt st)]) (rest := []) ⟨hx, hb, hml, hown, hts0⟩ (m_Tr_wrap l dC dI cI cZ sa rk ht ad (sTr st) hst.2.1 _ start 44 4 (sAt st) (p_wrap_c hn_9).1 (p_wrap_c hn_9).2.1) hP hD hK hS hA hC hZ L_669 L_670 L_671 L_85 L_672 ⟨rfl, k_Tr_wrap⟩ ⟨Nat.le_of_ble_eq_true rfl, Nat.le_of_ble_eq_true rfl⟩ rfl rfl hl.1 (Nat.le_of_ble_eq_true rfl) d_Pa_postfix_71 rfl hcl hsl (p_wrap_c hn_9).2.2.1 (p_wrap_c hn_9).2.2.2 hst (t_wrap_ok start 44 4 (sAt st) hst.2.1 (p_wrap_c hn_9).1 (p_wrap_c hn_9).2.1) (p_wrap_e hn_9) (fun ad_9 st_9 H locs w_9 ok_9 e1_9 e2_9 hP hD hS => ?_)
          have hcl := cl_next hcl e1_9
          have hsl := cl_next hsl e2_9
          refine lv_aload_n hx hb d_Pa_postfix_74 rfl (lv_at hl 1 rfl) ?_
          refine lv_dup hx hb d_Pa_postfix_75 rfl ?_
          refine va_get (D := (dC, dI)) (ci := 2) (v := .int (sAt st_9)) (C := R_Pa) (T := T_Pa) (N := 7) hx hb hts u_Pa hown hK hP 0 rfl rfl 4 (by decide) (hts _ L_215) (fun x9 h9 => u_same (hts _ L_216) x9 h9) rfl d_Pa_postfix_76 ?_
          refine lv_iconst (v := 1) hx hb d_Pa_postfix_79 (by decide) ?_
          refine lv_iadd hx hb d_Pa_postfix_80 ?_
          refine va_put (D := (dC, dI)) (ci := 2) (v := .int ((sAt st_9) + 1)) (ty := .int) (C := R_Pa) (T := T_Pa) (N := 7) hx hb hts u_Pa ty_Pa tk_Pa nm_Pa hown hK hP hD hS 0 rfl rfl 4 (by decide) (hts _ L_215) (fun x9 h9 => u_same (hts _ L_216) x9 h9) rfl (by decide +kernel) rfl rfl (Nat.le_of_ble_eq_true rfl) d_Pa_postfix_81 (fun H locs hP hD hS => ?_)
          have hP : va_P (dC, dI) cls (wQ cI cZ hp hc h a1 a2 a3 a4 ht hq n1 n2 (ad_9, (setAt st_9 ((sAt st_9) + 1)))) H := hP
          have hD : va_D A (wQ cI cZ hp hc h a1 a2 a3 a4 ht hq n1 n2 (ad_9, (setAt st_9 ((sAt st_9) + 1)))) := hD
          exact mx_vret (stF := (setAt st_9 ((sAt st_9) + 1))) hx hb hr hlocks hK hP hD hS hcl hsl (by unfold f_Pa_postfix; rw [if_pos c_1, if_pos c_2, if_neg c_7, if_neg c_8, bnd_r w_9]) (show okSt (setAt st_9 ((sAt st_9) + 1)) from ⟨ok_9.1, ok_9.2.1, ok_9.2.2.1, ok_9.2.2.2⟩) d_Pa_postfix_84
        · refine lv_aload_n hx hb d_Pa_postfix_43 rfl (lv_at hl 1 rfl) ?_
          refine lv_aload_n hx hb d_Pa_postfix_44 rfl (lv_at hl 1 rfl) ?_
          refine va_get (D := (dC, dI)) (ci := 2) (v := .int (sAt st)) (C := R_Pa) (T := T_Pa) (N := 7) hx hb hts u_Pa hown hK hP 0 rfl rfl 4 (by decide) (hts _ L_215) (fun x9 h9 => u_same (hts _ L_216) x9 h9) rfl d_Pa_postfix_45 ?_
          refine mx_Uv (xm := ⟨"SyntaxTree$Parser", "refuse", "(I)V"⟩) (owner := R_Cu) (As := [.int (sAt st)]) (rest := []) ⟨hx, hb, hml, hown, hts0⟩ (m_Cu_refuse l hlt dC dI cI cZ sa rk hp hc h a1 a2 a3 a4 ht hq n1 n2 ad st hst _ (sAt st) (fun z => hg (by unfold f_Pa_postfix; rw [if_pos c_1, if_pos c_2, if_neg c_7, if_pos c_8, bnd_n z]))) hP hD hK hS hA hC hZ hnt hlocks L_536 L_537 L_539 L_460 L_86 L_463 rfl k_Cu_refuse ⟨Nat.le_of_ble_eq_true rfl, Nat.le_of_ble_eq_true rfl⟩ rfl rfl hl.1 (Nat.le_of_ble_eq_true rfl) d_Pa_postfix_48 rfl (fun q z => by unfold f_Pa_postfix; rw [if_pos c_1, if_pos c_2, if_neg c_7, if_pos c_8, bnd_l z]) hcl hsl (fun ad_10 st_10 H locs w_10 ok_10 e1_10 e2_10 hP hD hS => ?_)
          have hcl := cl_next hcl e1_10
          have hsl := cl_next hsl e2_10
          refine lv_aload_n hx hb d_Pa_postfix_51 rfl (lv_at hl 1 rfl) ?_
          refine va_get (D := (dC, dI)) (ci := 2) (v := .ref ht) (C := R_Pa) (T := T_Pa) (N := 7) hx hb hts u_Pa hown hK hP 0 rfl rfl 0 (by decide) (hts _ L_208) (fun _ h9 => h9) rfl d_Pa_postfix_52 ?_
          refine lv_iload_n hx hb d_Pa_postfix_55 rfl (lv_at hl 2 rfl) ?_
          refine lv_bipush (v := 44) hx hb d_Pa_postfix_56 (by decide) ?_
          refine lv_iload_n hx hb d_Pa_postfix_58 rfl (lv_at hl 0 rfl) ?_
          refine lv_if_eq (tgt := 66) hx hb d_Pa_postfix_59 (by decide) (fun _ => ?_) (fun q9 => absurd c_2 q9)
          refine lv_iconst (v := 4) hx hb d_Pa_postfix_66 (by decide) ?_
          refine lv_aload_n hx hb d_Pa_postfix_67 rfl (lv_at hl 1 rfl) ?_
          refine va_get (D := (dC, dI)) (ci := 2) (v := .int (sAt st_10)) (C := R_Pa) (T := T_Pa) (N := 7) hx hb hts u_Pa hown hK hP 0 rfl rfl 4 (by decide) (hts _ L_215) (fun x9 h9 => u_same (hts _ L_216) x9 h9) rfl d_Pa_postfix_68 ?_
          have hn_11 : (p_wrap st_10 start 44 4 (sAt st_10)) ≠ none := (fun z => hg (by unfold f_Pa_postfix; rw [if_pos c_1, if_pos c_2, if_neg c_7, if_pos c_8, bnd_r w_10, bnd_n z]))
          refine pT_v (g := (p_wrap st_10 start 44 4 (sAt st_10))) (st := st_10) (As := [.int start, .int 44, .int 4, .int (sAt st_10)]) (rest := []) ⟨hx, hb, hml, hown, hts0⟩ (m_Tr_wrap l dC dI cI cZ sa rk ht ad_10 (sTr st_10) ok_10.2.1 _ start 44 4 (sAt st_10) (p_wrap_c hn_11).1 (p_wrap_c hn_11).2.1) hP hD hK hS hA hC hZ L_669 L_670 L_671 L_85 L_672 ⟨rfl, k_Tr_wrap⟩ ⟨Nat.le_of_ble_eq_true rfl, Nat.le_of_ble_eq_true rfl⟩ rfl rfl hl.1 (Nat.le_of_ble_eq_true rfl) d_Pa_postfix_71 rfl hcl hsl (p_wrap_c hn_11).2.2.1 (p_wrap_c hn_11).2.2.2 ok_10 (t_wrap_ok start 44 4 (sAt st_10) ok_10.2.1 (p_wrap_c hn_11).1 (p_wrap_c hn_11).2.1) (p_wrap_e hn_11) (fun ad_11 st_11 H locs w_11 ok_11 e1_11 e2_11 hP hD hS => ?_)
          have hcl := cl_next hcl e1_11
          have hsl := cl_next hsl e2_11
          refine lv_aload_n hx hb d_Pa_postfix_74 rfl (lv_at hl 1 rfl) ?_
          refine lv_dup hx hb d_Pa_postfix_75 rfl ?_
          refine va_get (D := (dC, dI)) (ci := 2) (v := .int (sAt st_11)) (C := R_Pa) (T := T_Pa) (N := 7) hx hb hts u_Pa hown hK hP 0 rfl rfl 4 (by decide) (hts _ L_215) (fun x9 h9 => u_same (hts _ L_216) x9 h9) rfl d_Pa_postfix_76 ?_
          refine lv_iconst (v := 1) hx hb d_Pa_postfix_79 (by decide) ?_
          refine lv_iadd hx hb d_Pa_postfix_80 ?_
          refine va_put (D := (dC, dI)) (ci := 2) (v := .int ((sAt st_11) + 1)) (ty := .int) (C := R_Pa) (T := T_Pa) (N := 7) hx hb hts u_Pa ty_Pa tk_Pa nm_Pa hown hK hP hD hS 0 rfl rfl 4 (by decide) (hts _ L_215) (fun x9 h9 => u_same (hts _ L_216) x9 h9) rfl (by decide +kernel) rfl rfl (Nat.le_of_ble_eq_true rfl) d_Pa_postfix_81 (fun H locs hP hD hS => ?_)
          have hP : va_P (dC, dI) cls (wQ cI cZ hp hc h a1 a2 a3 a4 ht hq n1 n2 (ad_11, (setAt st_11 ((sAt st_11) + 1)))) H := hP
          have hD : va_D A (wQ cI cZ hp hc h a1 a2 a3 a4 ht hq n1 n2 (ad_11, (setAt st_11 ((sAt st_11) + 1)))) := hD
          exact mx_vret (stF := (setAt st_11 ((sAt st_11) + 1))) hx hb hr hlocks hK hP hD hS hcl hsl (by unfold f_Pa_postfix; rw [if_pos c_1, if_pos c_2, if_neg c_7, if_pos c_8, bnd_r w_10, bnd_r w_11]) (show okSt (setAt st_11 ((sAt st_11) + 1)) from ⟨ok_11.1, ok_11.2.1, ok_11.2.2.1, ok_11.2.2.2⟩) d_Pa_postfix_84
      · exact mx_vret (stF := st) hx hb hr hlocks hK hP hD hS hcl hsl (by unfold f_Pa_postfix; rw [if_pos c_1, if_pos c_2, if_pos c_7]) hst d_Pa_postfix_34
def f_Pa_leaf (st : ST)  : Rz := (if (f_Pa_leafKind st) = 28 then (bnd (p_open st (f_Pa_leafKind st) (f_Tk_name (sTk st) (sAt st)) (sAt st)) (fun r_2 st_2 => (some (.inr (0, (setAt st_2 ((sAt st_2) + 1))))))) else (if (f_Pa_leafKind st) = 29 then (bnd (p_open st (f_Pa_leafKind st) (sLi st) (sAt st)) (fun r_4 st_4 => (some (.inr (0, (setLi (setAt st_4 ((sAt st_4) + 1)) ((sLi st_4) + 1))))))) else (if (f_Pa_leafKind st) = 30 then (bnd (p_open st (f_Pa_leafKind st) (sLi st) (sAt st)) (fun r_6 st_6 => (some (.inr (0, (setLi (setAt st_6 ((sAt st_6) + 1)) ((sLi st_6) + 1))))))) else (if (f_Pa_leafKind st) = 31 then (bnd (p_open st (f_Pa_leafKind st) (sLi st) (sAt st)) (fun r_8 st_8 => (some (.inr (0, (setLi (setAt st_8 ((sAt st_8) + 1)) ((sLi st_8) + 1))))))) else (if (f_Pa_leafKind st) = 59 then (bnd (f_Cu_refuse st (sAt st)) (fun _ st_10 => (some (.inr (0, (setAt st_10 ((sAt st_10) + 1))))))) else (bnd (p_open st (f_Pa_leafKind st) 0 (sAt st)) (fun r_11 st_11 => (some (.inr (0, (setAt st_11 ((sAt st_11) + 1))))))))))))
set_option maxRecDepth 100000 in
set_option maxHeartbeats 4000000 in
theorem m_Pa_leaf (l : Launch) (hlt : l.stackTraces = false) (dC : Nat → ClassId) (dI : Nat → Nat → Nat) (cI cZ : ClassId) (sa rk hp hc h a1 a2 a3 a4 ht hq n1 n2 : Nat) (ad : AD) (st : ST) (hst : okSt st) (sz : Nat)  (hg : f_Pa_leaf st ≠ none) : cPv l y_Pa_leaf c_Pa_leaf 2 7 323 (dC, dI) cI cZ sa rk hp hc h a1 a2 a3 a4 ht hq n1 n2 ad st sz [.ref hp] (f_Pa_leaf st) := by
  refine vx_ofW (cc := c_Pa_leaf) (maxL := 2) (ret := none) (by decide) rfl ?_
  intro p e s m args below meth c s₁ B hml hnt hv
  obtain ⟨rfl, hsz, hP, hK, hD0, hC, hZ⟩ := hv
  have hx := B.exec
  have hb := B.bytes
  have hr := B.returns
  have hts0 := atoms_spec (ws := wy y_Pa_leaf c_Pa_leaf 2 none) B.pre
  have hts := htsL hts0
  have hown : s.vm.findClass R_Pa = some m.cls := findClass_of_methodNamed B.named
  have hlocks := B.notSynchronized
  subst hsz
  have hD := hD0.self (sz := s.heap.size)
  generalize hAe : va_A (wQ cI cZ hp hc h a1 a2 a3 a4 ht hq n1 n2 (ad, st)) s.heap.size = A at hD hZ ⊢
  have hA : ∀ q : Nat, s.heap.size ≤ q → A q := fun q h => by rw [← hAe]; exact Or.inr h
  have hS : va_S A s.heap s.heap [] := va_S.rf
  have hcl : 0 + bC st ≤ bC st := Nat.le_of_eq (Nat.zero_add _)
  have hsl : 0 + bS st ≤ bS st := Nat.le_of_eq (Nat.zero_add _)
  have hl := lv_entry ([.ref hp]) (n := 2) (Nat.le_of_ble_eq_true rfl)
  rw [lg_entry_eq]
  generalize (lg_sl ([.ref hp]) ++ List.replicate (2 - (lg_sl ([.ref hp])).length) Slot.unset).toArray = ls at hl ⊢
  have hl : lv_has ls 2 [(0, .ref hp)] := hl
  refine lv_aload_n hx hb d_Pa_leaf_0 rfl (lv_at hl 0 rfl) ?_
  refine rd_V (v := (f_Pa_leafKind st)) (As := []) (rest := []) ⟨hx, hb, hml, hown, hts0⟩ (m_Pa_leafKind l dC dI cI cZ hp hc h a1 a2 a3 a4 ht ad.1 ad.2.1 ad.2.2.1 ad.2.2.2 hq n1 n2 st hst ) hP hK [0, 1, 2, 3, 4, 5, 6, 7, 8, 9, 10, 11, 12, 13, 14] rfl [0, 1] rfl 0 2 rfl rfl L_647 L_649 L_25 L_87 L_650 ⟨rfl, k_Pa_leafKind⟩ ⟨Nat.le_of_ble_eq_true rfl, Nat.le_of_ble_eq_true rfl⟩ hl.1 ⟨Nat.le_trans (Nat.le_add_right _ _) hcl, Nat.le_trans (Nat.le_add_right _ _) hsl⟩ (Nat.le_of_ble_eq_true rfl) d_Pa_leaf_1 rfl ?_
  refine lv_istore_n (lv' := [(1, .int (f_Pa_leafKind st)), (0, .ref hp)]) hx hb d_Pa_leaf_4 rfl hl (by decide) rfl (fun ls hl => ?_)
  refine lv_iload_n hx hb d_Pa_leaf_5 rfl (lv_at hl 0 rfl) ?_
  refine sw_look hx hb [(28, 67), (29, 94), (30, 94), (31, 94), (59, 56)] 124 d_Pa_leaf_6 (by decide +kernel) (by decide) (by decide +kernel) ?_
  refine ⟨fun c_1 => ?_, fun c_1 => ?_⟩
  · refine lv_aload_n hx hb d_Pa_leaf_67 rfl (lv_at hl 1 rfl) ?_
    refine va_get (D := (dC, dI)) (ci := 2) (v := .ref ht) (C := R_Pa) (T := T_Pa) (N := 7) hx hb hts u_Pa hown hK hP 0 rfl rfl 0 (by decide) (hts _ L_208) (fun _ h9 => h9) rfl d_Pa_leaf_68 ?_
    refine lv_iload_n hx hb d_Pa_leaf_71 rfl (lv_at hl 0 rfl) ?_
    refine lv_aload_n hx hb d_Pa_leaf_72 rfl (lv_at hl 1 rfl) ?_
    refine va_get (D := (dC, dI)) (ci := 2) (v := .ref h) (C := R_Pa) (T := T_Pa) (N := 7) hx hb hts u_Pa hown hK hP 0 rfl rfl 3 (by decide) (hts _ L_212) (fun x9 h9 => u_same (hts _ L_213) x9 h9) rfl d_Pa_leaf_73 ?_
    refine lv_aload_n hx hb d_Pa_leaf_76 rfl (lv_at hl 1 rfl) ?_
    refine va_get (D := (dC, dI)) (ci := 2) (v := .int (sAt st)) (C := R_Pa) (T := T_Pa) (N := 7) hx hb hts u_Pa hown hK hP 0 rfl rfl 4 (by decide) (hts _ L_215) (fun x9 h9 => u_same (hts _ L_216) x9 h9) rfl d_Pa_leaf_77 ?_
    refine rd_V (v := (f_Tk_name (sTk st) (sAt st))) (As := [.int (sAt st)]) (rest := [.int (f_Pa_leafKind st), .ref ht]) ⟨hx, hb, hml, hown, hts0⟩ (m_Tk_name l dC dI cI cZ h a1 a2 a3 a4 (sTk st) hst.1 (sAt st)) hP hK [2, 3, 4, 5, 6] rfl [0, 1] rfl 0 3 rfl rfl L_623 L_478 L_479 L_84 L_480 ⟨rfl, k_Tk_name⟩ ⟨Nat.le_of_ble_eq_true rfl, Nat.le_of_ble_eq_true rfl⟩ hl.1 ⟨Nat.le_trans (Nat.le_add_right _ _) hcl, Nat.le_trans (Nat.le_add_right _ _) hsl⟩ (Nat.le_of_ble_eq_true rfl) d_Pa_leaf_80 rfl ?_
    refine lv_aload_n hx hb d_Pa_leaf_83 rfl (lv_at hl 1 rfl) ?_
    refine va_get (D := (dC, dI)) (ci := 2) (v := .int (sAt st)) (C := R_Pa) (T := T_Pa) (N := 7) hx hb hts u_Pa hown hK hP 0 rfl rfl 4 (by decide) (hts _ L_215) (fun x9 h9 => u_same (hts _ L_216) x9 h9) rfl d_Pa_leaf_84 ?_
    have hn_2 : (p_open st (f_Pa_leafKind st) (f_Tk_name (sTk st) (sAt st)) (sAt st)) ≠ none := (fun z => hg (by unfold f_Pa_leaf; rw [if_pos c_1, bnd_n z]))
    refine pT_i (g := (p_open st (f_Pa_leafKind st) (f_Tk_name (sTk st) (sAt st)) (sAt st))) (st := st) (As := [.int (f_Pa_leafKind st), .int (f_Tk_name (sTk st) (sAt st)), .int (sAt st)]) (rest := []) ⟨hx, hb, hml, hown, hts0⟩ (m_Tr_open l dC dI cI cZ sa rk ht ad (sTr st) hst.2.1 _ (f_Pa_leafKind st) (f_Tk_name (sTk st) (sAt st)) (sAt st) (p_open_c hn_2).1 (p_open_c hn_2).2.1) hP hD hK hS hA hC hZ L_416 L_417 L_418 L_85 L_419 ⟨rfl, k_Tr_open⟩ ⟨Nat.le_of_ble_eq_true rfl, Nat.le_of_ble_eq_true rfl⟩ rfl rfl hl.1 (Nat.le_of_ble_eq_true rfl) d_Pa_leaf_87 rfl hcl hsl (p_open_c hn_2).2.2.1 (p_open_c hn_2).2.2.2 hst (t_open_ok (f_Pa_leafKind st) (f_Tk_name (sTk st) (sAt st)) (sAt st) hst.2.1 (p_open_c hn_2).1 (p_open_c hn_2).2.1) (p_open_e hn_2) (fun r_2 ad_2 st_2 H locs w_2 ok_2 e1_2 e2_2 hP hD hS => ?_)
    have hcl := cl_next hcl e1_2
    have hsl := cl_next hsl e2_2
    refine lv_pop hx hb d_Pa_leaf_90 rfl ?_
    refine lv_goto (tgt := 138) hx hb d_Pa_leaf_91 (by decide) ?_
    refine lv_aload_n hx hb d_Pa_leaf_138 rfl (lv_at hl 1 rfl) ?_
    refine lv_dup hx hb d_Pa_leaf_139 rfl ?_
    refine va_get (D := (dC, dI)) (ci := 2) (v := .int (sAt st_2)) (C := R_Pa) (T := T_Pa) (N := 7) hx hb hts u_Pa hown hK hP 0 rfl rfl 4 (by decide) (hts _ L_215) (fun x9 h9 => u_same (hts _ L_216) x9 h9) rfl d_Pa_leaf_140 ?_
    refine lv_iconst (v := 1) hx hb d_Pa_leaf_143 (by decide) ?_
    refine lv_iadd hx hb d_Pa_leaf_144 ?_
    refine va_put (D := (dC, dI)) (ci := 2) (v := .int ((sAt st_2) + 1)) (ty := .int) (C := R_Pa) (T := T_Pa) (N := 7) hx hb hts u_Pa ty_Pa tk_Pa nm_Pa hown hK hP hD hS 0 rfl rfl 4 (by decide) (hts _ L_215) (fun x9 h9 => u_same (hts _ L_216) x9 h9) rfl (by decide +kernel) rfl rfl (Nat.le_of_ble_eq_true rfl) d_Pa_leaf_145 (fun H locs hP hD hS => ?_)
    have hP : va_P (dC, dI) cls (wQ cI cZ hp hc h a1 a2 a3 a4 ht hq n1 n2 (ad_2, (setAt st_2 ((sAt st_2) + 1)))) H := hP
    have hD : va_D A (wQ cI cZ hp hc h a1 a2 a3 a4 ht hq n1 n2 (ad_2, (setAt st_2 ((sAt st_2) + 1)))) := hD
    exact mx_vret (stF := (setAt st_2 ((sAt st_2) + 1))) hx hb hr hlocks hK hP hD hS hcl hsl (by unfold f_Pa_leaf; rw [if_pos c_1, bnd_r w_2]) (show okSt (setAt st_2 ((sAt st_2) + 1)) from ⟨ok_2.1, ok_2.2.1, ok_2.2.2.1, ok_2.2.2.2⟩) d_Pa_leaf_148
  · skip
    refine ⟨fun c_3 => ?_, fun c_3 => ?_⟩
    · refine lv_aload_n hx hb d_Pa_leaf_94 rfl (lv_at hl 1 rfl) ?_
      refine va_get (D := (dC, dI)) (ci := 2) (v := .ref ht) (C := R_Pa) (T := T_Pa) (N := 7) hx hb hts u_Pa hown hK hP 0 rfl rfl 0 (by decide) (hts _ L_208) (fun _ h9 => h9) rfl d_Pa_leaf_95 ?_
      refine lv_iload_n hx hb d_Pa_leaf_98 rfl (lv_at hl 0 rfl) ?_
      refine lv_aload_n hx hb d_Pa_leaf_99 rfl (lv_at hl 1 rfl) ?_
      refine va_get (D := (dC, dI)) (ci := 2) (v := .int (sLi st)) (C := R_Pa) (T := T_Pa) (N := 7) hx hb hts u_Pa hown hK hP 0 rfl rfl 2 (by decide) (hts _ L_210) (fun _ h9 => h9) rfl d_Pa_leaf_100 ?_
      refine lv_aload_n hx hb d_Pa_leaf_103 rfl (lv_at hl 1 rfl) ?_
      refine va_get (D := (dC, dI)) (ci := 2) (v := .int (sAt st)) (C := R_Pa) (T := T_Pa) (N := 7) hx hb hts u_Pa hown hK hP 0 rfl rfl 4 (by decide) (hts _ L_215) (fun x9 h9 => u_same (hts _ L_216) x9 h9) rfl d_Pa_leaf_104 ?_
      have hn_4 : (p_open st (f_Pa_leafKind st) (sLi st) (sAt st)) ≠ none := (fun z => hg (by unfold f_Pa_leaf; rw [if_neg c_1, if_pos c_3, bnd_n z]))
      refine pT_i (g := (p_open st (f_Pa_leafKind st) (sLi st) (sAt st))) (st := st) (As := [.int (f_Pa_leafKind st), .int (sLi st), .int (sAt st)]) (rest := []) ⟨hx, hb, hml, hown, hts0⟩ (m_Tr_open l dC dI cI cZ sa rk ht ad (sTr st) hst.2.1 _ (f_Pa_leafKind st) (sLi st) (sAt st) (p_open_c hn_4).1 (p_open_c hn_4).2.1) hP hD hK hS hA hC hZ L_416 L_417 L_418 L_85 L_419 ⟨rfl, k_Tr_open⟩ ⟨Nat.le_of_ble_eq_true rfl, Nat.le_of_ble_eq_true rfl⟩ rfl rfl hl.1 (Nat.le_of_ble_eq_true rfl) d_Pa_leaf_107 rfl hcl hsl (p_open_c hn_4).2.2.1 (p_open_c hn_4).2.2.2 hst (t_open_ok (f_Pa_leafKind st) (sLi st) (sAt st) hst.2.1 (p_open_c hn_4).1 (p_open_c hn_4).2.1) (p_open_e hn_4) (fun r_4 ad_4 st_4 H locs w_4 ok_4 e1_4 e2_4 hP hD hS => ?_)
      have hcl := cl_next hcl e1_4
      have hsl := cl_next hsl e2_4
      refine lv_pop hx hb d_Pa_leaf_110 rfl ?_
      refine lv_aload_n hx hb d_Pa_leaf_111 rfl (lv_at hl 1 rfl) ?_
      refine lv_dup hx hb d_Pa_leaf_112 rfl ?_
      refine va_get (D := (dC, dI)) (ci := 2) (v := .int (sLi st_4)) (C := R_Pa) (T := T_Pa) (N := 7) hx hb hts u_Pa hown hK hP 0 rfl rfl 2 (by decide) (hts _ L_210) (fun _ h9 => h9) rfl d_Pa_leaf_113 ?_
      refine lv_iconst (v := 1) hx hb d_Pa_leaf_116 (by decide) ?_
      refine lv_iadd hx hb d_Pa_leaf_117 ?_
      refine va_put (D := (dC, dI)) (ci := 2) (v := .int ((sLi st_4) + 1)) (ty := .int) (C := R_Pa) (T := T_Pa) (N := 7) hx hb hts u_Pa ty_Pa tk_Pa nm_Pa hown hK hP hD hS 0 rfl rfl 2 (by decide) (hts _ L_210) (fun _ h9 => h9) rfl (by decide +kernel) rfl rfl (Nat.le_of_ble_eq_true rfl) d_Pa_leaf_118 (fun H locs hP hD hS => ?_)
      have hP : va_P (dC, dI) cls (wQ cI cZ hp hc h a1 a2 a3 a4 ht hq n1 n2 (ad_4, (setLi st_4 ((sLi st_4) + 1)))) H := hP
      have hD : va_D A (wQ cI cZ hp hc h a1 a2 a3 a4 ht hq n1 n2 (ad_4, (setLi st_4 ((sLi st_4) + 1)))) := hD
      refine lv_goto (tgt := 138) hx hb d_Pa_leaf_121 (by decide) ?_
      refine lv_aload_n hx hb d_Pa_leaf_138 rfl (lv_at hl 1 rfl) ?_
      refine lv_dup hx hb d_Pa_leaf_139 rfl ?_
      refine va_get (D := (dC, dI)) (ci := 2) (v := .int (sAt st_4)) (C := R_Pa) (T := T_Pa) (N := 7) hx hb hts u_Pa hown hK hP 0 rfl rfl 4 (by decide) (hts _ L_215) (fun x9 h9 => u_same (hts _ L_216) x9 h9) rfl d_Pa_leaf_140 ?_
      refine lv_iconst (v := 1) hx hb d_Pa_leaf_143 (by decide) ?_
      refine lv_iadd hx hb d_Pa_leaf_144 ?_
      refine va_put (D := (dC, dI)) (ci := 2) (v := .int ((sAt st_4) + 1)) (ty := .int) (C := R_Pa) (T := T_Pa) (N := 7) hx hb hts u_Pa ty_Pa tk_Pa nm_Pa hown hK hP hD hS 0 rfl rfl 4 (by decide) (hts _ L_215) (fun x9 h9 => u_same (hts _ L_216) x9 h9) rfl (by decide +kernel) rfl rfl (Nat.le_of_ble_eq_true rfl) d_Pa_leaf_145 (fun H locs hP hD hS => ?_)
      have hP : va_P (dC, dI) cls (wQ cI cZ hp hc h a1 a2 a3 a4 ht hq n1 n2 (ad_4, (setLi (setAt st_4 ((sAt st_4) + 1)) ((sLi st_4) + 1)))) H := hP
      have hD : va_D A (wQ cI cZ hp hc h a1 a2 a3 a4 ht hq n1 n2 (ad_4, (setLi (setAt st_4 ((sAt st_4) + 1)) ((sLi st_4) + 1)))) := hD
      exact mx_vret (stF := (setLi (setAt st_4 ((sAt st_4) + 1)) ((sLi st_4) + 1))) hx hb hr hlocks hK hP hD hS hcl hsl (by unfold f_Pa_leaf; rw [if_neg c_1, if_pos c_3, bnd_r w_4]) (show okSt (setLi (setAt st_4 ((sAt st_4) + 1)) ((sLi st_4) + 1)) from ⟨ok_4.1, ok_4.2.1, ok_4.2.2.1, ok_4.2.2.2⟩) d_Pa_leaf_148
    · skip
      refine ⟨fun c_5 => ?_, fun c_5 => ?_⟩
      · refine lv_aload_n hx hb d_Pa_leaf_94 rfl (lv_at hl 1 rfl) ?_
        refine va_get (D := (dC, dI)) (ci := 2) (v := .ref ht) (C := R_Pa) (T := T_Pa) (N := 7) hx hb hts u_Pa hown hK hP 0 rfl rfl 0 (by decide) (hts _ L_208) (fun _ h9 => h9) rfl d_Pa_leaf_95 ?_
        refine lv_iload_n hx hb d_Pa_leaf_98 rfl (lv_at hl 0 rfl) ?_
        refine lv_aload_n hx hb d_Pa_leaf_99 rfl (lv_at hl 1 rfl) ?_
        refine va_get (D := (dC, dI)) (ci := 2) (v := .int (sLi st)) (C := R_Pa) (T := T_Pa) (N := 7) hx hb hts u_Pa hown hK hP 0 rfl rfl 2 (by decide) (hts _ L_210) (fun _ h9 => h9) rfl d_Pa_leaf_100 ?_
        refine lv_aload_n hx hb d_Pa_leaf_103 rfl (lv_at hl 1 rfl) ?_
        refine va_get (D := (dC, dI)) (ci := 2) (v := .int (sAt st)) (C := R_Pa) (T := T_Pa) (N := 7) hx hb hts u_Pa hown hK hP 0 rfl rfl 4 (by decide) (hts _ L_215) (fun x9 h9 => u_same (hts _ L_216) x9 h9) rfl d_Pa_leaf_104 ?_
        have hn_6 : (p_open st (f_Pa_leafKind st) (sLi st) (sAt st)) ≠ none := (fun z => hg (by unfold f_Pa_leaf; rw [if_neg c_1, if_neg c_3, if_pos c_5, bnd_n z]))
        refine pT_i (g := (p_open st (f_Pa_leafKind st) (sLi st) (sAt st))) (st := st) (As := [.int (f_Pa_leafKind st), .int (sLi st), .int (sAt st)]) (rest := []) ⟨hx, hb, hml, hown, hts0⟩ (m_Tr_open l dC dI cI cZ sa rk ht ad (sTr st) hst.2.1 _ (f_Pa_leafKind st) (sLi st) (sAt st) (p_open_c hn_6).1 (p_open_c hn_6).2.1) hP hD hK hS hA hC hZ L_416 L_417 L_418 L_85 L_419 ⟨rfl, k_Tr_open⟩ ⟨Nat.le_of_ble_eq_true rfl, Nat.le_of_ble_eq_true rfl⟩ rfl rfl hl.1 (Nat.le_of_ble_eq_true rfl) d_Pa_leaf_107 rfl hcl hsl (p_open_c hn_6).2.2.1 (p_open_c hn_6).2.2.2 hst (t_open_ok (f_Pa_leafKind st) (sLi st) (sAt st) hst.2.1 (p_open_c hn_6).1 (p_open_c hn_6).2.1) (p_open_e hn_6) (fun r_6 ad_6 st_6 H locs w_6 ok_6 e1_6 e2_6 hP hD hS => ?_)
        have hcl := cl_next hcl e1_6
        have hsl := cl_next hsl e2_6
        refine lv_pop hx hb d_Pa_leaf_110 rfl ?_
        refine lv_aload_n hx hb d_Pa_leaf_111 rfl (lv_at hl 1 rfl) ?_
        refine lv_dup hx hb d_Pa_leaf_112 rfl ?_
        refine va_get (D := (dC, dI)) (ci := 2) (v := .int (sLi st_6)) (C := R_Pa) (T := T_Pa) (N := 7) hx hb hts u_Pa hown hK hP 0 rfl rfl 2 (by decide) (hts _ L_210) (fun _ h9 => h9) rfl d_Pa_leaf_113 ?_
        refine lv_iconst (v := 1) hx hb d_Pa_leaf_116 (by decide) ?_
        refine lv_iadd hx hb d_Pa_leaf_117 ?_
        refine va_put (D := (dC, dI)) (ci := 2) (v := .int ((sLi st_6) + 1)) (ty := .int) (C := R_Pa) (T := T_Pa) (N := 7) hx hb hts u_Pa ty_Pa tk_Pa nm_Pa hown hK hP hD hS 0 rfl rfl 2 (by decide) (hts _ L_210) (fun _ h9 => h9) rfl (by decide +kernel) rfl rfl (Nat.le_of_ble_eq_true rfl) d_Pa_leaf_118 (fun H locs hP hD hS => ?_)
        have hP : va_P (dC, dI) cls (wQ cI cZ hp hc h a1 a2 a3 a4 ht hq n1 n2 (ad_6, (setLi st_6 ((sLi st_6) + 1)))) H := hP
        have hD : va_D A (wQ cI cZ hp hc h a1 a2 a3 a4 ht hq n1 n2 (ad_6, (setLi st_6 ((sLi st_6) + 1)))) := hD
        refine lv_goto (tgt := 138) hx hb d_Pa_leaf_121 (by decide) ?_
        refine lv_aload_n hx hb d_Pa_leaf_138 rfl (lv_at hl 1 rfl) ?_
        refine lv_dup hx hb d_Pa_leaf_139 rfl ?_
        refine va_get (D := (dC, dI)) (ci := 2) (v := .int (sAt st_6)) (C := R_Pa) (T := T_Pa) (N := 7) hx hb hts u_Pa hown hK hP 0 rfl rfl 4 (by decide) (hts _ L_215) (fun x9 h9 => u_same (hts _ L_216) x9 h9) rfl d_Pa_leaf_140 ?_
        refine lv_iconst (v := 1) hx hb d_Pa_leaf_143 (by decide) ?_
        refine lv_iadd hx hb d_Pa_leaf_144 ?_
        refine va_put (D := (dC, dI)) (ci := 2) (v := .int ((sAt st_6) + 1)) (ty := .int) (C := R_Pa) (T := T_Pa) (N := 7) hx hb hts u_Pa ty_Pa tk_Pa nm_Pa hown hK hP hD hS 0 rfl rfl 4 (by decide) (hts _ L_215) (fun x9 h9 => u_same (hts _ L_216) x9 h9) rfl (by decide +kernel) rfl rfl (Nat.le_of_ble_eq_true rfl) d_Pa_leaf_145 (fun H locs hP hD hS => ?_)
        have hP : va_P (dC, dI) cls (wQ cI cZ hp hc h a1 a2 a3 a4 ht hq n1 n2 (ad_6, (setLi (setAt st_6 ((sAt st_6) + 1)) ((sLi st_6) + 1)))) H := hP
        have hD : va_D A (wQ cI cZ hp hc h a1 a2 a3 a4 ht hq n1 n2 (ad_6, (setLi (setAt st_6 ((sAt st_6) + 1)) ((sLi st_6) + 1)))) := hD
        exact mx_vret (stF := (setLi (setAt st_6 ((sAt st_6) + 1)) ((sLi st_6) + 1))) hx hb hr hlocks hK hP hD hS hcl hsl (by unfold f_Pa_leaf; rw [if_neg c_1, if_neg c_3, if_pos c_5, bnd_r w_6]) (show okSt (setLi (setAt st_6 ((sAt st_6) + 1)) ((sLi st_6) + 1)) from ⟨ok_6.1, ok_6.2.1, ok_6.2.2.1, ok_6.2.2.2⟩) d_Pa_leaf_148
      · skip
        refine ⟨fun c_7 => ?_, fun c_7 => ?_⟩
        · refine lv_aload_n hx hb d_Pa_leaf_94 rfl (lv_at hl 1 rfl) ?_
          refine va_get (D := (dC, dI)) (ci := 2) (v := .ref ht) (C := R_Pa) (T := T_Pa) (N := 7) hx hb hts u_Pa hown hK hP 0 rfl rfl 0 (by decide) (hts _ L_208) (fun _ h9 => h9) rfl d_Pa_leaf_95 ?_
          refine lv_iload_n hx hb d_Pa_leaf_98 rfl (lv_at hl 0 rfl) ?_
          refine lv_aload_n hx hb d_Pa_leaf_99 rfl (lv_at hl 1 rfl) ?_
          refine va_get (D := (dC, dI)) (ci := 2) (v := .int (sLi st)) (C := R_Pa) (T := T_Pa) (N := 7) hx hb hts u_Pa hown hK hP 0 rfl rfl 2 (by decide) (hts _ L_210) (fun _ h9 => h9) rfl d_Pa_leaf_100 ?_
          refine lv_aload_n hx hb d_Pa_leaf_103 rfl (lv_at hl 1 rfl) ?_
          refine va_get (D := (dC, dI)) (ci := 2) (v := .int (sAt st)) (C := R_Pa) (T := T_Pa) (N := 7) hx hb hts u_Pa hown hK hP 0 rfl rfl 4 (by decide) (hts _ L_215) (fun x9 h9 => u_same (hts _ L_216) x9 h9) rfl d_Pa_leaf_104 ?_
          have hn_8 : (p_open st (f_Pa_leafKind st) (sLi st) (sAt st)) ≠ none := (fun z => hg (by unfold f_Pa_leaf; rw [if_neg c_1, if_neg c_3, if_neg c_5, if_pos c_7, bnd_n z]))
          refine pT_i (g := (p_open st (f_Pa_leafKind st) (sLi st) (sAt st))) (st := st) (As := [.int (f_Pa_leafKind st), .int (sLi st), .int (sAt st)]) (rest := []) ⟨hx, hb, hml, hown, hts0⟩ (m_Tr_open l dC dI cI cZ sa rk ht ad (sTr st) hst.2.1 _ (f_Pa_leafKind st) (sLi st) (sAt st) (p_open_c hn_8).1 (p_open_c hn_8).2.1) hP hD hK hS hA hC hZ L_416 L_417 L_418 L_85 L_419 ⟨rfl, k_Tr_open⟩ ⟨Nat.le_of_ble_eq_true rfl, Nat.le_of_ble_eq_true rfl⟩ rfl rfl hl.1 (Nat.le_of_ble_eq_true rfl) d_Pa_leaf_107 rfl hcl hsl (p_open_c hn_8).2.2.1 (p_open_c hn_8).2.2.2 hst (t_open_ok (f_Pa_leafKind st) (sLi st) (sAt st) hst.2.1 (p_open_c hn_8).1 (p_open_c hn_8).2.1) (p_open_e hn_8) (fun r_8 ad_8 st_8 H locs w_8 ok_8 e1_8 e2_8 hP hD hS => ?_)
          have hcl := cl_next hcl e1_8
          have hsl := cl_next hsl e2_8
          refine lv_pop hx hb d_Pa_leaf_110 rfl ?_
          refine lv_aload_n hx hb d_Pa_leaf_111 rfl (lv_at hl 1 rfl) ?_
          refine lv_dup hx hb d_Pa_leaf_112 rfl ?_
          refine va_get (D := (dC, dI)) (ci := 2) (v := .int (sLi st_8)) (C := R_Pa) (T := T_Pa) (N := 7) hx hb hts u_Pa hown hK hP 0 rfl rfl 2 (by decide) (hts _ L_210) (fun _ h9 => h9) rfl d_Pa_leaf_113 ?_
          refine lv_iconst (v := 1) hx hb d_Pa_leaf_116 (by decide) ?_
          refine lv_iadd hx hb d_Pa_leaf_117 ?_
          refine va_put (D := (dC, dI)) (ci := 2) (v := .int ((sLi st_8) + 1)) (ty := .int) (C := R_Pa) (T := T_Pa) (N := 7) hx hb hts u_Pa ty_Pa tk_Pa nm_Pa hown hK hP hD hS 0 rfl rfl 2 (by decide) (hts _ L_210) (fun _ h9 => h9) rfl (by decide +kernel) rfl rfl (Nat.le_of_ble_eq_true rfl) d_Pa_leaf_118 (fun H locs hP hD hS => ?_)
          have hP : va_P (dC, dI) cls (wQ cI cZ hp hc h a1 a2 a3 a4 ht hq n1 n2 (ad_8, (setLi st_8 ((sLi st_8) + 1)))) H := hP
          have hD : va_D A (wQ cI cZ hp hc h a1 a2 a3 a4 ht hq n1 n2 (ad_8, (setLi st_8 ((sLi st_8) + 1)))) := hD
          refine lv_goto (tgt := 138) hx hb d_Pa_leaf_121 (by decide) ?_
          refine lv_aload_n hx hb d_Pa_leaf_138 rfl (lv_at hl 1 rfl) ?_
          refine lv_dup hx hb d_Pa_leaf_139 rfl ?_
          refine va_get (D := (dC, dI)) (ci := 2) (v := .int (sAt st_8)) (C := R_Pa) (T := T_Pa) (N := 7) hx hb hts u_Pa hown hK hP 0 rfl rfl 4 (by decide) (hts _ L_215) (fun x9 h9 => u_same (hts _ L_216) x9 h9) rfl d_Pa_leaf_140 ?_
          refine lv_iconst (v := 1) hx hb d_Pa_leaf_143 (by decide) ?_
          refine lv_iadd hx hb d_Pa_leaf_144 ?_
          refine va_put (D := (dC, dI)) (ci := 2) (v := .int ((sAt st_8) + 1)) (ty := .int) (C := R_Pa) (T := T_Pa) (N := 7) hx hb hts u_Pa ty_Pa tk_Pa nm_Pa hown hK hP hD hS 0 rfl rfl 4 (by decide) (hts _ L_215) (fun x9 h9 => u_same (hts _ L_216) x9 h9) rfl (by decide +kernel) rfl rfl (Nat.le_of_ble_eq_true rfl) d_Pa_leaf_145 (fun H locs hP hD hS => ?_)
          have hP : va_P (dC, dI) cls (wQ cI cZ hp hc h a1 a2 a3 a4 ht hq n1 n2 (ad_8, (setLi (setAt st_8 ((sAt st_8) + 1)) ((sLi st_8) + 1)))) H := hP
          have hD : va_D A (wQ cI cZ hp hc h a1 a2 a3 a4 ht hq n1 n2 (ad_8, (setLi (setAt st_8 ((sAt st_8) + 1)) ((sLi st_8) + 1)))) := hD
          exact mx_vret (stF := (setLi (setAt st_8 ((sAt st_8) + 1)) ((sLi st_8) + 1))) hx hb hr hlocks hK hP hD hS hcl hsl (by unfold f_Pa_leaf; rw [if_neg c_1, if_neg c_3, if_neg c_5, if_pos c_7, bnd_r w_8]) (show okSt (setLi (setAt st_8 ((sAt st_8) + 1)) ((sLi st_8) + 1)) from ⟨ok_8.1, ok_8.2.1, ok_8.2.2.1, ok_8.2.2.2⟩) d_Pa_leaf_148
        · skip
          refine ⟨fun c_9 => ?_, fun c_9 => ?_⟩
          · refine lv_aload_n hx hb d_Pa_leaf_56 rfl (lv_at hl 1 rfl) ?_
            refine lv_aload_n hx hb d_Pa_leaf_57 rfl (lv_at hl 1 rfl) ?_
            refine va_get (D := (dC, dI)) (ci := 2) (v := .int (sAt st)) (C := R_Pa) (T := T_Pa) (N := 7) hx hb hts u_Pa hown hK hP 0 rfl rfl 4 (by decide) (hts _ L_215) (fun x9 h9 => u_same (hts _ L_216) x9 h9) rfl d_Pa_leaf_58 ?_
            refine mx_Uv (xm := ⟨"SyntaxTree$Parser", "refuse", "(I)V"⟩) (owner := R_Cu) (As := [.int (sAt st)]) (rest := []) ⟨hx, hb, hml, hown, hts0⟩ (m_Cu_refuse l hlt dC dI cI cZ sa rk hp hc h a1 a2 a3 a4 ht hq n1 n2 ad st hst _ (sAt st) (fun z => hg (by unfold f_Pa_leaf; rw [if_neg c_1, if_neg c_3, if_neg c_5, if_neg c_7, if_pos c_9, bnd_n z]))) hP hD hK hS hA hC hZ hnt hlocks L_536 L_537 L_539 L_460 L_86 L_463 rfl k_Cu_refuse ⟨Nat.le_of_ble_eq_true rfl, Nat.le_of_ble_eq_true rfl⟩ rfl rfl hl.1 (Nat.le_of_ble_eq_true rfl) d_Pa_leaf_61 rfl (fun q z => by unfold f_Pa_leaf; rw [if_neg c_1, if_neg c_3, if_neg c_5, if_neg c_7, if_pos c_9, bnd_l z]) hcl hsl (fun ad_10 st_10 H locs w_10 ok_10 e1_10 e2_10 hP hD hS => ?_)
            have hcl := cl_next hcl e1_10
            have hsl := cl_next hsl e2_10
            refine lv_goto (tgt := 138) hx hb d_Pa_leaf_64 (by decide) ?_
            refine lv_aload_n hx hb d_Pa_leaf_138 rfl (lv_at hl 1 rfl) ?_
            refine lv_dup hx hb d_Pa_leaf_139 rfl ?_
            refine va_get (D := (dC, dI)) (ci := 2) (v := .int (sAt st_10)) (C := R_Pa) (T := T_Pa) (N := 7) hx hb hts u_Pa hown hK hP 0 rfl rfl 4 (by decide) (hts _ L_215) (fun x9 h9 => u_same (hts _ L_216) x9 h9) rfl d_Pa_leaf_140 ?_
            refine lv_iconst (v := 1) hx hb d_Pa_leaf_143 (by decide) ?_
            refine lv_iadd hx hb d_Pa_leaf_144 ?_
            refine va_put (D := (dC, dI)) (ci := 2) (v := .int ((sAt st_10) + 1)) (ty := .int) (C := R_Pa) (T := T_Pa) (N := 7) hx hb hts u_Pa ty_Pa tk_Pa nm_Pa hown hK hP hD hS 0 rfl rfl 4 (by decide) (hts _ L_215) (fun x9 h9 => u_same (hts _ L_216) x9 h9) rfl (by decide +kernel) rfl rfl (Nat.le_of_ble_eq_true rfl) d_Pa_leaf_145 (fun H locs hP hD hS => ?_)
            have hP : va_P (dC, dI) cls (wQ cI cZ hp hc h a1 a2 a3 a4 ht hq n1 n2 (ad_10, (setAt st_10 ((sAt st_10) + 1)))) H := hP
            have hD : va_D A (wQ cI cZ hp hc h a1 a2 a3 a4 ht hq n1 n2 (ad_10, (setAt st_10 ((sAt st_10) + 1)))) := hD
            exact mx_vret (stF := (setAt st_10 ((sAt st_10) + 1))) hx hb hr hlocks hK hP hD hS hcl hsl (by unfold f_Pa_leaf; rw [if_neg c_1, if_neg c_3, if_neg c_5, if_neg c_7, if_pos c_9, bnd_r w_10]) (show okSt (setAt st_10 ((sAt st_10) + 1)) from ⟨ok_10.1, ok_10.2.1, ok_10.2.2.1, ok_10.2.2.2⟩) d_Pa_leaf_148
          · skip
            refine lv_aload_n hx hb d_Pa_leaf_124 rfl (lv_at hl 1 rfl) ?_
            refine va_get (D := (dC, dI)) (ci := 2) (v := .ref ht) (C := R_Pa) (T := T_Pa) (N := 7) hx hb hts u_Pa hown hK hP 0 rfl rfl 0 (by decide) (hts _ L_208) (fun _ h9 => h9) rfl d_Pa_leaf_125 ?_
            refine lv_iload_n hx hb d_Pa_leaf_128 rfl (lv_at hl 0 rfl) ?_
            refine lv_iconst (v := 0) hx hb d_Pa_leaf_129 (by decide) ?_
            refine lv_aload_n hx hb d_Pa_leaf_130 rfl (lv_at hl 1 rfl) ?_
            refine va_get (D := (dC, dI)) (ci := 2) (v := .int (sAt st)) (C := R_Pa) (T := T_Pa) (N := 7) hx hb hts u_Pa hown hK hP 0 rfl rfl 4 (by decide) (hts _ L_215) (fun x9 h9 => u_same (hts _ L_216) x9 h9) rfl d_Pa_leaf_131 ?_
            have hn_11 : (p_open st (f_Pa_leafKind st) 0 (sAt st)) ≠ none := (fun z => hg (by unfold f_Pa_leaf; rw [if_neg c_1, if_neg c_3, if_neg c_5, if_neg c_7, if_neg c_9, bnd_n z]))
            refine pT_i (g := (p_open st (f_Pa_leafKind st) 0 (sAt st))) (st := st) (As := [.int (f_Pa_leafKind st), .int 0, .int (sAt st)]) (rest := []) ⟨hx, hb, hml, hown, hts0⟩ (m_Tr_open l dC dI cI cZ sa rk ht ad (sTr st) hst.2.1 _ (f_Pa_leafKind st) 0 (sAt st) (p_open_c hn_11).1 (p_open_c hn_11).2.1) hP hD hK hS hA hC hZ L_416 L_417 L_418 L_85 L_419 ⟨rfl, k_Tr_open⟩ ⟨Nat.le_of_ble_eq_true rfl, Nat.le_of_ble_eq_true rfl⟩ rfl rfl hl.1 (Nat.le_of_ble_eq_true rfl) d_Pa_leaf_134 rfl hcl hsl (p_open_c hn_11).2.2.1 (p_open_c hn_11).2.2.2 hst (t_open_ok (f_Pa_leafKind st) 0 (sAt st) hst.2.1 (p_open_c hn_11).1 (p_open_c hn_11).2.1) (p_open_e hn_11) (fun r_11 ad_11 st_11 H locs w_11 ok_11 e1_11 e2_11 hP hD hS => ?_)
            have hcl := cl_next hcl e1_11
            have hsl := cl_next hsl e2_11
            refine lv_pop hx hb d_Pa_leaf_137 rfl ?_
            refine lv_aload_n hx hb d_Pa_leaf_138 rfl (lv_at hl 1 rfl) ?_
            refine lv_dup hx hb d_Pa_leaf_139 rfl ?_
            refine va_get (D := (dC, dI)) (ci := 2) (v := .int (sAt st_11)) (C := R_Pa) (T := T_Pa) (N := 7) hx hb hts u_Pa hown hK hP 0 rfl rfl 4 (by decide) (hts _ L_215) (fun x9 h9 => u_same (hts _ L_216) x9 h9) rfl d_Pa_leaf_140 ?_
            refine lv_iconst (v := 1) hx hb d_Pa_leaf_143 (by decide) ?_
            refine lv_iadd hx hb d_Pa_leaf_144 ?_
            refine va_put (D := (dC, dI)) (ci := 2) (v := .int ((sAt st_11) + 1)) (ty := .int) (C := R_Pa) (T := T_Pa) (N := 7) hx hb hts u_Pa ty_Pa tk_Pa nm_Pa hown hK hP hD hS 0 rfl rfl 4 (by decide) (hts _ L_215) (fun x9 h9 => u_same (hts _ L_216) x9 h9) rfl (by decide +kernel) rfl rfl (Nat.le_of_ble_eq_true rfl) d_Pa_leaf_145 (fun H locs hP hD hS => ?_)
            have hP : va_P (dC, dI) cls (wQ cI cZ hp hc h a1 a2 a3 a4 ht hq n1 n2 (ad_11, (setAt st_11 ((sAt st_11) + 1)))) H := hP
            have hD : va_D A (wQ cI cZ hp hc h a1 a2 a3 a4 ht hq n1 n2 (ad_11, (setAt st_11 ((sAt st_11) + 1)))) := hD
            exact mx_vret (stF := (setAt st_11 ((sAt st_11) + 1))) hx hb hr hlocks hK hP hD hS hcl hsl (by unfold f_Pa_leaf; rw [if_neg c_1, if_neg c_3, if_neg c_5, if_neg c_7, if_neg c_9, bnd_r w_11]) (show okSt (setAt st_11 ((sAt st_11) + 1)) from ⟨ok_11.1, ok_11.2.1, ok_11.2.2.1, ok_11.2.2.2⟩) d_Pa_leaf_148
def f_Pa_openClause (st : ST) (isD : Int32) (hasD : Int32) : Rz := (if isD = 0 then (bnd (p_open st 16 0 (sAt st)) (fun r_2 st_2 => (bnd (f_Cu_expectWord st_2 1) (fun _ st_3 => (some (.inr (r_2, st_3))))))) else (if hasD = 0 then (bnd (p_open st 17 0 (sAt st)) (fun r_5 st_5 => (bnd (f_Cu_expectWord st_5 5) (fun _ st_6 => (some (.inr (r_5, st_6))))))) else (bnd (f_Cu_refuse st (sAt st)) (fun _ st_7 => (bnd (p_open st_7 17 0 (sAt st_7)) (fun r_8 st_8 => (bnd (f_Cu_expectWord st_8 5) (fun _ st_9 => (some (.inr (r_8, st_9)))))))))))
set_option maxRecDepth 100000 in
set_option maxHeartbeats 4000000 in
theorem m_Pa_openClause (l : Launch) (hlt : l.stackTraces = false) (dC : Nat → ClassId) (dI : Nat → Nat → Nat) (cI cZ : ClassId) (sa rk hp hc h a1 a2 a3 a4 ht hq n1 n2 : Nat) (ad : AD) (st : ST) (hst : okSt st) (sz : Nat) (isD : Int32) (hasD : Int32) (hg : f_Pa_openClause st isD hasD ≠ none) : cPi l y_Pa_openClause c_Pa_openClause 4 .int 8 323 (dC, dI) cI cZ sa rk hp hc h a1 a2 a3 a4 ht hq n1 n2 ad st sz [.ref hp, .int isD, .int hasD] (f_Pa_openClause st isD hasD) := by
  refine vx_ofW (cc := c_Pa_openClause) (maxL := 4) (ret := (some .int)) (by decide) rfl ?_
  intro p e s m args below meth c s₁ B hml hnt hv
  obtain ⟨rfl, hsz, hP, hK, hD0, hC, hZ⟩ := hv
  have hx := B.exec
  have hb := B.bytes
  have hr := B.returns
  have hts0 := atoms_spec (ws := wy y_Pa_openClause c_Pa_openClause 4 (some .int)) B.pre
  have hts := htsL hts0
  have hown : s.vm.findClass R_Pa = some m.cls := findClass_of_methodNamed B.named
  have hlocks := B.notSynchronized
  subst hsz
  have hD := hD0.self (sz := s.heap.size)
  generalize hAe : va_A (wQ cI cZ hp hc h a1 a2 a3 a4 ht hq n1 n2 (ad, st)) s.heap.size = A at hD hZ ⊢
  have hA : ∀ q : Nat, s.heap.size ≤ q → A q := fun q h => by rw [← hAe]; exact Or.inr h
  have hS : va_S A s.heap s.heap [] := va_S.rf
  have hcl : 0 + bC st ≤ bC st := Nat.le_of_eq (Nat.zero_add _)
  have hsl : 0 + bS st ≤ bS st := Nat.le_of_eq (Nat.zero_add _)
  have hl := lv_entry ([.ref hp, .int isD, .int hasD]) (n := 4) (Nat.le_of_ble_eq_true rfl)
  rw [lg_entry_eq]
  generalize (lg_sl ([.ref hp, .int isD, .int hasD]) ++ List.replicate (4 - (lg_sl ([.ref hp, .int isD, .int hasD])).length) Slot.unset).toArray = ls at hl ⊢
  have hl : lv_has ls 4 [(0, .ref hp), (1, .int isD), (2, .int hasD)] := hl
  refine lv_iload_n hx hb d_Pa_openClause_0 rfl (lv_at hl 1 rfl) ?_
  refine lv_if_eq (tgt := 16) hx hb d_Pa_openClause_1 (by decide) (fun c_1 => ?_) (fun c_1 => ?_)
  · refine lv_aload_n hx hb d_Pa_openClause_16 rfl (lv_at hl 0 rfl) ?_
    refine va_get (D := (dC, dI)) (ci := 2) (v := .ref ht) (C := R_Pa) (T := T_Pa) (N := 7) hx hb hts u_Pa hown hK hP 0 rfl rfl 0 (by decide) (hts _ L_208) (fun _ h9 => h9) rfl d_Pa_openClause_17 ?_
    refine lv_iload_n hx hb d_Pa_openClause_20 rfl (lv_at hl 1 rfl) ?_
    refine lv_if_eq (tgt := 29) hx hb d_Pa_openClause_21 (by decide) (fun _ => ?_) (fun q9 => absurd c_1 q9)
    refine lv_bipush (v := 16) hx hb d_Pa_openClause_29 (by decide) ?_
    refine lv_iconst (v := 0) hx hb d_Pa_openClause_31 (by decide) ?_
    refine lv_aload_n hx hb d_Pa_openClause_32 rfl (lv_at hl 0 rfl) ?_
    refine va_get (D := (dC, dI)) (ci := 2) (v := .int (sAt st)) (C := R_Pa) (T := T_Pa) (N := 7) hx hb hts u_Pa hown hK hP 0 rfl rfl 4 (by decide) (hts _ L_215) (fun x9 h9 => u_same (hts _ L_216) x9 h9) rfl d_Pa_openClause_33 ?_
    have hn_2 : (p_open st 16 0 (sAt st)) ≠ none := (fun z => hg (by unfold f_Pa_openClause; rw [if_pos c_1, bnd_n z]))
    refine pT_i (g := (p_open st 16 0 (sAt st))) (st := st) (As := [.int 16, .int 0, .int (sAt st)]) (rest := []) ⟨hx, hb, hml, hown, hts0⟩ (m_Tr_open l dC dI cI cZ sa rk ht ad (sTr st) hst.2.1 _ 16 0 (sAt st) (p_open_c hn_2).1 (p_open_c hn_2).2.1) hP hD hK hS hA hC hZ L_416 L_417 L_418 L_85 L_419 ⟨rfl, k_Tr_open⟩ ⟨Nat.le_of_ble_eq_true rfl, Nat.le_of_ble_eq_true rfl⟩ rfl rfl hl.1 (Nat.le_of_ble_eq_true rfl) d_Pa_openClause_36 rfl hcl hsl (p_open_c hn_2).2.2.1 (p_open_c hn_2).2.2.2 hst (t_open_ok 16 0 (sAt st) hst.2.1 (p_open_c hn_2).1 (p_open_c hn_2).2.1) (p_open_e hn_2) (fun r_2 ad_2 st_2 H locs w_2 ok_2 e1_2 e2_2 hP hD hS => ?_)
    have hcl := cl_next hcl e1_2
    have hsl := cl_next hsl e2_2
    refine lv_istore_n (lv' := [(3, .int r_2), (0, .ref hp), (1, .int isD), (2, .int hasD)]) hx hb d_Pa_openClause_39 rfl hl (by decide) rfl (fun ls hl => ?_)
    refine lv_aload_n hx hb d_Pa_openClause_40 rfl (lv_at hl 1 rfl) ?_
    refine lv_iload_n hx hb d_Pa_openClause_41 rfl (lv_at hl 2 rfl) ?_
    refine lv_if_eq (tgt := 49) hx hb d_Pa_openClause_42 (by decide) (fun _ => ?_) (fun q9 => absurd c_1 q9)
    refine lv_iconst (v := 1) hx hb d_Pa_openClause_49 (by decide) ?_
    refine mx_Uv (xm := ⟨"SyntaxTree$Parser", "expectWord", "(I)V"⟩) (owner := R_Cu) (As := [.int 1]) (rest := []) ⟨hx, hb, hml, hown, hts0⟩ (m_Cu_expectWord l hlt dC dI cI cZ sa rk hp hc h a1 a2 a3 a4 ht hq n1 n2 ad_2 st_2 ok_2 _ 1 (fun z => hg (by unfold f_Pa_openClause; rw [if_pos c_1, bnd_r w_2, bnd_n z]))) hP hD hK hS hA hC hZ hnt hlocks L_736 L_737 L_739 L_740 L_86 L_741 rfl k_Cu_expectWord ⟨Nat.le_of_ble_eq_true rfl, Nat.le_of_ble_eq_true rfl⟩ rfl rfl hl.1 (Nat.le_of_ble_eq_true rfl) d_Pa_openClause_50 rfl (fun q z => by unfold f_Pa_openClause; rw [if_pos c_1, bnd_r w_2, bnd_l z]) hcl hsl (fun ad_3 st_3 H locs w_3 ok_3 e1_3 e2_3 hP hD hS => ?_)
    have hcl := cl_next hcl e1_3
    have hsl := cl_next hsl e2_3
    refine lv_iload_n hx hb d_Pa_openClause_53 rfl (lv_at hl 0 rfl) ?_
    exact mx_iret (v := r_2) (stF := st_3) hx hb hr hlocks hK hP hD hS hcl hsl (by unfold f_Pa_openClause; rw [if_pos c_1, bnd_r w_2, bnd_r w_3]) ok_3 d_Pa_openClause_54
  · refine lv_iload_n hx hb d_Pa_openClause_4 rfl (lv_at hl 2 rfl) ?_
    refine lv_if_eq (tgt := 16) hx hb d_Pa_openClause_5 (by decide) (fun c_4 => ?_) (fun c_4 => ?_)
    · refine lv_aload_n hx hb d_Pa_openClause_16 rfl (lv_at hl 0 rfl) ?_
      refine va_get (D := (dC, dI)) (ci := 2) (v := .ref ht) (C := R_Pa) (T := T_Pa) (N := 7) hx hb hts u_Pa hown hK hP 0 rfl rfl 0 (by decide) (hts _ L_208) (fun _ h9 => h9) rfl d_Pa_openClause_17 ?_
      refine lv_iload_n hx hb d_Pa_openClause_20 rfl (lv_at hl 1 rfl) ?_
      refine lv_if_eq (tgt := 29) hx hb d_Pa_openClause_21 (by decide) (fun q9 => absurd q9 c_1) (fun _ => ?_)
      refine lv_bipush (v := 17) hx hb d_Pa_openClause_24 (by decide) ?_
      refine lv_goto (tgt := 31) hx hb d_Pa_openClause_26 (by decide) ?_
      refine lv_iconst (v := 0) hx hb d_Pa_openClause_31 (by decide) ?_
      refine lv_aload_n hx hb d_Pa_openClause_32 rfl (lv_at hl 0 rfl) ?_
      refine va_get (D := (dC, dI)) (ci := 2) (v := .int (sAt st)) (C := R_Pa) (T := T_Pa) (N := 7) hx hb hts u_Pa hown hK hP 0 rfl rfl 4 (by decide) (hts _ L_215) (fun x9 h9 => u_same (hts _ L_216) x9 h9) rfl d_Pa_openClause_33 ?_
      have hn_5 : (p_open st 17 0 (sAt st)) ≠ none := (fun z => hg (by unfold f_Pa_openClause; rw [if_neg c_1, if_pos c_4, bnd_n z]))
      refine pT_i (g := (p_open st 17 0 (sAt st))) (st := st) (As := [.int 17, .int 0, .int (sAt st)]) (rest := []) ⟨hx, hb, hml, hown, hts0⟩ (m_Tr_open l dC dI cI cZ sa rk ht ad (sTr st) hst.2.1 _ 17 0 (sAt st) (p_open_c hn_5).1 (p_open_c hn_5).2.1) hP hD hK hS hA hC hZ L_416 L_417 L_418 L_85 L_419 ⟨rfl, k_Tr_open⟩ ⟨Nat.le_of_ble_eq_true rfl, Nat.le_of_ble_eq_true rfl⟩ rfl rfl hl.1 (Nat.le_of_ble_eq_true rfl) d_Pa_openClause_36 rfl hcl hsl (p_open_c hn_5).2.2.1 (p_open_c hn_5).2.2.2 hst (t_open_ok 17 0 (sAt st) hst.2.1 (p_open_c hn_5).1 (p_open_c hn_5).2.1) (p_open_e hn_5) (fun r_5 ad_5 st_5 H locs w_5 ok_5 e1_5 e2_5 hP hD hS => ?_)
      have hcl := cl_next hcl e1_5
      have hsl := cl_next hsl e2_5
      refine lv_istore_n (lv' := [(3, .int r_5), (0, .ref hp), (1, .int isD), (2, .int hasD)]) hx hb d_Pa_openClause_39 rfl hl (by decide) rfl (fun ls hl => ?_)
      refine lv_aload_n hx hb d_Pa_openClause_40 rfl (lv_at hl 1 rfl) ?_
      refine lv_iload_n hx hb d_Pa_openClause_41 rfl (lv_at hl 2 rfl) ?_
      refine lv_if_eq (tgt := 49) hx hb d_Pa_openClause_42 (by decide) (fun q9 => absurd q9 c_1) (fun _ => ?_)
      refine lv_iconst (v := 5) hx hb d_Pa_openClause_45 (by decide) ?_
      refine lv_goto (tgt := 50) hx hb d_Pa_openClause_46 (by decide) ?_
      refine mx_Uv (xm := ⟨"SyntaxTree$Parser", "expectWord", "(I)V"⟩) (owner := R_Cu) (As := [.int 5]) (rest := []) ⟨hx, hb, hml, hown, hts0⟩ (m_Cu_expectWord l hlt dC dI cI cZ sa rk hp hc h a1 a2 a3 a4 ht hq n1 n2 ad_5 st_5 ok_5 _ 5 (fun z => hg (by unfold f_Pa_openClause; rw [if_neg c_1, if_pos c_4, bnd_r w_5, bnd_n z]))) hP hD hK hS hA hC hZ hnt hlocks L_736 L_737 L_739 L_740 L_86 L_741 rfl k_Cu_expectWord ⟨Nat.le_of_ble_eq_true rfl, Nat.le_of_ble_eq_true rfl⟩ rfl rfl hl.1 (Nat.le_of_ble_eq_true rfl) d_Pa_openClause_50 rfl (fun q z => by unfold f_Pa_openClause; rw [if_neg c_1, if_pos c_4, bnd_r w_5, bnd_l z]) hcl hsl (fun ad_6 st_6 H locs w_6 ok_6 e1_6 e2_6 hP hD hS => ?_)
      have hcl := cl_next hcl e1_6
      have hsl := cl_next hsl e2_6
      refine lv_iload_n hx hb d_Pa_openClause_53 rfl (lv_at hl 0 rfl) ?_
      exact mx_iret (v := r_5) (stF := st_6) hx hb hr hlocks hK hP hD hS hcl hsl (by unfold f_Pa_openClause; rw [if_neg c_1, if_pos c_4, bnd_r w_5, bnd_r w_6]) ok_6 d_Pa_openClause_54
    · refine lv_aload_n hx hb d_Pa_openClause_8 rfl (lv_at hl 0 rfl) ?_
      refine lv_aload_n hx hb d_Pa_openClause_9 rfl (lv_at hl 0 rfl) ?_
      refine va_get (D := (dC, dI)) (ci := 2) (v := .int (sAt st)) (C := R_Pa) (T := T_Pa) (N := 7) hx hb hts u_Pa hown hK hP 0 rfl rfl 4 (by decide) (hts _ L_215) (fun x9 h9 => u_same (hts _ L_216) x9 h9) rfl d_Pa_openClause_10 ?_
      refine mx_Uv (xm := ⟨"SyntaxTree$Parser", "refuse", "(I)V"⟩) (owner := R_Cu) (As := [.int (sAt st)]) (rest := []) ⟨hx, hb, hml, hown, hts0⟩ (m_Cu_refuse l hlt dC dI cI cZ sa rk hp hc h a1 a2 a3 a4 ht hq n1 n2 ad st hst _ (sAt st) (fun z => hg (by unfold f_Pa_openClause; rw [if_neg c_1, if_neg c_4, bnd_n z]))) hP hD hK hS hA hC hZ hnt hlocks L_536 L_537 L_539 L_460 L_86 L_463 rfl k_Cu_refuse ⟨Nat.le_of_ble_eq_true rfl, Nat.le_of_ble_eq_true rfl⟩ rfl rfl hl.1 (Nat.le_of_ble_eq_true rfl) d_Pa_openClause_13 rfl (fun q z => by unfold f_Pa_openClause; rw [if_neg c_1, if_neg c_4, bnd_l z]) hcl hsl (fun ad_7 st_7 H locs w_7 ok_7 e1_7 e2_7 hP hD hS => ?_)
      have hcl := cl_next hcl e1_7
      have hsl := cl_next hsl e2_7
      refine lv_aload_n hx hb d_Pa_openClause_16 rfl (lv_at hl 0 rfl) ?_
      refine va_get (D := (dC, dI)) (ci := 2) (v := .ref ht) (C := R_Pa) (T := T_Pa) (N := 7) hx hb hts u_Pa hown hK hP 0 rfl rfl 0 (by decide) (hts _ L_208) (fun _ h9 => h9) rfl d_Pa_openClause_17 ?_
      refine lv_iload_n hx hb d_Pa_openClause_20 rfl (lv_at hl 1 rfl) ?_
      refine lv_if_eq (tgt := 29) hx hb d_Pa_openClause_21 (by decide) (fun q9 => absurd q9 c_1) (fun _ => ?_)
      refine lv_bipush (v := 17) hx hb d_Pa_openClause_24 (by decide) ?_
      refine lv_goto (tgt := 31) hx hb d_Pa_openClause_26 (by decide) ?_
      refine lv_iconst (v := 0) hx hb d_Pa_openClause_31 (by decide) ?_
      refine lv_aload_n hx hb d_Pa_openClause_32 rfl (lv_at hl 0 rfl) ?_
      refine va_get (D := (dC, dI)) (ci := 2) (v := .int (sAt st_7)) (C := R_Pa) (T := T_Pa) (N := 7) hx hb hts u_Pa hown hK hP 0 rfl rfl 4 (by decide) (hts _ L_215) (fun x9 h9 => u_same (hts _ L_216) x9 h9) rfl d_Pa_openClause_33 ?_
      have hn_8 : (p_open st_7 17 0 (sAt st_7)) ≠ none := (fun z => hg (by unfold f_Pa_openClause; rw [if_neg c_1, if_neg c_4, bnd_r w_7, bnd_n z]))
      refine pT_i (g := (p_open st_7 17 0 (sAt st_7))) (st := st_7) (As := [.int 17, .int 0, .int (sAt st_7)]) (rest := []) ⟨hx, hb, hml, hown, hts0⟩ (m_Tr_open l dC dI cI cZ sa rk ht ad_7 (sTr st_7) ok_7.2.1 _ 17 0 (sAt st_7) (p_open_c hn_8).1 (p_open_c hn_8).2.1) hP hD hK hS hA hC hZ L_416 L_417 L_418 L_85 L_419 ⟨rfl, k_Tr_open⟩ ⟨Nat.le_of_ble_eq_true rfl, Nat.le_of_ble_eq_true rfl⟩ rfl rfl hl.1 (Nat.le_of_ble_eq_true rfl) d_Pa_openClause_36 rfl hcl hsl (p_open_c hn_8).2.2.1 (p_open_c hn_8).2.2.2 ok_7 (t_open_ok 17 0 (sAt st_7) ok_7.2.1 (p_open_c hn_8).1 (p_open_c hn_8).2.1) (p_open_e hn_8) (fun r_8 ad_8 st_8 H locs w_8 ok_8 e1_8 e2_8 hP hD hS => ?_)
      have hcl := cl_next hcl e1_8
      have hsl := cl_next hsl e2_8
      refine lv_istore_n (lv' := [(3, .int r_8), (0, .ref hp), (1, .int isD), (2, .int hasD)]) hx hb d_Pa_openClause_39 rfl hl (by decide) rfl (fun ls hl => ?_)
      refine lv_aload_n hx hb d_Pa_openClause_40 rfl (lv_at hl 1 rfl) ?_
      refine lv_iload_n hx hb d_Pa_openClause_41 rfl (lv_at hl 2 rfl) ?_
      refine lv_if_eq (tgt := 49) hx hb d_Pa_openClause_42 (by decide) (fun q9 => absurd q9 c_1) (fun _ => ?_)
      refine lv_iconst (v := 5) hx hb d_Pa_openClause_45 (by decide) ?_
      refine lv_goto (tgt := 50) hx hb d_Pa_openClause_46 (by decide) ?_
      refine mx_Uv (xm := ⟨"SyntaxTree$Parser", "expectWord", "(I)V"⟩) (owner := R_Cu) (As := [.int 5]) (rest := []) ⟨hx, hb, hml, hown, hts0⟩ (m_Cu_expectWord l hlt dC dI cI cZ sa rk hp hc h a1 a2 a3 a4 ht hq n1 n2 ad_8 st_8 ok_8 _ 5 (fun z => hg (by unfold f_Pa_openClause; rw [if_neg c_1, if_neg c_4, bnd_r w_7, bnd_r w_8, bnd_n z]))) hP hD hK hS hA hC hZ hnt hlocks L_736 L_737 L_739 L_740 L_86 L_741 rfl k_Cu_expectWord ⟨Nat.le_of_ble_eq_true rfl, Nat.le_of_ble_eq_true rfl⟩ rfl rfl hl.1 (Nat.le_of_ble_eq_true rfl) d_Pa_openClause_50 rfl (fun q z => by unfold f_Pa_openClause; rw [if_neg c_1, if_neg c_4, bnd_r w_7, bnd_r w_8, bnd_l z]) hcl hsl (fun ad_9 st_9 H locs w_9 ok_9 e1_9 e2_9 hP hD hS => ?_)
      have hcl := cl_next hcl e1_9
      have hsl := cl_next hsl e2_9
      refine lv_iload_n hx hb d_Pa_openClause_53 rfl (lv_at hl 0 rfl) ?_
      exact mx_iret (v := r_8) (stF := st_9) hx hb hr hlocks hK hP hD hS hcl hsl (by unfold f_Pa_openClause; rw [if_neg c_1, if_neg c_4, bnd_r w_7, bnd_r w_8, bnd_r w_9]) ok_9 d_Pa_openClause_54
def f_Pa_functionName (st : ST) (form : Int32) : Rz := (if form = 24 then (bnd (p_open st 24 0 (sAt st)) (fun r_7 st_7 => (bnd (f_Cu_boundName (setAt st_7 ((sAt st_7) + 1))) (fun r_8 st_8 => (bnd (p_setValue st_8 r_7 r_8) (fun _ st_9 => (some (.inr (r_7, st_9))))))))) else (bnd (p_open st 50 0 (sAt st)) (fun r_2 st_2 => (if form = 50 then (if (f_Cu_atSign (setAt st_2 ((sAt st_2) + 1)) 60) = 0 then (bnd (f_Cu_boundName (setAt st_2 ((sAt st_2) + 1))) (fun r_5 st_5 => (bnd (p_setValue st_5 r_2 (r_5 + 1)) (fun _ st_6 => (some (.inr (r_2, st_6))))))) else (some (.inr (r_2, (setAt st_2 ((sAt st_2) + 1)))))) else (some (.inr (r_2, st_2)))))))
set_option maxRecDepth 100000 in
set_option maxHeartbeats 4000000 in
theorem m_Pa_functionName (l : Launch) (hlt : l.stackTraces = false) (dC : Nat → ClassId) (dI : Nat → Nat → Nat) (cI cZ : ClassId) (sa rk hp hc h a1 a2 a3 a4 ht hq n1 n2 : Nat) (ad : AD) (st : ST) (hst : okSt st) (sz : Nat) (form : Int32) (hg : f_Pa_functionName st form ≠ none) : cPi l y_Pa_functionName c_Pa_functionName 4 .int 8 323 (dC, dI) cI cZ sa rk hp hc h a1 a2 a3 a4 ht hq n1 n2 ad st sz [.ref hp, .int form] (f_Pa_functionName st form) := by
  refine vx_ofW (cc := c_Pa_functionName) (maxL := 4) (ret := (some .int)) (by decide) rfl ?_
  intro p e s m args below meth c s₁ B hml hnt hv
  obtain ⟨rfl, hsz, hP, hK, hD0, hC, hZ⟩ := hv
  have hx := B.exec
  have hb := B.bytes
  have hr := B.returns
  have hts0 := atoms_spec (ws := wy y_Pa_functionName c_Pa_functionName 4 (some .int)) B.pre
  have hts := htsL hts0
  have hown : s.vm.findClass R_Pa = some m.cls := findClass_of_methodNamed B.named
  have hlocks := B.notSynchronized
  subst hsz
  have hD := hD0.self (sz := s.heap.size)
  generalize hAe : va_A (wQ cI cZ hp hc h a1 a2 a3 a4 ht hq n1 n2 (ad, st)) s.heap.size = A at hD hZ ⊢
  have hA : ∀ q : Nat, s.heap.size ≤ q → A q := fun q h => by rw [← hAe]; exact Or.inr h
  have hS : va_S A s.heap s.heap [] := va_S.rf
  have hcl : 0 + bC st ≤ bC st := Nat.le_of_eq (Nat.zero_add _)
  have hsl : 0 + bS st ≤ bS st := Nat.le_of_eq (Nat.zero_add _)
  have hl := lv_entry ([.ref hp, .int form]) (n := 4) (Nat.le_of_ble_eq_true rfl)
  rw [lg_entry_eq]
  generalize (lg_sl ([.ref hp, .int form]) ++ List.replicate (4 - (lg_sl ([.ref hp, .int form])).length) Slot.unset).toArray = ls at hl ⊢
  have hl : lv_has ls 4 [(0, .ref hp), (1, .int form)] := hl
  refine lv_iload_n hx hb d_Pa_functionName_0 rfl (lv_at hl 1 rfl) ?_
  refine lv_bipush (v := 24) hx hb d_Pa_functionName_1 (by decide) ?_
  refine lv_icmp_ne (tgt := 11) hx hb d_Pa_functionName_3 (by decide) (fun c_1 => ?_) (fun c_1 => ?_)
  · refine lv_bipush (v := 50) hx hb d_Pa_functionName_11 (by decide) ?_
    refine lv_istore_n (lv' := [(2, .int 50), (0, .ref hp), (1, .int form)]) hx hb d_Pa_functionName_13 rfl hl (by decide) rfl (fun ls hl => ?_)
    refine lv_aload_n hx hb d_Pa_functionName_14 rfl (lv_at hl 1 rfl) ?_
    refine va_get (D := (dC, dI)) (ci := 2) (v := .ref ht) (C := R_Pa) (T := T_Pa) (N := 7) hx hb hts u_Pa hown hK hP 0 rfl rfl 0 (by decide) (hts _ L_208) (fun _ h9 => h9) rfl d_Pa_functionName_15 ?_
    refine lv_iload_n hx hb d_Pa_functionName_18 rfl (lv_at hl 0 rfl) ?_
    refine lv_iconst (v := 0) hx hb d_Pa_functionName_19 (by decide) ?_
    refine lv_aload_n hx hb d_Pa_functionName_20 rfl (lv_at hl 1 rfl) ?_
    refine va_get (D := (dC, dI)) (ci := 2) (v := .int (sAt st)) (C := R_Pa) (T := T_Pa) (N := 7) hx hb hts u_Pa hown hK hP 0 rfl rfl 4 (by decide) (hts _ L_215) (fun x9 h9 => u_same (hts _ L_216) x9 h9) rfl d_Pa_functionName_21 ?_
    have hn_2 : (p_open st 50 0 (sAt st)) ≠ none := (fun z => hg (by unfold f_Pa_functionName; rw [if_neg c_1, bnd_n z]))
    refine pT_i (g := (p_open st 50 0 (sAt st))) (st := st) (As := [.int 50, .int 0, .int (sAt st)]) (rest := []) ⟨hx, hb, hml, hown, hts0⟩ (m_Tr_open l dC dI cI cZ sa rk ht ad (sTr st) hst.2.1 _ 50 0 (sAt st) (p_open_c hn_2).1 (p_open_c hn_2).2.1) hP hD hK hS hA hC hZ L_416 L_417 L_418 L_85 L_419 ⟨rfl, k_Tr_open⟩ ⟨Nat.le_of_ble_eq_true rfl, Nat.le_of_ble_eq_true rfl⟩ rfl rfl hl.1 (Nat.le_of_ble_eq_true rfl) d_Pa_functionName_24 rfl hcl hsl (p_open_c hn_2).2.2.1 (p_open_c hn_2).2.2.2 hst (t_open_ok 50 0 (sAt st) hst.2.1 (p_open_c hn_2).1 (p_open_c hn_2).2.1) (p_open_e hn_2) (fun r_2 ad_2 st_2 H locs w_2 ok_2 e1_2 e2_2 hP hD hS => ?_)
    have hcl := cl_next hcl e1_2
    have hsl := cl_next hsl e2_2
    refine lv_istore_n (lv' := [(3, .int r_2), (2, .int 50), (0, .ref hp), (1, .int form)]) hx hb d_Pa_functionName_27 rfl hl (by decide) rfl (fun ls hl => ?_)
    refine lv_iload_n hx hb d_Pa_functionName_28 rfl (lv_at hl 3 rfl) ?_
    refine lv_iload_n hx hb d_Pa_functionName_29 rfl (lv_at hl 1 rfl) ?_
    refine lv_icmp_ne (tgt := 43) hx hb d_Pa_functionName_30 (by decide) (fun c_3 => ?_) (fun c_3 => ?_)
    · refine lv_iload_n hx hb d_Pa_functionName_43 rfl (lv_at hl 3 rfl) ?_
      refine lv_bipush (v := 24) hx hb d_Pa_functionName_44 (by decide) ?_
      refine lv_icmp_ne (tgt := 64) hx hb d_Pa_functionName_46 (by decide) (fun _ => ?_) (fun q9 => absurd q9 c_1)
      refine lv_iload_n hx hb d_Pa_functionName_64 rfl (lv_at hl 3 rfl) ?_
      refine lv_iload_n hx hb d_Pa_functionName_65 rfl (lv_at hl 1 rfl) ?_
      refine lv_icmp_ne (tgt := 92) hx hb d_Pa_functionName_66 (by decide) (fun _ => ?_) (fun q9 => absurd q9 c_3)
      refine lv_iload_n hx hb d_Pa_functionName_92 rfl (lv_at hl 0 rfl) ?_
      exact mx_iret (v := r_2) (stF := st_2) hx hb hr hlocks hK hP hD hS hcl hsl (by unfold f_Pa_functionName; rw [if_neg c_1, bnd_r w_2, if_neg c_3]) ok_2 d_Pa_functionName_93
    · refine lv_aload_n hx hb d_Pa_functionName_33 rfl (lv_at hl 2 rfl) ?_
      refine lv_dup hx hb d_Pa_functionName_34 rfl ?_
      refine va_get (D := (dC, dI)) (ci := 2) (v := .int (sAt st_2)) (C := R_Pa) (T := T_Pa) (N := 7) hx hb hts u_Pa hown hK hP 0 rfl rfl 4 (by decide) (hts _ L_215) (fun x9 h9 => u_same (hts _ L_216) x9 h9) rfl d_Pa_functionName_35 ?_
      refine lv_iconst (v := 1) hx hb d_Pa_functionName_38 (by decide) ?_
      refine lv_iadd hx hb d_Pa_functionName_39 ?_
      refine va_put (D := (dC, dI)) (ci := 2) (v := .int ((sAt st_2) + 1)) (ty := .int) (C := R_Pa) (T := T_Pa) (N := 7) hx hb hts u_Pa ty_Pa tk_Pa nm_Pa hown hK hP hD hS 0 rfl rfl 4 (by decide) (hts _ L_215) (fun x9 h9 => u_same (hts _ L_216) x9 h9) rfl (by decide +kernel) rfl rfl (Nat.le_of_ble_eq_true rfl) d_Pa_functionName_40 (fun H locs hP hD hS => ?_)
      have hP : va_P (dC, dI) cls (wQ cI cZ hp hc h a1 a2 a3 a4 ht hq n1 n2 (ad_2, (setAt st_2 ((sAt st_2) + 1)))) H := hP
      have hD : va_D A (wQ cI cZ hp hc h a1 a2 a3 a4 ht hq n1 n2 (ad_2, (setAt st_2 ((sAt st_2) + 1)))) := hD
      refine lv_iload_n hx hb d_Pa_functionName_43 rfl (lv_at hl 3 rfl) ?_
      refine lv_bipush (v := 24) hx hb d_Pa_functionName_44 (by decide) ?_
      refine lv_icmp_ne (tgt := 64) hx hb d_Pa_functionName_46 (by decide) (fun _ => ?_) (fun q9 => absurd q9 c_1)
      refine lv_iload_n hx hb d_Pa_functionName_64 rfl (lv_at hl 3 rfl) ?_
      refine lv_iload_n hx hb d_Pa_functionName_65 rfl (lv_at hl 1 rfl) ?_
      refine lv_icmp_ne (tgt := 92) hx hb d_Pa_functionName_66 (by decide) (fun q9 => absurd c_3 q9) (fun _ => ?_)
      refine lv_aload_n hx hb d_Pa_functionName_69 rfl (lv_at hl 2 rfl) ?_
      refine lv_bipush (v := 60) hx hb d_Pa_functionName_70 (by decide) ?_
      refine rd_U (xm := ⟨"SyntaxTree$Parser", "atSign", "(I)Z"⟩) (owner := R_Cu) (v := (f_Cu_atSign (setAt st_2 ((sAt st_2) + 1)) 60)) (As := [.int 60]) (rest := []) ⟨hx, hb, hml, hown, hts0⟩ (m_Cu_atSign l dC dI cI cZ hp hc h a1 a2 a3 a4 ht ad_2.1 ad_2.2.1 ad_2.2.2.1 ad_2.2.2.2 hq n1 n2 (setAt st_2 ((sAt st_2) + 1)) (show okSt (setAt st_2 ((sAt st_2) + 1)) from ⟨ok_2.1, ok_2.2.1, ok_2.2.2.1, ok_2.2.2.2⟩) 60) hP hK [0, 1, 2, 3, 4, 5, 6, 7, 8, 9, 10, 11, 12, 13, 14] rfl [0, 1] rfl 0 2 rfl rfl L_496 L_497 L_499 L_500 L_86 L_501 rfl k_Cu_atSign ⟨Nat.le_of_ble_eq_true rfl, Nat.le_of_ble_eq_true rfl⟩ hl.1 ⟨Nat.le_trans (Nat.le_add_right _ _) hcl, Nat.le_trans (Nat.le_add_right _ _) hsl⟩ (Nat.le_of_ble_eq_true rfl) d_Pa_functionName_72 rfl ?_
      refine lv_if_ne (tgt := 92) hx hb d_Pa_functionName_75 (by decide) (fun c_4 => ?_) (fun c_4 => ?_)
      · refine lv_iload_n hx hb d_Pa_functionName_92 rfl (lv_at hl 0 rfl) ?_
        exact mx_iret (v := r_2) (stF := (setAt st_2 ((sAt st_2) + 1))) hx hb hr hlocks hK hP hD hS hcl hsl (by unfold f_Pa_functionName; rw [if_neg c_1, bnd_r w_2, if_pos c_3, if_neg c_4]) (show okSt (setAt st_2 ((sAt st_2) + 1)) from ⟨ok_2.1, ok_2.2.1, ok_2.2.2.1, ok_2.2.2.2⟩) d_Pa_functionName_93
      · refine lv_aload_n hx hb d_Pa_functionName_78 rfl (lv_at hl 2 rfl) ?_
        refine va_get (D := (dC, dI)) (ci := 2) (v := .ref ht) (C := R_Pa) (T := T_Pa) (N := 7) hx hb hts u_Pa hown hK hP 0 rfl rfl 0 (by decide) (hts _ L_208) (fun _ h9 => h9) rfl d_Pa_functionName_79 ?_
        refine lv_iload_n hx hb d_Pa_functionName_82 rfl (lv_at hl 0 rfl) ?_
        refine lv_aload_n hx hb d_Pa_functionName_83 rfl (lv_at hl 2 rfl) ?_
        refine mx_Ui (xm := ⟨"SyntaxTree$Parser", "boundName", "()I"⟩) (owner := R_Cu) (As := []) (rest := [.int r_2, .ref ht]) ⟨hx, hb, hml, hown, hts0⟩ (m_Cu_boundName l hlt dC dI cI cZ sa rk hp hc h a1 a2 a3 a4 ht hq n1 n2 ad_2 (setAt st_2 ((sAt st_2) + 1)) (show okSt (setAt st_2 ((sAt st_2) + 1)) from ⟨ok_2.1, ok_2.2.1, ok_2.2.2.1, ok_2.2.2.2⟩) _  (fun z => hg (by unfold f_Pa_functionName; rw [if_neg c_1, bnd_r w_2, if_pos c_3, if_pos c_4, bnd_n z]))) hP hD hK hS hA hC hZ hnt hlocks L_471 L_472 L_474 L_475 L_86 L_476 rfl k_Cu_boundName ⟨Nat.le_of_ble_eq_true rfl, Nat.le_of_ble_eq_true rfl⟩ rfl rfl hl.1 (Nat.le_of_ble_eq_true rfl) d_Pa_functionName_84 rfl (fun q z => by unfold f_Pa_functionName; rw [if_neg c_1, bnd_r w_2, if_pos c_3, if_pos c_4, bnd_l z]) hcl hsl (fun r_5 ad_5 st_5 H locs w_5 ok_5 e1_5 e2_5 hP hD hS => ?_)
        have hcl := cl_next hcl e1_5
        have hsl := cl_next hsl e2_5
        refine lv_iconst (v := 1) hx hb d_Pa_functionName_87 (by decide) ?_
        refine lv_iadd hx hb d_Pa_functionName_88 ?_
        refine pT_v (g := (p_setValue st_5 r_2 (r_5 + 1))) (st := st_5) (As := [.int r_2, .int (r_5 + 1)]) (rest := []) ⟨hx, hb, hml, hown, hts0⟩ (m_Tr_setValue l dC dI cI cZ sa rk ht ad_5 (sTr st_5) ok_5.2.1 _ r_2 (r_5 + 1)) hP hD hK hS hA hC hZ L_488 L_489 L_490 L_85 L_491 ⟨rfl, k_Tr_setValue⟩ ⟨Nat.le_of_ble_eq_true rfl, Nat.le_of_ble_eq_true rfl⟩ rfl rfl hl.1 (Nat.le_of_ble_eq_true rfl) d_Pa_functionName_89 rfl hcl hsl (Nat.zero_le _) (Nat.zero_le _) ok_5 (t_setValue_ok r_2 (r_5 + 1) ok_5.2.1) rfl (fun ad_6 st_6 H locs w_6 ok_6 e1_6 e2_6 hP hD hS => ?_)
        have hcl := cl_next hcl e1_6
        have hsl := cl_next hsl e2_6
        refine lv_iload_n hx hb d_Pa_functionName_92 rfl (lv_at hl 0 rfl) ?_
        exact mx_iret (v := r_2) (stF := st_6) hx hb hr hlocks hK hP hD hS hcl hsl (by unfold f_Pa_functionName; rw [if_neg c_1, bnd_r w_2, if_pos c_3, if_pos c_4, bnd_r w_5, bnd_r w_6]) ok_6 d_Pa_functionName_93
  · refine lv_bipush (v := 24) hx hb d_Pa_functionName_6 (by decide) ?_
    refine lv_goto (tgt := 13) hx hb d_Pa_functionName_8 (by decide) ?_
    refine lv_istore_n (lv' := [(2, .int 24), (0, .ref hp), (1, .int form)]) hx hb d_Pa_functionName_13 rfl hl (by decide) rfl (fun ls hl => ?_)
    refine lv_aload_n hx hb d_Pa_functionName_14 rfl (lv_at hl 1 rfl) ?_
    refine va_get (D := (dC, dI)) (ci := 2) (v := .ref ht) (C := R_Pa) (T := T_Pa) (N := 7) hx hb hts u_Pa hown hK hP 0 rfl rfl 0 (by decide) (hts _ L_208) (fun _ h9 => h9) rfl d_Pa_functionName_15 ?_
    refine lv_iload_n hx hb d_Pa_functionName_18 rfl (lv_at hl 0 rfl) ?_
    refine lv_iconst (v := 0) hx hb d_Pa_functionName_19 (by decide) ?_
    refine lv_aload_n hx hb d_Pa_functionName_20 rfl (lv_at hl 1 rfl) ?_
    refine va_get (D := (dC, dI)) (ci := 2) (v := .int (sAt st)) (C := R_Pa) (T := T_Pa) (N := 7) hx hb hts u_Pa hown hK hP 0 rfl rfl 4 (by decide) (hts _ L_215) (fun x9 h9 => u_same (hts _ L_216) x9 h9) rfl d_Pa_functionName_21 ?_
    have hn_7 : (p_open st 24 0 (sAt st)) ≠ none := (fun z => hg (by unfold f_Pa_functionName; rw [if_pos c_1, bnd_n z]))
    refine pT_i (g := (p_open st 24 0 (sAt st))) (st := st) (As := [.int 24, .int 0, .int (sAt st)]) (rest := []) ⟨hx, hb, hml, hown, hts0⟩ (m_Tr_open l dC dI cI cZ sa rk ht ad (sTr st) hst.2.1 _ 24 0 (sAt st) (p_open_c hn_7).1 (p_open_c hn_7).2.1) hP hD hK hS hA hC hZ L_416 L_417 L_418 L_85 L_419 ⟨rfl, k_Tr_open⟩ ⟨Nat.le_of_ble_eq_true rfl, Nat.le_of_ble_eq_true rfl⟩ rfl rfl hl.1 (Nat.le_of_ble_eq_true rfl) d_Pa_functionName_24 rfl hcl hsl (p_open_c hn_7).2.2.1 (p_open_c hn_7).2.2.2 hst (t_open_ok 24 0 (sAt st) hst.2.1 (p_open_c hn_7).1 (p_open_c hn_7).2.1) (p_open_e hn_7) (fun r_7 ad_7 st_7 H locs w_7 ok_7 e1_7 e2_7 hP hD hS => ?_)
    have hcl := cl_next hcl e1_7
    have hsl := cl_next hsl e2_7
    refine lv_istore_n (lv' := [(3, .int r_7), (2, .int 24), (0, .ref hp), (1, .int form)]) hx hb d_Pa_functionName_27 rfl hl (by decide) rfl (fun ls hl => ?_)
    refine lv_iload_n hx hb d_Pa_functionName_28 rfl (lv_at hl 3 rfl) ?_
    refine lv_iload_n hx hb d_Pa_functionName_29 rfl (lv_at hl 1 rfl) ?_
    refine lv_icmp_ne (tgt := 43) hx hb d_Pa_functionName_30 (by decide) (fun q9 => absurd c_1 q9) (fun _ => ?_)
    refine lv_aload_n hx hb d_Pa_functionName_33 rfl (lv_at hl 2 rfl) ?_
    refine lv_dup hx hb d_Pa_functionName_34 rfl ?_
    refine va_get (D := (dC, dI)) (ci := 2) (v := .int (sAt st_7)) (C := R_Pa) (T := T_Pa) (N := 7) hx hb hts u_Pa hown hK hP 0 rfl rfl 4 (by decide) (hts _ L_215) (fun x9 h9 => u_same (hts _ L_216) x9 h9) rfl d_Pa_functionName_35 ?_
    refine lv_iconst (v := 1) hx hb d_Pa_functionName_38 (by decide) ?_
    refine lv_iadd hx hb d_Pa_functionName_39 ?_
    refine va_put (D := (dC, dI)) (ci := 2) (v := .int ((sAt st_7) + 1)) (ty := .int) (C := R_Pa) (T := T_Pa) (N := 7) hx hb hts u_Pa ty_Pa tk_Pa nm_Pa hown hK hP hD hS 0 rfl rfl 4 (by decide) (hts _ L_215) (fun x9 h9 => u_same (hts _ L_216) x9 h9) rfl (by decide +kernel) rfl rfl (Nat.le_of_ble_eq_true rfl) d_Pa_functionName_40 (fun H locs hP hD hS => ?_)
    have hP : va_P (dC, dI) cls (wQ cI cZ hp hc h a1 a2 a3 a4 ht hq n1 n2 (ad_7, (setAt st_7 ((sAt st_7) + 1)))) H := hP
    have hD : va_D A (wQ cI cZ hp hc h a1 a2 a3 a4 ht hq n1 n2 (ad_7, (setAt st_7 ((sAt st_7) + 1)))) := hD
    refine lv_iload_n hx hb d_Pa_functionName_43 rfl (lv_at hl 3 rfl) ?_
    refine lv_bipush (v := 24) hx hb d_Pa_functionName_44 (by decide) ?_
    refine lv_icmp_ne (tgt := 64) hx hb d_Pa_functionName_46 (by decide) (fun q9 => absurd c_1 q9) (fun _ => ?_)
    refine lv_aload_n hx hb d_Pa_functionName_49 rfl (lv_at hl 2 rfl) ?_
    refine va_get (D := (dC, dI)) (ci := 2) (v := .ref ht) (C := R_Pa) (T := T_Pa) (N := 7) hx hb hts u_Pa hown hK hP 0 rfl rfl 0 (by decide) (hts _ L_208) (fun _ h9 => h9) rfl d_Pa_functionName_50 ?_
    refine lv_iload_n hx hb d_Pa_functionName_53 rfl (lv_at hl 0 rfl) ?_
    refine lv_aload_n hx hb d_Pa_functionName_54 rfl (lv_at hl 2 rfl) ?_
    refine mx_Ui (xm := ⟨"SyntaxTree$Parser", "boundName", "()I"⟩) (owner := R_Cu) (As := []) (rest := [.int r_7, .ref ht]) ⟨hx, hb, hml, hown, hts0⟩ (m_Cu_boundName l hlt dC dI cI cZ sa rk hp hc h a1 a2 a3 a4 ht hq n1 n2 ad_7 (setAt st_7 ((sAt st_7) + 1)) (show okSt (setAt st_7 ((sAt st_7) + 1)) from ⟨ok_7.1, ok_7.2.1, ok_7.2.2.1, ok_7.2.2.2⟩) _  (fun z => hg (by unfold f_Pa_functionName; rw [if_pos c_1, bnd_r w_7, bnd_n z]))) hP hD hK hS hA hC hZ hnt hlocks L_471 L_472 L_474 L_475 L_86 L_476 rfl k_Cu_boundName ⟨Nat.le_of_ble_eq_true rfl, Nat.le_of_ble_eq_true rfl⟩ rfl rfl hl.1 (Nat.le_of_ble_eq_true rfl) d_Pa_functionName_55 rfl (fun q z => by unfold f_Pa_functionName; rw [if_pos c_1, bnd_r w_7, bnd_l z]) hcl hsl (fun r_8 ad_8 st_8 H locs w_8 ok_8 e1_8 e2_8 hP hD hS => ?_)
    have hcl := cl_next hcl e1_8
    have hsl := cl_next hsl e2_8
    refine pT_v (g := (p_setValue st_8 r_7 r_8)) (st := st_8) (As := [.int r_7, .int r_8]) (rest := []) ⟨hx, hb, hml, hown, hts0⟩ (m_Tr_setValue l dC dI cI cZ sa rk ht ad_8 (sTr st_8) ok_8.2.1 _ r_7 r_8) hP hD hK hS hA hC hZ L_488 L_489 L_490 L_85 L_491 ⟨rfl, k_Tr_setValue⟩ ⟨Nat.le_of_ble_eq_true rfl, Nat.le_of_ble_eq_true rfl⟩ rfl rfl hl.1 (Nat.le_of_ble_eq_true rfl) d_Pa_functionName_58 rfl hcl hsl (Nat.zero_le _) (Nat.zero_le _) ok_8 (t_setValue_ok r_7 r_8 ok_8.2.1) rfl (fun ad_9 st_9 H locs w_9 ok_9 e1_9 e2_9 hP hD hS => ?_)
    have hcl := cl_next hcl e1_9
    have hsl := cl_next hsl e2_9
    refine lv_goto (tgt := 92) hx hb d_Pa_functionName_61 (by decide) ?_
    refine lv_iload_n hx hb d_Pa_functionName_92 rfl (lv_at hl 0 rfl) ?_
    exact mx_iret (v := r_7) (stF := st_9) hx hb hr hlocks hK hP hD hS hcl hsl (by unfold f_Pa_functionName; rw [if_pos c_1, bnd_r w_7, bnd_r w_8, bnd_r w_9]) ok_9 d_Pa_functionName_93
