def f_Cu_guard (st : ST) (depth : Int32) : Rz := (if depth ≤ 100 then (some (.inr (0, st))) else (bnd (f_Cu_refuse st (sAt st)) (fun _ st_2 => (some (.inr (0, st_2))))))
set_option maxRecDepth 100000 in
set_option maxHeartbeats 4000000 in
theorem m_Cu_guard (l : Launch) (hlt : l.stackTraces = false) (dC : Nat → ClassId) (dI : Nat → Nat → Nat) (cI cZ : ClassId) (sa rk hp hc h a1 a2 a3 a4 ht hq n1 n2 : Nat) (ad : AD) (st : ST) (hst : okSt st) (sz : Nat) (depth : Int32) (hg : f_Cu_guard st depth ≠ none) : cPv l y_Cu_guard c_Cu_guard 2 7 103 (dC, dI) cI cZ sa rk hp hc h a1 a2 a3 a4 ht hq n1 n2 ad st sz [.ref hp, .int depth] (f_Cu_guard st depth) := by
  refine vx_ofW (cc := c_Cu_guard) (maxL := 2) (ret := none) (by decide) rfl ?_
  intro p e s m args below meth c s₁ B hml hnt hv
  obtain ⟨rfl, hsz, hP, hK, hD0, hC, hZ⟩ := hv
  have hx := B.exec
  have hb := B.bytes
  have hr := B.returns
  have hts0 := atoms_spec (ws := wy y_Cu_guard c_Cu_guard 2 none) B.pre
  have hts := htsL hts0
  have hown : s.vm.findClass R_Cu = some m.cls := findClass_of_methodNamed B.named
  have hlocks := B.notSynchronized
  subst hsz
  have hD := hD0.self (sz := s.heap.size)
  generalize hAe : va_A (wQ cI cZ hp hc h a1 a2 a3 a4 ht hq n1 n2 (ad, st)) s.heap.size = A at hD hZ ⊢
  have hA : ∀ q : Nat, s.heap.size ≤ q → A q := fun q h => by rw [← hAe]; exact Or.inr h
  have hS : va_S A s.heap s.heap [] := va_S.rf
  have hcl : 0 + bC st ≤ bC st := Nat.le_of_eq (Nat.zero_add _)
  have hsl : 0 + bS st ≤ bS st := Nat.le_of_eq (Nat.zero_add _)
  have hl := lv_entry ([.ref hp, .int depth]) (n := 2) (Nat.le_of_ble_eq_true rfl)
  rw [lg_entry_eq]
  generalize (lg_sl ([.ref hp, .int depth]) ++ List.replicate (2 - (lg_sl ([.ref hp, .int depth])).length) Slot.unset).toArray = ls at hl ⊢
  have hl : lv_has ls 2 [(0, .ref hp), (1, .int depth)] := hl
  refine lv_iload_n hx hb d_Cu_guard_0 rfl (lv_at hl 1 rfl) ?_
  refine lv_bipush (v := 100) hx hb d_Cu_guard_1 (by decide) ?_
  refine lv_icmp_le (tgt := 14) hx hb d_Cu_guard_3 (by decide) (fun c_1 => ?_) (fun c_1 => ?_)
  · exact mx_vret (stF := st) hx hb hr hlocks hK hP hD hS hcl hsl (by unfold f_Cu_guard; rw [if_pos c_1]) hst d_Cu_guard_14
  · refine lv_aload_n hx hb d_Cu_guard_6 rfl (lv_at hl 0 rfl) ?_
    refine lv_aload_n hx hb d_Cu_guard_7 rfl (lv_at hl 0 rfl) ?_
    refine va_get (D := (dC, dI)) (ci := 2) (v := .int (sAt st)) (C := R_Pa) (T := T_Pa) (N := 7) hx hb hts u_Pa hown hK hP 0 rfl rfl 4 (by decide) (hts _ L_214) (fun _ h9 => h9) rfl d_Cu_guard_8 ?_
    refine mx_Uv (xm := y_Cu_refuse) (owner := R_Cu) (As := [.int (sAt st)]) (rest := []) ⟨hx, hb, hml, hown, hts0⟩ (m_Cu_refuse l hlt dC dI cI cZ sa rk hp hc h a1 a2 a3 a4 ht hq n1 n2 ad st hst _ (sAt st) (fun z => hg (by unfold f_Cu_guard; rw [if_neg c_1, bnd_n z]))) hP hD hK hS hA hC hZ hnt hlocks L_459 L_461 L_462 L_460 L_86 L_463 rfl k_Cu_refuse ⟨Nat.le_of_ble_eq_true rfl, Nat.le_of_ble_eq_true rfl⟩ rfl rfl hl.1 (Nat.le_of_ble_eq_true rfl) d_Cu_guard_11 rfl (fun q z => by unfold f_Cu_guard; rw [if_neg c_1, bnd_l z]) hcl hsl (fun ad_2 st_2 H locs w_2 ok_2 e1_2 e2_2 hP hD hS => ?_)
    have hcl := cl_next hcl e1_2
    have hsl := cl_next hsl e2_2
    exact mx_vret (stF := st_2) hx hb hr hlocks hK hP hD hS hcl hsl (by unfold f_Cu_guard; rw [if_neg c_1, bnd_r w_2]) ok_2 d_Cu_guard_14
def f_Cu_accept (st : ST) (sign : Int32) : Rz := (if (f_Tk_sign (sTk st) (sAt st)) = sign then (some (.inr (1, (setAt st ((sAt st) + 1))))) else (some (.inr (0, st))))
set_option maxRecDepth 100000 in
set_option maxHeartbeats 4000000 in
theorem m_Cu_accept (l : Launch) (hlt : l.stackTraces = false) (dC : Nat → ClassId) (dI : Nat → Nat → Nat) (cI cZ : ClassId) (sa rk hp hc h a1 a2 a3 a4 ht hq n1 n2 : Nat) (ad : AD) (st : ST) (hst : okSt st) (sz : Nat) (sign : Int32) (hg : f_Cu_accept st sign ≠ none) : cPi l y_Cu_accept c_Cu_accept 3 .boolean 1 21 (dC, dI) cI cZ sa rk hp hc h a1 a2 a3 a4 ht hq n1 n2 ad st sz [.ref hp, .int sign] (f_Cu_accept st sign) := by
  refine vx_ofW (cc := c_Cu_accept) (maxL := 3) (ret := (some .boolean)) (by decide) rfl ?_
  intro p e s m args below meth c s₁ B hml hnt hv
  obtain ⟨rfl, hsz, hP, hK, hD0, hC, hZ⟩ := hv
  have hx := B.exec
  have hb := B.bytes
  have hr := B.returns
  have hts0 := atoms_spec (ws := wy y_Cu_accept c_Cu_accept 3 (some .boolean)) B.pre
  have hts := htsL hts0
  have hown : s.vm.findClass R_Cu = some m.cls := findClass_of_methodNamed B.named
  have hlocks := B.notSynchronized
  subst hsz
  have hD := hD0.self (sz := s.heap.size)
  generalize hAe : va_A (wQ cI cZ hp hc h a1 a2 a3 a4 ht hq n1 n2 (ad, st)) s.heap.size = A at hD hZ ⊢
  have hA : ∀ q : Nat, s.heap.size ≤ q → A q := fun q h => by rw [← hAe]; exact Or.inr h
  have hS : va_S A s.heap s.heap [] := va_S.rf
  have hcl : 0 + bC st ≤ bC st := Nat.le_of_eq (Nat.zero_add _)
  have hsl : 0 + bS st ≤ bS st := Nat.le_of_eq (Nat.zero_add _)
  have hl := lv_entry ([.ref hp, .int sign]) (n := 3) (Nat.le_of_ble_eq_true rfl)
  rw [lg_entry_eq]
  generalize (lg_sl ([.ref hp, .int sign]) ++ List.replicate (3 - (lg_sl ([.ref hp, .int sign])).length) Slot.unset).toArray = ls at hl ⊢
  have hl : lv_has ls 3 [(0, .ref hp), (1, .int sign)] := hl
  refine lv_aload_n hx hb d_Cu_accept_0 rfl (lv_at hl 0 rfl) ?_
  refine va_get (D := (dC, dI)) (ci := 2) (v := .ref h) (C := R_Pa) (T := T_Pa) (N := 7) hx hb hts u_Pa hown hK hP 0 rfl rfl 3 (by decide) (hts _ L_211) (fun _ h9 => h9) rfl d_Cu_accept_1 ?_
  refine lv_aload_n hx hb d_Cu_accept_4 rfl (lv_at hl 0 rfl) ?_
  refine va_get (D := (dC, dI)) (ci := 2) (v := .int (sAt st)) (C := R_Pa) (T := T_Pa) (N := 7) hx hb hts u_Pa hown hK hP 0 rfl rfl 4 (by decide) (hts _ L_214) (fun _ h9 => h9) rfl d_Cu_accept_5 ?_
  refine rd_V (v := (f_Tk_sign (sTk st) (sAt st))) (As := [.int (sAt st)]) (rest := []) ⟨hx, hb, hml, hown, hts0⟩ (m_Tk_sign l dC dI cI cZ h a1 a2 a3 a4 (sTk st) hst.1 (sAt st)) hP hK [2, 3, 4, 5, 6] rfl [0, 1] rfl 0 3 rfl rfl L_502 L_503 L_504 L_84 L_505 ⟨rfl, k_Tk_sign⟩ ⟨Nat.le_of_ble_eq_true rfl, Nat.le_of_ble_eq_true rfl⟩ hl.1 ⟨Nat.le_trans (Nat.le_add_right _ _) hcl, Nat.le_trans (Nat.le_add_right _ _) hsl⟩ (Nat.le_of_ble_eq_true rfl) d_Cu_accept_8 rfl ?_
  refine lv_iload_n hx hb d_Cu_accept_11 rfl (lv_at hl 1 rfl) ?_
  refine lv_icmp_ne (tgt := 19) hx hb d_Cu_accept_12 (by decide) (fun c_1 => ?_) (fun c_1 => ?_)
  · refine lv_iconst (v := 0) hx hb d_Cu_accept_19 (by decide) ?_
    refine lv_istore_n (lv' := [(2, .int 0), (0, .ref hp), (1, .int sign)]) hx hb d_Cu_accept_20 rfl hl (by decide) rfl (fun ls hl => ?_)
    refine lv_iload_n hx hb d_Cu_accept_21 rfl (lv_at hl 0 rfl) ?_
    refine lv_if_eq (tgt := 35) hx hb d_Cu_accept_22 (by decide) (fun _ => ?_) (fun q9 => absurd q9 (by decide))
    refine lv_iload_n hx hb d_Cu_accept_35 rfl (lv_at hl 0 rfl) ?_
    exact mx_zret (v := 0) (stF := st) hx hb hr rfl hlocks hK hP hD hS hcl hsl (by unfold f_Cu_accept; rw [if_neg c_1]) hst d_Cu_accept_36
  · refine lv_iconst (v := 1) hx hb d_Cu_accept_15 (by decide) ?_
    refine lv_goto (tgt := 20) hx hb d_Cu_accept_16 (by decide) ?_
    refine lv_istore_n (lv' := [(2, .int 1), (0, .ref hp), (1, .int sign)]) hx hb d_Cu_accept_20 rfl hl (by decide) rfl (fun ls hl => ?_)
    refine lv_iload_n hx hb d_Cu_accept_21 rfl (lv_at hl 0 rfl) ?_
    refine lv_if_eq (tgt := 35) hx hb d_Cu_accept_22 (by decide) (fun q9 => absurd q9 (by decide)) (fun _ => ?_)
    refine lv_aload_n hx hb d_Cu_accept_25 rfl (lv_at hl 1 rfl) ?_
    refine lv_dup hx hb d_Cu_accept_26 rfl ?_
    refine va_get (D := (dC, dI)) (ci := 2) (v := .int (sAt st)) (C := R_Pa) (T := T_Pa) (N := 7) hx hb hts u_Pa hown hK hP 0 rfl rfl 4 (by decide) (hts _ L_214) (fun _ h9 => h9) rfl d_Cu_accept_27 ?_
    refine lv_iconst (v := 1) hx hb d_Cu_accept_30 (by decide) ?_
    refine lv_iadd hx hb d_Cu_accept_31 ?_
    refine va_put (D := (dC, dI)) (ci := 2) (v := .int ((sAt st) + 1)) (ty := .int) (C := R_Pa) (T := T_Pa) (N := 7) hx hb hts u_Pa ty_Pa tk_Pa nm_Pa hown hK hP hD hS 0 rfl rfl 4 (by decide) (hts _ L_214) (fun _ h9 => h9) rfl (by decide +kernel) rfl rfl (Nat.le_of_ble_eq_true rfl) d_Cu_accept_32 (fun H locs hP hD hS => ?_)
    have hP : va_P (dC, dI) cls (wQ cI cZ hp hc h a1 a2 a3 a4 ht hq n1 n2 (ad, (setAt st ((sAt st) + 1)))) H := hP
    have hD : va_D A (wQ cI cZ hp hc h a1 a2 a3 a4 ht hq n1 n2 (ad, (setAt st ((sAt st) + 1)))) := hD
    refine lv_iload_n hx hb d_Cu_accept_35 rfl (lv_at hl 0 rfl) ?_
    exact mx_zret (v := 1) (stF := (setAt st ((sAt st) + 1))) hx hb hr rfl hlocks hK hP hD hS hcl hsl (by unfold f_Cu_accept; rw [if_pos c_1]) (show okSt (setAt st ((sAt st) + 1)) from ⟨hst.1, hst.2.1, hst.2.2.1, hst.2.2.2⟩) d_Cu_accept_36
def f_Cu_expect (st : ST) (sign : Int32) : Rz := (if (f_Tk_sign (sTk st) (sAt st)) = sign then (some (.inr (0, (setAt st ((sAt st) + 1))))) else (bnd (f_Cu_refuse st (sAt st)) (fun _ st_2 => (some (.inr (0, (setAt st_2 ((sAt st_2) + 1))))))))
set_option maxRecDepth 100000 in
set_option maxHeartbeats 4000000 in
theorem m_Cu_expect (l : Launch) (hlt : l.stackTraces = false) (dC : Nat → ClassId) (dI : Nat → Nat → Nat) (cI cZ : ClassId) (sa rk hp hc h a1 a2 a3 a4 ht hq n1 n2 : Nat) (ad : AD) (st : ST) (hst : okSt st) (sz : Nat) (sign : Int32) (hg : f_Cu_expect st sign ≠ none) : cPv l y_Cu_expect c_Cu_expect 2 7 103 (dC, dI) cI cZ sa rk hp hc h a1 a2 a3 a4 ht hq n1 n2 ad st sz [.ref hp, .int sign] (f_Cu_expect st sign) := by
  refine vx_ofW (cc := c_Cu_expect) (maxL := 2) (ret := none) (by decide) rfl ?_
  intro p e s m args below meth c s₁ B hml hnt hv
  obtain ⟨rfl, hsz, hP, hK, hD0, hC, hZ⟩ := hv
  have hx := B.exec
  have hb := B.bytes
  have hr := B.returns
  have hts0 := atoms_spec (ws := wy y_Cu_expect c_Cu_expect 2 none) B.pre
  have hts := htsL hts0
  have hown : s.vm.findClass R_Cu = some m.cls := findClass_of_methodNamed B.named
  have hlocks := B.notSynchronized
  subst hsz
  have hD := hD0.self (sz := s.heap.size)
  generalize hAe : va_A (wQ cI cZ hp hc h a1 a2 a3 a4 ht hq n1 n2 (ad, st)) s.heap.size = A at hD hZ ⊢
  have hA : ∀ q : Nat, s.heap.size ≤ q → A q := fun q h => by rw [← hAe]; exact Or.inr h
  have hS : va_S A s.heap s.heap [] := va_S.rf
  have hcl : 0 + bC st ≤ bC st := Nat.le_of_eq (Nat.zero_add _)
  have hsl : 0 + bS st ≤ bS st := Nat.le_of_eq (Nat.zero_add _)
  have hl := lv_entry ([.ref hp, .int sign]) (n := 2) (Nat.le_of_ble_eq_true rfl)
  rw [lg_entry_eq]
  generalize (lg_sl ([.ref hp, .int sign]) ++ List.replicate (2 - (lg_sl ([.ref hp, .int sign])).length) Slot.unset).toArray = ls at hl ⊢
  have hl : lv_has ls 2 [(0, .ref hp), (1, .int sign)] := hl
  refine lv_aload_n hx hb d_Cu_expect_0 rfl (lv_at hl 0 rfl) ?_
  refine va_get (D := (dC, dI)) (ci := 2) (v := .ref h) (C := R_Pa) (T := T_Pa) (N := 7) hx hb hts u_Pa hown hK hP 0 rfl rfl 3 (by decide) (hts _ L_211) (fun _ h9 => h9) rfl d_Cu_expect_1 ?_
  refine lv_aload_n hx hb d_Cu_expect_4 rfl (lv_at hl 0 rfl) ?_
  refine va_get (D := (dC, dI)) (ci := 2) (v := .int (sAt st)) (C := R_Pa) (T := T_Pa) (N := 7) hx hb hts u_Pa hown hK hP 0 rfl rfl 4 (by decide) (hts _ L_214) (fun _ h9 => h9) rfl d_Cu_expect_5 ?_
  refine rd_V (v := (f_Tk_sign (sTk st) (sAt st))) (As := [.int (sAt st)]) (rest := []) ⟨hx, hb, hml, hown, hts0⟩ (m_Tk_sign l dC dI cI cZ h a1 a2 a3 a4 (sTk st) hst.1 (sAt st)) hP hK [2, 3, 4, 5, 6] rfl [0, 1] rfl 0 3 rfl rfl L_502 L_503 L_504 L_84 L_505 ⟨rfl, k_Tk_sign⟩ ⟨Nat.le_of_ble_eq_true rfl, Nat.le_of_ble_eq_true rfl⟩ hl.1 ⟨Nat.le_trans (Nat.le_add_right _ _) hcl, Nat.le_trans (Nat.le_add_right _ _) hsl⟩ (Nat.le_of_ble_eq_true rfl) d_Cu_expect_8 rfl ?_
  refine lv_iload_n hx hb d_Cu_expect_11 rfl (lv_at hl 1 rfl) ?_
  refine lv_icmp_eq (tgt := 23) hx hb d_Cu_expect_12 (by decide) (fun c_1 => ?_) (fun c_1 => ?_)
  · refine lv_aload_n hx hb d_Cu_expect_23 rfl (lv_at hl 0 rfl) ?_
    refine lv_dup hx hb d_Cu_expect_24 rfl ?_
    refine va_get (D := (dC, dI)) (ci := 2) (v := .int (sAt st)) (C := R_Pa) (T := T_Pa) (N := 7) hx hb hts u_Pa hown hK hP 0 rfl rfl 4 (by decide) (hts _ L_214) (fun _ h9 => h9) rfl d_Cu_expect_25 ?_
    refine lv_iconst (v := 1) hx hb d_Cu_expect_28 (by decide) ?_
    refine lv_iadd hx hb d_Cu_expect_29 ?_
    refine va_put (D := (dC, dI)) (ci := 2) (v := .int ((sAt st) + 1)) (ty := .int) (C := R_Pa) (T := T_Pa) (N := 7) hx hb hts u_Pa ty_Pa tk_Pa nm_Pa hown hK hP hD hS 0 rfl rfl 4 (by decide) (hts _ L_214) (fun _ h9 => h9) rfl (by decide +kernel) rfl rfl (Nat.le_of_ble_eq_true rfl) d_Cu_expect_30 (fun H locs hP hD hS => ?_)
    have hP : va_P (dC, dI) cls (wQ cI cZ hp hc h a1 a2 a3 a4 ht hq n1 n2 (ad, (setAt st ((sAt st) + 1)))) H := hP
    have hD : va_D A (wQ cI cZ hp hc h a1 a2 a3 a4 ht hq n1 n2 (ad, (setAt st ((sAt st) + 1)))) := hD
    exact mx_vret (stF := (setAt st ((sAt st) + 1))) hx hb hr hlocks hK hP hD hS hcl hsl (by unfold f_Cu_expect; rw [if_pos c_1]) (show okSt (setAt st ((sAt st) + 1)) from ⟨hst.1, hst.2.1, hst.2.2.1, hst.2.2.2⟩) d_Cu_expect_33
  · refine lv_aload_n hx hb d_Cu_expect_15 rfl (lv_at hl 0 rfl) ?_
    refine lv_aload_n hx hb d_Cu_expect_16 rfl (lv_at hl 0 rfl) ?_
    refine va_get (D := (dC, dI)) (ci := 2) (v := .int (sAt st)) (C := R_Pa) (T := T_Pa) (N := 7) hx hb hts u_Pa hown hK hP 0 rfl rfl 4 (by decide) (hts _ L_214) (fun _ h9 => h9) rfl d_Cu_expect_17 ?_
    refine mx_Uv (xm := y_Cu_refuse) (owner := R_Cu) (As := [.int (sAt st)]) (rest := []) ⟨hx, hb, hml, hown, hts0⟩ (m_Cu_refuse l hlt dC dI cI cZ sa rk hp hc h a1 a2 a3 a4 ht hq n1 n2 ad st hst _ (sAt st) (fun z => hg (by unfold f_Cu_expect; rw [if_neg c_1, bnd_n z]))) hP hD hK hS hA hC hZ hnt hlocks L_459 L_461 L_462 L_460 L_86 L_463 rfl k_Cu_refuse ⟨Nat.le_of_ble_eq_true rfl, Nat.le_of_ble_eq_true rfl⟩ rfl rfl hl.1 (Nat.le_of_ble_eq_true rfl) d_Cu_expect_20 rfl (fun q z => by unfold f_Cu_expect; rw [if_neg c_1, bnd_l z]) hcl hsl (fun ad_2 st_2 H locs w_2 ok_2 e1_2 e2_2 hP hD hS => ?_)
    have hcl := cl_next hcl e1_2
    have hsl := cl_next hsl e2_2
    refine lv_aload_n hx hb d_Cu_expect_23 rfl (lv_at hl 0 rfl) ?_
    refine lv_dup hx hb d_Cu_expect_24 rfl ?_
    refine va_get (D := (dC, dI)) (ci := 2) (v := .int (sAt st_2)) (C := R_Pa) (T := T_Pa) (N := 7) hx hb hts u_Pa hown hK hP 0 rfl rfl 4 (by decide) (hts _ L_214) (fun _ h9 => h9) rfl d_Cu_expect_25 ?_
    refine lv_iconst (v := 1) hx hb d_Cu_expect_28 (by decide) ?_
    refine lv_iadd hx hb d_Cu_expect_29 ?_
    refine va_put (D := (dC, dI)) (ci := 2) (v := .int ((sAt st_2) + 1)) (ty := .int) (C := R_Pa) (T := T_Pa) (N := 7) hx hb hts u_Pa ty_Pa tk_Pa nm_Pa hown hK hP hD hS 0 rfl rfl 4 (by decide) (hts _ L_214) (fun _ h9 => h9) rfl (by decide +kernel) rfl rfl (Nat.le_of_ble_eq_true rfl) d_Cu_expect_30 (fun H locs hP hD hS => ?_)
    have hP : va_P (dC, dI) cls (wQ cI cZ hp hc h a1 a2 a3 a4 ht hq n1 n2 (ad_2, (setAt st_2 ((sAt st_2) + 1)))) H := hP
    have hD : va_D A (wQ cI cZ hp hc h a1 a2 a3 a4 ht hq n1 n2 (ad_2, (setAt st_2 ((sAt st_2) + 1)))) := hD
    exact mx_vret (stF := (setAt st_2 ((sAt st_2) + 1))) hx hb hr hlocks hK hP hD hS hcl hsl (by unfold f_Cu_expect; rw [if_neg c_1, bnd_r w_2]) (show okSt (setAt st_2 ((sAt st_2) + 1)) from ⟨ok_2.1, ok_2.2.1, ok_2.2.2.1, ok_2.2.2.2⟩) d_Cu_expect_33
def f_Cu_expectWord (st : ST) (word : Int32) : Rz := (if (f_Tk_keyword (sTk st) (sAt st)) = word then (some (.inr (0, (setAt st ((sAt st) + 1))))) else (bnd (f_Cu_refuse st (sAt st)) (fun _ st_2 => (some (.inr (0, (setAt st_2 ((sAt st_2) + 1))))))))
set_option maxRecDepth 100000 in
set_option maxHeartbeats 4000000 in
theorem m_Cu_expectWord (l : Launch) (hlt : l.stackTraces = false) (dC : Nat → ClassId) (dI : Nat → Nat → Nat) (cI cZ : ClassId) (sa rk hp hc h a1 a2 a3 a4 ht hq n1 n2 : Nat) (ad : AD) (st : ST) (hst : okSt st) (sz : Nat) (word : Int32) (hg : f_Cu_expectWord st word ≠ none) : cPv l y_Cu_expectWord c_Cu_expectWord 2 7 103 (dC, dI) cI cZ sa rk hp hc h a1 a2 a3 a4 ht hq n1 n2 ad st sz [.ref hp, .int word] (f_Cu_expectWord st word) := by
  refine vx_ofW (cc := c_Cu_expectWord) (maxL := 2) (ret := none) (by decide) rfl ?_
  intro p e s m args below meth c s₁ B hml hnt hv
  obtain ⟨rfl, hsz, hP, hK, hD0, hC, hZ⟩ := hv
  have hx := B.exec
  have hb := B.bytes
  have hr := B.returns
  have hts0 := atoms_spec (ws := wy y_Cu_expectWord c_Cu_expectWord 2 none) B.pre
  have hts := htsL hts0
  have hown : s.vm.findClass R_Cu = some m.cls := findClass_of_methodNamed B.named
  have hlocks := B.notSynchronized
  subst hsz
  have hD := hD0.self (sz := s.heap.size)
  generalize hAe : va_A (wQ cI cZ hp hc h a1 a2 a3 a4 ht hq n1 n2 (ad, st)) s.heap.size = A at hD hZ ⊢
  have hA : ∀ q : Nat, s.heap.size ≤ q → A q := fun q h => by rw [← hAe]; exact Or.inr h
  have hS : va_S A s.heap s.heap [] := va_S.rf
  have hcl : 0 + bC st ≤ bC st := Nat.le_of_eq (Nat.zero_add _)
  have hsl : 0 + bS st ≤ bS st := Nat.le_of_eq (Nat.zero_add _)
  have hl := lv_entry ([.ref hp, .int word]) (n := 2) (Nat.le_of_ble_eq_true rfl)
  rw [lg_entry_eq]
  generalize (lg_sl ([.ref hp, .int word]) ++ List.replicate (2 - (lg_sl ([.ref hp, .int word])).length) Slot.unset).toArray = ls at hl ⊢
  have hl : lv_has ls 2 [(0, .ref hp), (1, .int word)] := hl
  refine lv_aload_n hx hb d_Cu_expectWord_0 rfl (lv_at hl 0 rfl) ?_
  refine va_get (D := (dC, dI)) (ci := 2) (v := .ref h) (C := R_Pa) (T := T_Pa) (N := 7) hx hb hts u_Pa hown hK hP 0 rfl rfl 3 (by decide) (hts _ L_211) (fun _ h9 => h9) rfl d_Cu_expectWord_1 ?_
  refine lv_aload_n hx hb d_Cu_expectWord_4 rfl (lv_at hl 0 rfl) ?_
  refine va_get (D := (dC, dI)) (ci := 2) (v := .int (sAt st)) (C := R_Pa) (T := T_Pa) (N := 7) hx hb hts u_Pa hown hK hP 0 rfl rfl 4 (by decide) (hts _ L_214) (fun _ h9 => h9) rfl d_Cu_expectWord_5 ?_
  refine rd_V (v := (f_Tk_keyword (sTk st) (sAt st))) (As := [.int (sAt st)]) (rest := []) ⟨hx, hb, hml, hown, hts0⟩ (m_Tk_keyword l dC dI cI cZ h a1 a2 a3 a4 (sTk st) hst.1 (sAt st)) hP hK [2, 3, 4, 5, 6] rfl [0, 1] rfl 0 3 rfl rfl L_445 L_446 L_447 L_84 L_448 ⟨rfl, k_Tk_keyword⟩ ⟨Nat.le_of_ble_eq_true rfl, Nat.le_of_ble_eq_true rfl⟩ hl.1 ⟨Nat.le_trans (Nat.le_add_right _ _) hcl, Nat.le_trans (Nat.le_add_right _ _) hsl⟩ (Nat.le_of_ble_eq_true rfl) d_Cu_expectWord_8 rfl ?_
  refine lv_iload_n hx hb d_Cu_expectWord_11 rfl (lv_at hl 1 rfl) ?_
  refine lv_icmp_eq (tgt := 23) hx hb d_Cu_expectWord_12 (by decide) (fun c_1 => ?_) (fun c_1 => ?_)
  · refine lv_aload_n hx hb d_Cu_expectWord_23 rfl (lv_at hl 0 rfl) ?_
    refine lv_dup hx hb d_Cu_expectWord_24 rfl ?_
    refine va_get (D := (dC, dI)) (ci := 2) (v := .int (sAt st)) (C := R_Pa) (T := T_Pa) (N := 7) hx hb hts u_Pa hown hK hP 0 rfl rfl 4 (by decide) (hts _ L_214) (fun _ h9 => h9) rfl d_Cu_expectWord_25 ?_
    refine lv_iconst (v := 1) hx hb d_Cu_expectWord_28 (by decide) ?_
    refine lv_iadd hx hb d_Cu_expectWord_29 ?_
    refine va_put (D := (dC, dI)) (ci := 2) (v := .int ((sAt st) + 1)) (ty := .int) (C := R_Pa) (T := T_Pa) (N := 7) hx hb hts u_Pa ty_Pa tk_Pa nm_Pa hown hK hP hD hS 0 rfl rfl 4 (by decide) (hts _ L_214) (fun _ h9 => h9) rfl (by decide +kernel) rfl rfl (Nat.le_of_ble_eq_true rfl) d_Cu_expectWord_30 (fun H locs hP hD hS => ?_)
    have hP : va_P (dC, dI) cls (wQ cI cZ hp hc h a1 a2 a3 a4 ht hq n1 n2 (ad, (setAt st ((sAt st) + 1)))) H := hP
    have hD : va_D A (wQ cI cZ hp hc h a1 a2 a3 a4 ht hq n1 n2 (ad, (setAt st ((sAt st) + 1)))) := hD
    exact mx_vret (stF := (setAt st ((sAt st) + 1))) hx hb hr hlocks hK hP hD hS hcl hsl (by unfold f_Cu_expectWord; rw [if_pos c_1]) (show okSt (setAt st ((sAt st) + 1)) from ⟨hst.1, hst.2.1, hst.2.2.1, hst.2.2.2⟩) d_Cu_expectWord_33
  · refine lv_aload_n hx hb d_Cu_expectWord_15 rfl (lv_at hl 0 rfl) ?_
    refine lv_aload_n hx hb d_Cu_expectWord_16 rfl (lv_at hl 0 rfl) ?_
    refine va_get (D := (dC, dI)) (ci := 2) (v := .int (sAt st)) (C := R_Pa) (T := T_Pa) (N := 7) hx hb hts u_Pa hown hK hP 0 rfl rfl 4 (by decide) (hts _ L_214) (fun _ h9 => h9) rfl d_Cu_expectWord_17 ?_
    refine mx_Uv (xm := y_Cu_refuse) (owner := R_Cu) (As := [.int (sAt st)]) (rest := []) ⟨hx, hb, hml, hown, hts0⟩ (m_Cu_refuse l hlt dC dI cI cZ sa rk hp hc h a1 a2 a3 a4 ht hq n1 n2 ad st hst _ (sAt st) (fun z => hg (by unfold f_Cu_expectWord; rw [if_neg c_1, bnd_n z]))) hP hD hK hS hA hC hZ hnt hlocks L_459 L_461 L_462 L_460 L_86 L_463 rfl k_Cu_refuse ⟨Nat.le_of_ble_eq_true rfl, Nat.le_of_ble_eq_true rfl⟩ rfl rfl hl.1 (Nat.le_of_ble_eq_true rfl) d_Cu_expectWord_20 rfl (fun q z => by unfold f_Cu_expectWord; rw [if_neg c_1, bnd_l z]) hcl hsl (fun ad_2 st_2 H locs w_2 ok_2 e1_2 e2_2 hP hD hS => ?_)
    have hcl := cl_next hcl e1_2
    have hsl := cl_next hsl e2_2
    refine lv_aload_n hx hb d_Cu_expectWord_23 rfl (lv_at hl 0 rfl) ?_
    refine lv_dup hx hb d_Cu_expectWord_24 rfl ?_
    refine va_get (D := (dC, dI)) (ci := 2) (v := .int (sAt st_2)) (C := R_Pa) (T := T_Pa) (N := 7) hx hb hts u_Pa hown hK hP 0 rfl rfl 4 (by decide) (hts _ L_214) (fun _ h9 => h9) rfl d_Cu_expectWord_25 ?_
    refine lv_iconst (v := 1) hx hb d_Cu_expectWord_28 (by decide) ?_
    refine lv_iadd hx hb d_Cu_expectWord_29 ?_
    refine va_put (D := (dC, dI)) (ci := 2) (v := .int ((sAt st_2) + 1)) (ty := .int) (C := R_Pa) (T := T_Pa) (N := 7) hx hb hts u_Pa ty_Pa tk_Pa nm_Pa hown hK hP hD hS 0 rfl rfl 4 (by decide) (hts _ L_214) (fun _ h9 => h9) rfl (by decide +kernel) rfl rfl (Nat.le_of_ble_eq_true rfl) d_Cu_expectWord_30 (fun H locs hP hD hS => ?_)
    have hP : va_P (dC, dI) cls (wQ cI cZ hp hc h a1 a2 a3 a4 ht hq n1 n2 (ad_2, (setAt st_2 ((sAt st_2) + 1)))) H := hP
    have hD : va_D A (wQ cI cZ hp hc h a1 a2 a3 a4 ht hq n1 n2 (ad_2, (setAt st_2 ((sAt st_2) + 1)))) := hD
    exact mx_vret (stF := (setAt st_2 ((sAt st_2) + 1))) hx hb hr hlocks hK hP hD hS hcl hsl (by unfold f_Cu_expectWord; rw [if_neg c_1, bnd_r w_2]) (show okSt (setAt st_2 ((sAt st_2) + 1)) from ⟨ok_2.1, ok_2.2.1, ok_2.2.2.1, ok_2.2.2.2⟩) d_Cu_expectWord_33
def f_Cu_boundName (st : ST)  : Rz := (if (coS st) = 0 then (if (f_Tk_identifier (sTk st) (sAt st) (coS st)) = 0 then (bnd (f_Cu_refuse st (sAt st)) (fun _ st_3 => (some (.inr ((f_Tk_name (sTk st) (sAt st)), (setAt st_3 ((sAt st_3) + 1))))))) else (some (.inr ((f_Tk_name (sTk st) (sAt st)), (setAt st ((sAt st) + 1)))))) else (if (f_Tk_evalOrArguments (f_Tk_name (sTk st) (sAt st))) = 0 then (if (f_Tk_identifier (sTk st) (sAt st) (coS st)) = 0 then (bnd (f_Cu_refuse st (sAt st)) (fun _ st_6 => (some (.inr ((f_Tk_name (sTk st) (sAt st)), (setAt st_6 ((sAt st_6) + 1))))))) else (some (.inr ((f_Tk_name (sTk st) (sAt st)), (setAt st ((sAt st) + 1)))))) else (bnd (f_Cu_refuse st (sAt st)) (fun _ st_7 => (some (.inr ((f_Tk_name (sTk st) (sAt st)), (setAt st_7 ((sAt st_7) + 1)))))))))
set_option maxRecDepth 100000 in
set_option maxHeartbeats 4000000 in
theorem m_Cu_boundName (l : Launch) (hlt : l.stackTraces = false) (dC : Nat → ClassId) (dI : Nat → Nat → Nat) (cI cZ : ClassId) (sa rk hp hc h a1 a2 a3 a4 ht hq n1 n2 : Nat) (ad : AD) (st : ST) (hst : okSt st) (sz : Nat)  (hg : f_Cu_boundName st ≠ none) : cPi l y_Cu_boundName c_Cu_boundName 3 .int 7 103 (dC, dI) cI cZ sa rk hp hc h a1 a2 a3 a4 ht hq n1 n2 ad st sz [.ref hp] (f_Cu_boundName st) := by
  refine vx_ofW (cc := c_Cu_boundName) (maxL := 3) (ret := (some .int)) (by decide) rfl ?_
  intro p e s m args below meth c s₁ B hml hnt hv
  obtain ⟨rfl, hsz, hP, hK, hD0, hC, hZ⟩ := hv
  have hx := B.exec
  have hb := B.bytes
  have hr := B.returns
  have hts0 := atoms_spec (ws := wy y_Cu_boundName c_Cu_boundName 3 (some .int)) B.pre
  have hts := htsL hts0
  have hown : s.vm.findClass R_Cu = some m.cls := findClass_of_methodNamed B.named
  have hlocks := B.notSynchronized
  subst hsz
  have hD := hD0.self (sz := s.heap.size)
  generalize hAe : va_A (wQ cI cZ hp hc h a1 a2 a3 a4 ht hq n1 n2 (ad, st)) s.heap.size = A at hD hZ ⊢
  have hA : ∀ q : Nat, s.heap.size ≤ q → A q := fun q h => by rw [← hAe]; exact Or.inr h
  have hS : va_S A s.heap s.heap [] := va_S.rf
  have hcl : 0 + bC st ≤ bC st := Nat.le_of_eq (Nat.zero_add _)
  have hsl : 0 + bS st ≤ bS st := Nat.le_of_eq (Nat.zero_add _)
  have hl := lv_entry ([.ref hp]) (n := 3) (Nat.le_of_ble_eq_true rfl)
  rw [lg_entry_eq]
  generalize (lg_sl ([.ref hp]) ++ List.replicate (3 - (lg_sl ([.ref hp])).length) Slot.unset).toArray = ls at hl ⊢
  have hl : lv_has ls 3 [(0, .ref hp)] := hl
  refine lv_aload_n hx hb d_Cu_boundName_0 rfl (lv_at hl 0 rfl) ?_
  refine va_get (D := (dC, dI)) (ci := 2) (v := .ref h) (C := R_Pa) (T := T_Pa) (N := 7) hx hb hts u_Pa hown hK hP 0 rfl rfl 3 (by decide) (hts _ L_211) (fun _ h9 => h9) rfl d_Cu_boundName_1 ?_
  refine lv_aload_n hx hb d_Cu_boundName_4 rfl (lv_at hl 0 rfl) ?_
  refine va_get (D := (dC, dI)) (ci := 2) (v := .int (sAt st)) (C := R_Pa) (T := T_Pa) (N := 7) hx hb hts u_Pa hown hK hP 0 rfl rfl 4 (by decide) (hts _ L_214) (fun _ h9 => h9) rfl d_Cu_boundName_5 ?_
  refine rd_V (v := (f_Tk_name (sTk st) (sAt st))) (As := [.int (sAt st)]) (rest := []) ⟨hx, hb, hml, hown, hts0⟩ (m_Tk_name l dC dI cI cZ h a1 a2 a3 a4 (sTk st) hst.1 (sAt st)) hP hK [2, 3, 4, 5, 6] rfl [0, 1] rfl 0 3 rfl rfl L_477 L_478 L_479 L_84 L_480 ⟨rfl, k_Tk_name⟩ ⟨Nat.le_of_ble_eq_true rfl, Nat.le_of_ble_eq_true rfl⟩ hl.1 ⟨Nat.le_trans (Nat.le_add_right _ _) hcl, Nat.le_trans (Nat.le_add_right _ _) hsl⟩ (Nat.le_of_ble_eq_true rfl) d_Cu_boundName_8 rfl ?_
  refine lv_istore_n (lv' := [(1, .int (f_Tk_name (sTk st) (sAt st))), (0, .ref hp)]) hx hb d_Cu_boundName_11 rfl hl (by decide) rfl (fun ls hl => ?_)
  refine lv_aload_n hx hb d_Cu_boundName_12 rfl (lv_at hl 1 rfl) ?_
  refine va_get (D := (dC, dI)) (ci := 2) (v := .ref hc) (C := R_Pa) (T := T_Pa) (N := 7) hx hb hts u_Pa hown hK hP 0 rfl rfl 6 (by decide) (hts _ L_220) (fun _ h9 => h9) rfl d_Cu_boundName_13 ?_
  refine va_get (D := (dC, dI)) (ci := 0) (v := .int (coS st)) (C := R_Co) (T := T_Co) (N := 5) hx hb hts u_Co hown hK hP 1 rfl rfl 2 (by decide) (hts _ L_175) (fun _ h9 => h9) rfl d_Cu_boundName_16 ?_
  refine lv_if_eq (tgt := 33) hx hb d_Cu_boundName_19 (by decide) (fun c_1 => ?_) (fun c_1 => ?_)
  · refine lv_iconst (v := 0) hx hb d_Cu_boundName_33 (by decide) ?_
    refine lv_istore_n (lv' := [(2, .int 0), (1, .int (f_Tk_name (sTk st) (sAt st))), (0, .ref hp)]) hx hb d_Cu_boundName_34 rfl hl (by decide) rfl (fun ls hl => ?_)
    refine lv_iload_n hx hb d_Cu_boundName_35 rfl (lv_at hl 0 rfl) ?_
    refine lv_if_ne (tgt := 60) hx hb d_Cu_boundName_36 (by decide) (fun q9 => absurd q9 (by decide)) (fun _ => ?_)
    refine lv_aload_n hx hb d_Cu_boundName_39 rfl (lv_at hl 2 rfl) ?_
    refine va_get (D := (dC, dI)) (ci := 2) (v := .ref h) (C := R_Pa) (T := T_Pa) (N := 7) hx hb hts u_Pa hown hK hP 0 rfl rfl 3 (by decide) (hts _ L_211) (fun _ h9 => h9) rfl d_Cu_boundName_40 ?_
    refine lv_aload_n hx hb d_Cu_boundName_43 rfl (lv_at hl 2 rfl) ?_
    refine va_get (D := (dC, dI)) (ci := 2) (v := .int (sAt st)) (C := R_Pa) (T := T_Pa) (N := 7) hx hb hts u_Pa hown hK hP 0 rfl rfl 4 (by decide) (hts _ L_214) (fun _ h9 => h9) rfl d_Cu_boundName_44 ?_
    refine lv_aload_n hx hb d_Cu_boundName_47 rfl (lv_at hl 2 rfl) ?_
    refine va_get (D := (dC, dI)) (ci := 2) (v := .ref hc) (C := R_Pa) (T := T_Pa) (N := 7) hx hb hts u_Pa hown hK hP 0 rfl rfl 6 (by decide) (hts _ L_220) (fun _ h9 => h9) rfl d_Cu_boundName_48 ?_
    refine va_get (D := (dC, dI)) (ci := 0) (v := .int (coS st)) (C := R_Co) (T := T_Co) (N := 5) hx hb hts u_Co hown hK hP 1 rfl rfl 2 (by decide) (hts _ L_175) (fun _ h9 => h9) rfl d_Cu_boundName_51 ?_
    refine rd_V (v := (f_Tk_identifier (sTk st) (sAt st) (coS st))) (As := [.int (sAt st), .int (coS st)]) (rest := []) ⟨hx, hb, hml, hown, hts0⟩ (m_Tk_identifier l dC dI cI cZ h a1 a2 a3 a4 (sTk st) hst.1 (sAt st) (coS st)) hP hK [2, 3, 4, 5, 6] rfl [0, 1] rfl 0 3 rfl rfl L_484 L_485 L_486 L_84 L_487 ⟨rfl, k_Tk_identifier⟩ ⟨Nat.le_of_ble_eq_true rfl, Nat.le_of_ble_eq_true rfl⟩ hl.1 ⟨Nat.le_trans (Nat.le_add_right _ _) hcl, Nat.le_trans (Nat.le_add_right _ _) hsl⟩ (Nat.le_of_ble_eq_true rfl) d_Cu_boundName_54 rfl ?_
    refine lv_if_ne (tgt := 68) hx hb d_Cu_boundName_57 (by decide) (fun c_2 => ?_) (fun c_2 => ?_)
    · refine lv_aload_n hx hb d_Cu_boundName_68 rfl (lv_at hl 2 rfl) ?_
      refine lv_dup hx hb d_Cu_boundName_69 rfl ?_
      refine va_get (D := (dC, dI)) (ci := 2) (v := .int (sAt st)) (C := R_Pa) (T := T_Pa) (N := 7) hx hb hts u_Pa hown hK hP 0 rfl rfl 4 (by decide) (hts _ L_214) (fun _ h9 => h9) rfl d_Cu_boundName_70 ?_
      refine lv_iconst (v := 1) hx hb d_Cu_boundName_73 (by decide) ?_
      refine lv_iadd hx hb d_Cu_boundName_74 ?_
      refine va_put (D := (dC, dI)) (ci := 2) (v := .int ((sAt st) + 1)) (ty := .int) (C := R_Pa) (T := T_Pa) (N := 7) hx hb hts u_Pa ty_Pa tk_Pa nm_Pa hown hK hP hD hS 0 rfl rfl 4 (by decide) (hts _ L_214) (fun _ h9 => h9) rfl (by decide +kernel) rfl rfl (Nat.le_of_ble_eq_true rfl) d_Cu_boundName_75 (fun H locs hP hD hS => ?_)
      have hP : va_P (dC, dI) cls (wQ cI cZ hp hc h a1 a2 a3 a4 ht hq n1 n2 (ad, (setAt st ((sAt st) + 1)))) H := hP
      have hD : va_D A (wQ cI cZ hp hc h a1 a2 a3 a4 ht hq n1 n2 (ad, (setAt st ((sAt st) + 1)))) := hD
      refine lv_iload_n hx hb d_Cu_boundName_78 rfl (lv_at hl 1 rfl) ?_
      exact mx_iret (v := (f_Tk_name (sTk st) (sAt st))) (stF := (setAt st ((sAt st) + 1))) hx hb hr hlocks hK hP hD hS hcl hsl (by unfold f_Cu_boundName; rw [if_pos c_1, if_neg c_2]) (show okSt (setAt st ((sAt st) + 1)) from ⟨hst.1, hst.2.1, hst.2.2.1, hst.2.2.2⟩) d_Cu_boundName_79
    · refine lv_aload_n hx hb d_Cu_boundName_60 rfl (lv_at hl 2 rfl) ?_
      refine lv_aload_n hx hb d_Cu_boundName_61 rfl (lv_at hl 2 rfl) ?_
      refine va_get (D := (dC, dI)) (ci := 2) (v := .int (sAt st)) (C := R_Pa) (T := T_Pa) (N := 7) hx hb hts u_Pa hown hK hP 0 rfl rfl 4 (by decide) (hts _ L_214) (fun _ h9 => h9) rfl d_Cu_boundName_62 ?_
      refine mx_Uv (xm := y_Cu_refuse) (owner := R_Cu) (As := [.int (sAt st)]) (rest := []) ⟨hx, hb, hml, hown, hts0⟩ (m_Cu_refuse l hlt dC dI cI cZ sa rk hp hc h a1 a2 a3 a4 ht hq n1 n2 ad st hst _ (sAt st) (fun z => hg (by unfold f_Cu_boundName; rw [if_pos c_1, if_pos c_2, bnd_n z]))) hP hD hK hS hA hC hZ hnt hlocks L_459 L_461 L_462 L_460 L_86 L_463 rfl k_Cu_refuse ⟨Nat.le_of_ble_eq_true rfl, Nat.le_of_ble_eq_true rfl⟩ rfl rfl hl.1 (Nat.le_of_ble_eq_true rfl) d_Cu_boundName_65 rfl (fun q z => by unfold f_Cu_boundName; rw [if_pos c_1, if_pos c_2, bnd_l z]) hcl hsl (fun ad_3 st_3 H locs w_3 ok_3 e1_3 e2_3 hP hD hS => ?_)
      have hcl := cl_next hcl e1_3
      have hsl := cl_next hsl e2_3
      refine lv_aload_n hx hb d_Cu_boundName_68 rfl (lv_at hl 2 rfl) ?_
      refine lv_dup hx hb d_Cu_boundName_69 rfl ?_
      refine va_get (D := (dC, dI)) (ci := 2) (v := .int (sAt st_3)) (C := R_Pa) (T := T_Pa) (N := 7) hx hb hts u_Pa hown hK hP 0 rfl rfl 4 (by decide) (hts _ L_214) (fun _ h9 => h9) rfl d_Cu_boundName_70 ?_
      refine lv_iconst (v := 1) hx hb d_Cu_boundName_73 (by decide) ?_
      refine lv_iadd hx hb d_Cu_boundName_74 ?_
      refine va_put (D := (dC, dI)) (ci := 2) (v := .int ((sAt st_3) + 1)) (ty := .int) (C := R_Pa) (T := T_Pa) (N := 7) hx hb hts u_Pa ty_Pa tk_Pa nm_Pa hown hK hP hD hS 0 rfl rfl 4 (by decide) (hts _ L_214) (fun _ h9 => h9) rfl (by decide +kernel) rfl rfl (Nat.le_of_ble_eq_true rfl) d_Cu_boundName_75 (fun H locs hP hD hS => ?_)
      have hP : va_P (dC, dI) cls (wQ cI cZ hp hc h a1 a2 a3 a4 ht hq n1 n2 (ad_3, (setAt st_3 ((sAt st_3) + 1)))) H := hP
      have hD : va_D A (wQ cI cZ hp hc h a1 a2 a3 a4 ht hq n1 n2 (ad_3, (setAt st_3 ((sAt st_3) + 1)))) := hD
      refine lv_iload_n hx hb d_Cu_boundName_78 rfl (lv_at hl 1 rfl) ?_
      exact mx_iret (v := (f_Tk_name (sTk st) (sAt st))) (stF := (setAt st_3 ((sAt st_3) + 1))) hx hb hr hlocks hK hP hD hS hcl hsl (by unfold f_Cu_boundName; rw [if_pos c_1, if_pos c_2, bnd_r w_3]) (show okSt (setAt st_3 ((sAt st_3) + 1)) from ⟨ok_3.1, ok_3.2.1, ok_3.2.2.1, ok_3.2.2.2⟩) d_Cu_boundName_79
  · refine lv_iload_n hx hb d_Cu_boundName_22 rfl (lv_at hl 0 rfl) ?_
    refine rd_S (v := (f_Tk_evalOrArguments (f_Tk_name (sTk st) (sAt st)))) (As := [.int (f_Tk_name (sTk st) (sAt st))]) (rest := []) ⟨hx, hb, hml, hown, hts0⟩ (m_Tk_evalOrArguments l dC dI cI cZ  (f_Tk_name (sTk st) (sAt st))) hP hK [] rfl [0, 1] rfl L_481 L_482 L_84 L_483 k_Tk_evalOrArguments ⟨Nat.le_of_ble_eq_true rfl, Nat.le_of_ble_eq_true rfl⟩ hl.1 ⟨Nat.le_trans (Nat.le_add_right _ _) hcl, Nat.le_trans (Nat.le_add_right _ _) hsl⟩ (Nat.le_of_ble_eq_true rfl) d_Cu_boundName_23 rfl ?_
    refine lv_if_eq (tgt := 33) hx hb d_Cu_boundName_26 (by decide) (fun c_4 => ?_) (fun c_4 => ?_)
    · refine lv_iconst (v := 0) hx hb d_Cu_boundName_33 (by decide) ?_
      refine lv_istore_n (lv' := [(2, .int 0), (1, .int (f_Tk_name (sTk st) (sAt st))), (0, .ref hp)]) hx hb d_Cu_boundName_34 rfl hl (by decide) rfl (fun ls hl => ?_)
      refine lv_iload_n hx hb d_Cu_boundName_35 rfl (lv_at hl 0 rfl) ?_
      refine lv_if_ne (tgt := 60) hx hb d_Cu_boundName_36 (by decide) (fun q9 => absurd q9 (by decide)) (fun _ => ?_)
      refine lv_aload_n hx hb d_Cu_boundName_39 rfl (lv_at hl 2 rfl) ?_
      refine va_get (D := (dC, dI)) (ci := 2) (v := .ref h) (C := R_Pa) (T := T_Pa) (N := 7) hx hb hts u_Pa hown hK hP 0 rfl rfl 3 (by decide) (hts _ L_211) (fun _ h9 => h9) rfl d_Cu_boundName_40 ?_
      refine lv_aload_n hx hb d_Cu_boundName_43 rfl (lv_at hl 2 rfl) ?_
      refine va_get (D := (dC, dI)) (ci := 2) (v := .int (sAt st)) (C := R_Pa) (T := T_Pa) (N := 7) hx hb hts u_Pa hown hK hP 0 rfl rfl 4 (by decide) (hts _ L_214) (fun _ h9 => h9) rfl d_Cu_boundName_44 ?_
      refine lv_aload_n hx hb d_Cu_boundName_47 rfl (lv_at hl 2 rfl) ?_
      refine va_get (D := (dC, dI)) (ci := 2) (v := .ref hc) (C := R_Pa) (T := T_Pa) (N := 7) hx hb hts u_Pa hown hK hP 0 rfl rfl 6 (by decide) (hts _ L_220) (fun _ h9 => h9) rfl d_Cu_boundName_48 ?_
      refine va_get (D := (dC, dI)) (ci := 0) (v := .int (coS st)) (C := R_Co) (T := T_Co) (N := 5) hx hb hts u_Co hown hK hP 1 rfl rfl 2 (by decide) (hts _ L_175) (fun _ h9 => h9) rfl d_Cu_boundName_51 ?_
      refine rd_V (v := (f_Tk_identifier (sTk st) (sAt st) (coS st))) (As := [.int (sAt st), .int (coS st)]) (rest := []) ⟨hx, hb, hml, hown, hts0⟩ (m_Tk_identifier l dC dI cI cZ h a1 a2 a3 a4 (sTk st) hst.1 (sAt st) (coS st)) hP hK [2, 3, 4, 5, 6] rfl [0, 1] rfl 0 3 rfl rfl L_484 L_485 L_486 L_84 L_487 ⟨rfl, k_Tk_identifier⟩ ⟨Nat.le_of_ble_eq_true rfl, Nat.le_of_ble_eq_true rfl⟩ hl.1 ⟨Nat.le_trans (Nat.le_add_right _ _) hcl, Nat.le_trans (Nat.le_add_right _ _) hsl⟩ (Nat.le_of_ble_eq_true rfl) d_Cu_boundName_54 rfl ?_
      refine lv_if_ne (tgt := 68) hx hb d_Cu_boundName_57 (by decide) (fun c_5 => ?_) (fun c_5 => ?_)
      · refine lv_aload_n hx hb d_Cu_boundName_68 rfl (lv_at hl 2 rfl) ?_
        refine lv_dup hx hb d_Cu_boundName_69 rfl ?_
        refine va_get (D := (dC, dI)) (ci := 2) (v := .int (sAt st)) (C := R_Pa) (T := T_Pa) (N := 7) hx hb hts u_Pa hown hK hP 0 rfl rfl 4 (by decide) (hts _ L_214) (fun _ h9 => h9) rfl d_Cu_boundName_70 ?_
        refine lv_iconst (v := 1) hx hb d_Cu_boundName_73 (by decide) ?_
        refine lv_iadd hx hb d_Cu_boundName_74 ?_
        refine va_put (D := (dC, dI)) (ci := 2) (v := .int ((sAt st) + 1)) (ty := .int) (C := R_Pa) (T := T_Pa) (N := 7) hx hb hts u_Pa ty_Pa tk_Pa nm_Pa hown hK hP hD hS 0 rfl rfl 4 (by decide) (hts _ L_214) (fun _ h9 => h9) rfl (by decide +kernel) rfl rfl (Nat.le_of_ble_eq_true rfl) d_Cu_boundName_75 (fun H locs hP hD hS => ?_)
        have hP : va_P (dC, dI) cls (wQ cI cZ hp hc h a1 a2 a3 a4 ht hq n1 n2 (ad, (setAt st ((sAt st) + 1)))) H := hP
        have hD : va_D A (wQ cI cZ hp hc h a1 a2 a3 a4 ht hq n1 n2 (ad, (setAt st ((sAt st) + 1)))) := hD
        refine lv_iload_n hx hb d_Cu_boundName_78 rfl (lv_at hl 1 rfl) ?_
        exact mx_iret (v := (f_Tk_name (sTk st) (sAt st))) (stF := (setAt st ((sAt st) + 1))) hx hb hr hlocks hK hP hD hS hcl hsl (by unfold f_Cu_boundName; rw [if_neg c_1, if_pos c_4, if_neg c_5]) (show okSt (setAt st ((sAt st) + 1)) from ⟨hst.1, hst.2.1, hst.2.2.1, hst.2.2.2⟩) d_Cu_boundName_79
      · refine lv_aload_n hx hb d_Cu_boundName_60 rfl (lv_at hl 2 rfl) ?_
        refine lv_aload_n hx hb d_Cu_boundName_61 rfl (lv_at hl 2 rfl) ?_
        refine va_get (D := (dC, dI)) (ci := 2) (v := .int (sAt st)) (C := R_Pa) (T := T_Pa) (N := 7) hx hb hts u_Pa hown hK hP 0 rfl rfl 4 (by decide) (hts _ L_214) (fun _ h9 => h9) rfl d_Cu_boundName_62 ?_
        refine mx_Uv (xm := y_Cu_refuse) (owner := R_Cu) (As := [.int (sAt st)]) (rest := []) ⟨hx, hb, hml, hown, hts0⟩ (m_Cu_refuse l hlt dC dI cI cZ sa rk hp hc h a1 a2 a3 a4 ht hq n1 n2 ad st hst _ (sAt st) (fun z => hg (by unfold f_Cu_boundName; rw [if_neg c_1, if_pos c_4, if_pos c_5, bnd_n z]))) hP hD hK hS hA hC hZ hnt hlocks L_459 L_461 L_462 L_460 L_86 L_463 rfl k_Cu_refuse ⟨Nat.le_of_ble_eq_true rfl, Nat.le_of_ble_eq_true rfl⟩ rfl rfl hl.1 (Nat.le_of_ble_eq_true rfl) d_Cu_boundName_65 rfl (fun q z => by unfold f_Cu_boundName; rw [if_neg c_1, if_pos c_4, if_pos c_5, bnd_l z]) hcl hsl (fun ad_6 st_6 H locs w_6 ok_6 e1_6 e2_6 hP hD hS => ?_)
        have hcl := cl_next hcl e1_6
        have hsl := cl_next hsl e2_6
        refine lv_aload_n hx hb d_Cu_boundName_68 rfl (lv_at hl 2 rfl) ?_
        refine lv_dup hx hb d_Cu_boundName_69 rfl ?_
        refine va_get (D := (dC, dI)) (ci := 2) (v := .int (sAt st_6)) (C := R_Pa) (T := T_Pa) (N := 7) hx hb hts u_Pa hown hK hP 0 rfl rfl 4 (by decide) (hts _ L_214) (fun _ h9 => h9) rfl d_Cu_boundName_70 ?_
        refine lv_iconst (v := 1) hx hb d_Cu_boundName_73 (by decide) ?_
        refine lv_iadd hx hb d_Cu_boundName_74 ?_
        refine va_put (D := (dC, dI)) (ci := 2) (v := .int ((sAt st_6) + 1)) (ty := .int) (C := R_Pa) (T := T_Pa) (N := 7) hx hb hts u_Pa ty_Pa tk_Pa nm_Pa hown hK hP hD hS 0 rfl rfl 4 (by decide) (hts _ L_214) (fun _ h9 => h9) rfl (by decide +kernel) rfl rfl (Nat.le_of_ble_eq_true rfl) d_Cu_boundName_75 (fun H locs hP hD hS => ?_)
        have hP : va_P (dC, dI) cls (wQ cI cZ hp hc h a1 a2 a3 a4 ht hq n1 n2 (ad_6, (setAt st_6 ((sAt st_6) + 1)))) H := hP
        have hD : va_D A (wQ cI cZ hp hc h a1 a2 a3 a4 ht hq n1 n2 (ad_6, (setAt st_6 ((sAt st_6) + 1)))) := hD
        refine lv_iload_n hx hb d_Cu_boundName_78 rfl (lv_at hl 1 rfl) ?_
        exact mx_iret (v := (f_Tk_name (sTk st) (sAt st))) (stF := (setAt st_6 ((sAt st_6) + 1))) hx hb hr hlocks hK hP hD hS hcl hsl (by unfold f_Cu_boundName; rw [if_neg c_1, if_pos c_4, if_pos c_5, bnd_r w_6]) (show okSt (setAt st_6 ((sAt st_6) + 1)) from ⟨ok_6.1, ok_6.2.1, ok_6.2.2.1, ok_6.2.2.2⟩) d_Cu_boundName_79
    · refine lv_iconst (v := 1) hx hb d_Cu_boundName_29 (by decide) ?_
      refine lv_goto (tgt := 34) hx hb d_Cu_boundName_30 (by decide) ?_
      refine lv_istore_n (lv' := [(2, .int 1), (1, .int (f_Tk_name (sTk st) (sAt st))), (0, .ref hp)]) hx hb d_Cu_boundName_34 rfl hl (by decide) rfl (fun ls hl => ?_)
      refine lv_iload_n hx hb d_Cu_boundName_35 rfl (lv_at hl 0 rfl) ?_
      refine lv_if_ne (tgt := 60) hx hb d_Cu_boundName_36 (by decide) (fun _ => ?_) (fun q9 => absurd q9 (by decide))
      refine lv_aload_n hx hb d_Cu_boundName_60 rfl (lv_at hl 2 rfl) ?_
      refine lv_aload_n hx hb d_Cu_boundName_61 rfl (lv_at hl 2 rfl) ?_
      refine va_get (D := (dC, dI)) (ci := 2) (v := .int (sAt st)) (C := R_Pa) (T := T_Pa) (N := 7) hx hb hts u_Pa hown hK hP 0 rfl rfl 4 (by decide) (hts _ L_214) (fun _ h9 => h9) rfl d_Cu_boundName_62 ?_
      refine mx_Uv (xm := y_Cu_refuse) (owner := R_Cu) (As := [.int (sAt st)]) (rest := []) ⟨hx, hb, hml, hown, hts0⟩ (m_Cu_refuse l hlt dC dI cI cZ sa rk hp hc h a1 a2 a3 a4 ht hq n1 n2 ad st hst _ (sAt st) (fun z => hg (by unfold f_Cu_boundName; rw [if_neg c_1, if_neg c_4, bnd_n z]))) hP hD hK hS hA hC hZ hnt hlocks L_459 L_461 L_462 L_460 L_86 L_463 rfl k_Cu_refuse ⟨Nat.le_of_ble_eq_true rfl, Nat.le_of_ble_eq_true rfl⟩ rfl rfl hl.1 (Nat.le_of_ble_eq_true rfl) d_Cu_boundName_65 rfl (fun q z => by unfold f_Cu_boundName; rw [if_neg c_1, if_neg c_4, bnd_l z]) hcl hsl (fun ad_7 st_7 H locs w_7 ok_7 e1_7 e2_7 hP hD hS => ?_)
      have hcl := cl_next hcl e1_7
      have hsl := cl_next hsl e2_7
      refine lv_aload_n hx hb d_Cu_boundName_68 rfl (lv_at hl 2 rfl) ?_
      refine lv_dup hx hb d_Cu_boundName_69 rfl ?_
      refine va_get (D := (dC, dI)) (ci := 2) (v := .int (sAt st_7)) (C := R_Pa) (T := T_Pa) (N := 7) hx hb hts u_Pa hown hK hP 0 rfl rfl 4 (by decide) (hts _ L_214) (fun _ h9 => h9) rfl d_Cu_boundName_70 ?_
      refine lv_iconst (v := 1) hx hb d_Cu_boundName_73 (by decide) ?_
      refine lv_iadd hx hb d_Cu_boundName_74 ?_
      refine va_put (D := (dC, dI)) (ci := 2) (v := .int ((sAt st_7) + 1)) (ty := .int) (C := R_Pa) (T := T_Pa) (N := 7) hx hb hts u_Pa ty_Pa tk_Pa nm_Pa hown hK hP hD hS 0 rfl rfl 4 (by decide) (hts _ L_214) (fun _ h9 => h9) rfl (by decide +kernel) rfl rfl (Nat.le_of_ble_eq_true rfl) d_Cu_boundName_75 (fun H locs hP hD hS => ?_)
      have hP : va_P (dC, dI) cls (wQ cI cZ hp hc h a1 a2 a3 a4 ht hq n1 n2 (ad_7, (setAt st_7 ((sAt st_7) + 1)))) H := hP
      have hD : va_D A (wQ cI cZ hp hc h a1 a2 a3 a4 ht hq n1 n2 (ad_7, (setAt st_7 ((sAt st_7) + 1)))) := hD
      refine lv_iload_n hx hb d_Cu_boundName_78 rfl (lv_at hl 1 rfl) ?_
      exact mx_iret (v := (f_Tk_name (sTk st) (sAt st))) (stF := (setAt st_7 ((sAt st_7) + 1))) hx hb hr hlocks hK hP hD hS hcl hsl (by unfold f_Cu_boundName; rw [if_neg c_1, if_neg c_4, bnd_r w_7]) (show okSt (setAt st_7 ((sAt st_7) + 1)) from ⟨ok_7.1, ok_7.2.1, ok_7.2.2.1, ok_7.2.2.2⟩) d_Cu_boundName_79
def f_Cu_semicolon (st : ST)  : Rz := (if (f_Cu_statementEnds st) = 0 then (bnd (f_Cu_refuse st (sAt st)) (fun _ st_3 => (bnd (f_Cu_accept st_3 67) (fun r_4 st_4 => (some (.inr (0, st_4))))))) else (bnd (f_Cu_accept st 67) (fun r_2 st_2 => (some (.inr (0, st_2))))))
set_option maxRecDepth 100000 in
set_option maxHeartbeats 4000000 in
theorem m_Cu_semicolon (l : Launch) (hlt : l.stackTraces = false) (dC : Nat → ClassId) (dI : Nat → Nat → Nat) (cI cZ : ClassId) (sa rk hp hc h a1 a2 a3 a4 ht hq n1 n2 : Nat) (ad : AD) (st : ST) (hst : okSt st) (sz : Nat)  (hg : f_Cu_semicolon st ≠ none) : cPv l y_Cu_semicolon c_Cu_semicolon 1 7 103 (dC, dI) cI cZ sa rk hp hc h a1 a2 a3 a4 ht hq n1 n2 ad st sz [.ref hp] (f_Cu_semicolon st) := by
  refine vx_ofW (cc := c_Cu_semicolon) (maxL := 1) (ret := none) (by decide) rfl ?_
  intro p e s m args below meth c s₁ B hml hnt hv
  obtain ⟨rfl, hsz, hP, hK, hD0, hC, hZ⟩ := hv
  have hx := B.exec
  have hb := B.bytes
  have hr := B.returns
  have hts0 := atoms_spec (ws := wy y_Cu_semicolon c_Cu_semicolon 1 none) B.pre
  have hts := htsL hts0
  have hown : s.vm.findClass R_Cu = some m.cls := findClass_of_methodNamed B.named
  have hlocks := B.notSynchronized
  subst hsz
  have hD := hD0.self (sz := s.heap.size)
  generalize hAe : va_A (wQ cI cZ hp hc h a1 a2 a3 a4 ht hq n1 n2 (ad, st)) s.heap.size = A at hD hZ ⊢
  have hA : ∀ q : Nat, s.heap.size ≤ q → A q := fun q h => by rw [← hAe]; exact Or.inr h
  have hS : va_S A s.heap s.heap [] := va_S.rf
  have hcl : 0 + bC st ≤ bC st := Nat.le_of_eq (Nat.zero_add _)
  have hsl : 0 + bS st ≤ bS st := Nat.le_of_eq (Nat.zero_add _)
  have hl := lv_entry ([.ref hp]) (n := 1) (Nat.le_of_ble_eq_true rfl)
  rw [lg_entry_eq]
  generalize (lg_sl ([.ref hp]) ++ List.replicate (1 - (lg_sl ([.ref hp])).length) Slot.unset).toArray = ls at hl ⊢
  have hl : lv_has ls 1 [(0, .ref hp)] := hl
  refine lv_aload_n hx hb d_Cu_semicolon_0 rfl (lv_at hl 0 rfl) ?_
  refine rd_U (xm := y_Cu_statementEnds) (owner := R_Cu) (v := (f_Cu_statementEnds st)) (As := []) (rest := []) ⟨hx, hb, hml, hown, hts0⟩ (m_Cu_statementEnds l dC dI cI cZ hp hc h a1 a2 a3 a4 ht ad.1 ad.2.1 ad.2.2.1 ad.2.2.2 hq n1 n2 st hst ) hP hK [0, 1, 2, 3, 4, 5, 6, 7, 8, 9, 10, 11, 12, 13, 14] rfl [0, 1] rfl 0 2 rfl rfl L_717 L_719 L_720 L_718 L_86 L_721 rfl k_Cu_statementEnds ⟨Nat.le_of_ble_eq_true rfl, Nat.le_of_ble_eq_true rfl⟩ hl.1 ⟨Nat.le_trans (Nat.le_add_right _ _) hcl, Nat.le_trans (Nat.le_add_right _ _) hsl⟩ (Nat.le_of_ble_eq_true rfl) d_Cu_semicolon_1 rfl ?_
  refine lv_if_ne (tgt := 15) hx hb d_Cu_semicolon_4 (by decide) (fun c_1 => ?_) (fun c_1 => ?_)
  · refine lv_aload_n hx hb d_Cu_semicolon_15 rfl (lv_at hl 0 rfl) ?_
    refine lv_bipush (v := 67) hx hb d_Cu_semicolon_16 (by decide) ?_
    refine mx_Ui (xm := y_Cu_accept) (owner := R_Cu) (As := [.int 67]) (rest := []) ⟨hx, hb, hml, hown, hts0⟩ (m_Cu_accept l hlt dC dI cI cZ sa rk hp hc h a1 a2 a3 a4 ht hq n1 n2 ad st hst _ 67 (fun z => hg (by unfold f_Cu_semicolon; rw [if_neg c_1, bnd_n z]))) hP hD hK hS hA hC hZ hnt hlocks L_546 L_548 L_549 L_547 L_86 L_550 rfl k_Cu_accept ⟨Nat.le_of_ble_eq_true rfl, Nat.le_of_ble_eq_true rfl⟩ rfl rfl hl.1 (Nat.le_of_ble_eq_true rfl) d_Cu_semicolon_18 rfl (fun q z => by unfold f_Cu_semicolon; rw [if_neg c_1, bnd_l z]) hcl hsl (fun r_2 ad_2 st_2 H locs w_2 ok_2 e1_2 e2_2 hP hD hS => ?_)
    have hcl := cl_next hcl e1_2
    have hsl := cl_next hsl e2_2
    refine lv_pop hx hb d_Cu_semicolon_21 rfl ?_
    exact mx_vret (stF := st_2) hx hb hr hlocks hK hP hD hS hcl hsl (by unfold f_Cu_semicolon; rw [if_neg c_1, bnd_r w_2]) ok_2 d_Cu_semicolon_22
  · refine lv_aload_n hx hb d_Cu_semicolon_7 rfl (lv_at hl 0 rfl) ?_
    refine lv_aload_n hx hb d_Cu_semicolon_8 rfl (lv_at hl 0 rfl) ?_
    refine va_get (D := (dC, dI)) (ci := 2) (v := .int (sAt st)) (C := R_Pa) (T := T_Pa) (N := 7) hx hb hts u_Pa hown hK hP 0 rfl rfl 4 (by decide) (hts _ L_214) (fun _ h9 => h9) rfl d_Cu_semicolon_9 ?_
    refine mx_Uv (xm := y_Cu_refuse) (owner := R_Cu) (As := [.int (sAt st)]) (rest := []) ⟨hx, hb, hml, hown, hts0⟩ (m_Cu_refuse l hlt dC dI cI cZ sa rk hp hc h a1 a2 a3 a4 ht hq n1 n2 ad st hst _ (sAt st) (fun z => hg (by unfold f_Cu_semicolon; rw [if_pos c_1, bnd_n z]))) hP hD hK hS hA hC hZ hnt hlocks L_459 L_461 L_462 L_460 L_86 L_463 rfl k_Cu_refuse ⟨Nat.le_of_ble_eq_true rfl, Nat.le_of_ble_eq_true rfl⟩ rfl rfl hl.1 (Nat.le_of_ble_eq_true rfl) d_Cu_semicolon_12 rfl (fun q z => by unfold f_Cu_semicolon; rw [if_pos c_1, bnd_l z]) hcl hsl (fun ad_3 st_3 H locs w_3 ok_3 e1_3 e2_3 hP hD hS => ?_)
    have hcl := cl_next hcl e1_3
    have hsl := cl_next hsl e2_3
    refine lv_aload_n hx hb d_Cu_semicolon_15 rfl (lv_at hl 0 rfl) ?_
    refine lv_bipush (v := 67) hx hb d_Cu_semicolon_16 (by decide) ?_
    refine mx_Ui (xm := y_Cu_accept) (owner := R_Cu) (As := [.int 67]) (rest := []) ⟨hx, hb, hml, hown, hts0⟩ (m_Cu_accept l hlt dC dI cI cZ sa rk hp hc h a1 a2 a3 a4 ht hq n1 n2 ad_3 st_3 ok_3 _ 67 (fun z => hg (by unfold f_Cu_semicolon; rw [if_pos c_1, bnd_r w_3, bnd_n z]))) hP hD hK hS hA hC hZ hnt hlocks L_546 L_548 L_549 L_547 L_86 L_550 rfl k_Cu_accept ⟨Nat.le_of_ble_eq_true rfl, Nat.le_of_ble_eq_true rfl⟩ rfl rfl hl.1 (Nat.le_of_ble_eq_true rfl) d_Cu_semicolon_18 rfl (fun q z => by unfold f_Cu_semicolon; rw [if_pos c_1, bnd_r w_3, bnd_l z]) hcl hsl (fun r_4 ad_4 st_4 H locs w_4 ok_4 e1_4 e2_4 hP hD hS => ?_)
    have hcl := cl_next hcl e1_4
    have hsl := cl_next hsl e2_4
    refine lv_pop hx hb d_Cu_semicolon_21 rfl ?_
    exact mx_vret (stF := st_4) hx hb hr hlocks hK hP hD hS hcl hsl (by unfold f_Cu_semicolon; rw [if_pos c_1, bnd_r w_3, bnd_r w_4]) ok_4 d_Cu_semicolon_22
def f_Cu_nextArgument (st : ST) (taken : Int32) : Rz := (if taken = 0 then (bnd (f_Cu_accept st 61) (fun r_5 st_5 => (if r_5 = 0 then (some (.inr (1, st_5))) else (some (.inr (0, st_5)))))) else (bnd (f_Cu_accept st 68) (fun r_2 st_2 => (if r_2 = 0 then (bnd (f_Cu_expect st_2 61) (fun _ st_4 => (some (.inr (0, st_4))))) else (some (.inr (1, st_2)))))))
set_option maxRecDepth 100000 in
set_option maxHeartbeats 4000000 in
theorem m_Cu_nextArgument (l : Launch) (hlt : l.stackTraces = false) (dC : Nat → ClassId) (dI : Nat → Nat → Nat) (cI cZ : ClassId) (sa rk hp hc h a1 a2 a3 a4 ht hq n1 n2 : Nat) (ad : AD) (st : ST) (hst : okSt st) (sz : Nat) (taken : Int32) (hg : f_Cu_nextArgument st taken ≠ none) : cPi l y_Cu_nextArgument c_Cu_nextArgument 2 .boolean 8 124 (dC, dI) cI cZ sa rk hp hc h a1 a2 a3 a4 ht hq n1 n2 ad st sz [.ref hp, .int taken] (f_Cu_nextArgument st taken) := by
  refine vx_ofW (cc := c_Cu_nextArgument) (maxL := 2) (ret := (some .boolean)) (by decide) rfl ?_
  intro p e s m args below meth c s₁ B hml hnt hv
  obtain ⟨rfl, hsz, hP, hK, hD0, hC, hZ⟩ := hv
  have hx := B.exec
  have hb := B.bytes
  have hr := B.returns
  have hts0 := atoms_spec (ws := wy y_Cu_nextArgument c_Cu_nextArgument 2 (some .boolean)) B.pre
  have hts := htsL hts0
  have hown : s.vm.findClass R_Cu = some m.cls := findClass_of_methodNamed B.named
  have hlocks := B.notSynchronized
  subst hsz
  have hD := hD0.self (sz := s.heap.size)
  generalize hAe : va_A (wQ cI cZ hp hc h a1 a2 a3 a4 ht hq n1 n2 (ad, st)) s.heap.size = A at hD hZ ⊢
  have hA : ∀ q : Nat, s.heap.size ≤ q → A q := fun q h => by rw [← hAe]; exact Or.inr h
  have hS : va_S A s.heap s.heap [] := va_S.rf
  have hcl : 0 + bC st ≤ bC st := Nat.le_of_eq (Nat.zero_add _)
  have hsl : 0 + bS st ≤ bS st := Nat.le_of_eq (Nat.zero_add _)
  have hl := lv_entry ([.ref hp, .int taken]) (n := 2) (Nat.le_of_ble_eq_true rfl)
  rw [lg_entry_eq]
  generalize (lg_sl ([.ref hp, .int taken]) ++ List.replicate (2 - (lg_sl ([.ref hp, .int taken])).length) Slot.unset).toArray = ls at hl ⊢
  have hl : lv_has ls 2 [(0, .ref hp), (1, .int taken)] := hl
  refine lv_iload_n hx hb d_Cu_nextArgument_0 rfl (lv_at hl 1 rfl) ?_
  refine lv_if_ne (tgt := 19) hx hb d_Cu_nextArgument_1 (by decide) (fun c_1 => ?_) (fun c_1 => ?_)
  · refine lv_aload_n hx hb d_Cu_nextArgument_19 rfl (lv_at hl 0 rfl) ?_
    refine lv_bipush (v := 68) hx hb d_Cu_nextArgument_20 (by decide) ?_
    refine mx_Ui (xm := y_Cu_accept) (owner := R_Cu) (As := [.int 68]) (rest := []) ⟨hx, hb, hml, hown, hts0⟩ (m_Cu_accept l hlt dC dI cI cZ sa rk hp hc h a1 a2 a3 a4 ht hq n1 n2 ad st hst _ 68 (fun z => hg (by unfold f_Cu_nextArgument; rw [if_neg c_1, bnd_n z]))) hP hD hK hS hA hC hZ hnt hlocks L_546 L_548 L_549 L_547 L_86 L_550 rfl k_Cu_accept ⟨Nat.le_of_ble_eq_true rfl, Nat.le_of_ble_eq_true rfl⟩ rfl rfl hl.1 (Nat.le_of_ble_eq_true rfl) d_Cu_nextArgument_22 rfl (fun q z => by unfold f_Cu_nextArgument; rw [if_neg c_1, bnd_l z]) hcl hsl (fun r_2 ad_2 st_2 H locs w_2 ok_2 e1_2 e2_2 hP hD hS => ?_)
    have hcl := cl_next hcl e1_2
    have hsl := cl_next hsl e2_2
    refine lv_if_eq (tgt := 30) hx hb d_Cu_nextArgument_25 (by decide) (fun c_3 => ?_) (fun c_3 => ?_)
    · refine lv_aload_n hx hb d_Cu_nextArgument_30 rfl (lv_at hl 0 rfl) ?_
      refine lv_bipush (v := 61) hx hb d_Cu_nextArgument_31 (by decide) ?_
      refine mx_Uv (xm := y_Cu_expect) (owner := R_Cu) (As := [.int 61]) (rest := []) ⟨hx, hb, hml, hown, hts0⟩ (m_Cu_expect l hlt dC dI cI cZ sa rk hp hc h a1 a2 a3 a4 ht hq n1 n2 ad_2 st_2 ok_2 _ 61 (fun z => hg (by unfold f_Cu_nextArgument; rw [if_neg c_1, bnd_r w_2, if_pos c_3, bnd_n z]))) hP hD hK hS hA hC hZ hnt hlocks L_551 L_1283 L_1284 L_514 L_86 L_515 rfl k_Cu_expect ⟨Nat.le_of_ble_eq_true rfl, Nat.le_of_ble_eq_true rfl⟩ rfl rfl hl.1 (Nat.le_of_ble_eq_true rfl) d_Cu_nextArgument_33 rfl (fun q z => by unfold f_Cu_nextArgument; rw [if_neg c_1, bnd_r w_2, if_pos c_3, bnd_l z]) hcl hsl (fun ad_4 st_4 H locs w_4 ok_4 e1_4 e2_4 hP hD hS => ?_)
      have hcl := cl_next hcl e1_4
      have hsl := cl_next hsl e2_4
      refine lv_iconst (v := 0) hx hb d_Cu_nextArgument_36 (by decide) ?_
      exact mx_zret (v := 0) (stF := st_4) hx hb hr rfl hlocks hK hP hD hS hcl hsl (by unfold f_Cu_nextArgument; rw [if_neg c_1, bnd_r w_2, if_pos c_3, bnd_r w_4]) ok_4 d_Cu_nextArgument_37
    · refine lv_iconst (v := 1) hx hb d_Cu_nextArgument_28 (by decide) ?_
      exact mx_zret (v := 1) (stF := st_2) hx hb hr rfl hlocks hK hP hD hS hcl hsl (by unfold f_Cu_nextArgument; rw [if_neg c_1, bnd_r w_2, if_neg c_3]) ok_2 d_Cu_nextArgument_29
  · refine lv_aload_n hx hb d_Cu_nextArgument_4 rfl (lv_at hl 0 rfl) ?_
    refine lv_bipush (v := 61) hx hb d_Cu_nextArgument_5 (by decide) ?_
    refine mx_Ui (xm := y_Cu_accept) (owner := R_Cu) (As := [.int 61]) (rest := []) ⟨hx, hb, hml, hown, hts0⟩ (m_Cu_accept l hlt dC dI cI cZ sa rk hp hc h a1 a2 a3 a4 ht hq n1 n2 ad st hst _ 61 (fun z => hg (by unfold f_Cu_nextArgument; rw [if_pos c_1, bnd_n z]))) hP hD hK hS hA hC hZ hnt hlocks L_546 L_548 L_549 L_547 L_86 L_550 rfl k_Cu_accept ⟨Nat.le_of_ble_eq_true rfl, Nat.le_of_ble_eq_true rfl⟩ rfl rfl hl.1 (Nat.le_of_ble_eq_true rfl) d_Cu_nextArgument_7 rfl (fun q z => by unfold f_Cu_nextArgument; rw [if_pos c_1, bnd_l z]) hcl hsl (fun r_5 ad_5 st_5 H locs w_5 ok_5 e1_5 e2_5 hP hD hS => ?_)
    have hcl := cl_next hcl e1_5
    have hsl := cl_next hsl e2_5
    refine lv_if_ne (tgt := 17) hx hb d_Cu_nextArgument_10 (by decide) (fun c_6 => ?_) (fun c_6 => ?_)
    · refine lv_iconst (v := 0) hx hb d_Cu_nextArgument_17 (by decide) ?_
      exact mx_zret (v := 0) (stF := st_5) hx hb hr rfl hlocks hK hP hD hS hcl hsl (by unfold f_Cu_nextArgument; rw [if_pos c_1, bnd_r w_5, if_neg c_6]) ok_5 d_Cu_nextArgument_18
    · refine lv_iconst (v := 1) hx hb d_Cu_nextArgument_13 (by decide) ?_
      refine lv_goto (tgt := 18) hx hb d_Cu_nextArgument_14 (by decide) ?_
      exact mx_zret (v := 1) (stF := st_5) hx hb hr rfl hlocks hK hP hD hS hcl hsl (by unfold f_Cu_nextArgument; rw [if_pos c_1, bnd_r w_5, if_pos c_6]) ok_5 d_Cu_nextArgument_18
def f_Cu_nextProperty (st : ST) (taken : Int32) : Rz := (bnd (f_Cu_accept st 65) (fun r_1 st_1 => (if r_1 = 0 then (if taken ≤ 0 then (bnd (f_Cu_accept st_1 65) (fun r_4 st_4 => (if r_4 = 0 then (some (.inr (1, st_4))) else (some (.inr (0, st_4)))))) else (bnd (f_Cu_expect st_1 68) (fun _ st_6 => (bnd (f_Cu_accept st_6 65) (fun r_7 st_7 => (if r_7 = 0 then (some (.inr (1, st_7))) else (some (.inr (0, st_7))))))))) else (some (.inr (0, st_1))))))
set_option maxRecDepth 100000 in
set_option maxHeartbeats 4000000 in
theorem m_Cu_nextProperty (l : Launch) (hlt : l.stackTraces = false) (dC : Nat → ClassId) (dI : Nat → Nat → Nat) (cI cZ : ClassId) (sa rk hp hc h a1 a2 a3 a4 ht hq n1 n2 : Nat) (ad : AD) (st : ST) (hst : okSt st) (sz : Nat) (taken : Int32) (hg : f_Cu_nextProperty st taken ≠ none) : cPi l y_Cu_nextProperty c_Cu_nextProperty 2 .boolean 8 124 (dC, dI) cI cZ sa rk hp hc h a1 a2 a3 a4 ht hq n1 n2 ad st sz [.ref hp, .int taken] (f_Cu_nextProperty st taken) := by
  refine vx_ofW (cc := c_Cu_nextProperty) (maxL := 2) (ret := (some .boolean)) (by decide) rfl ?_
  intro p e s m args below meth c s₁ B hml hnt hv
  obtain ⟨rfl, hsz, hP, hK, hD0, hC, hZ⟩ := hv
  have hx := B.exec
  have hb := B.bytes
  have hr := B.returns
  have hts0 := atoms_spec (ws := wy y_Cu_nextProperty c_Cu_nextProperty 2 (some .boolean)) B.pre
  have hts := htsL hts0
  have hown : s.vm.findClass R_Cu = some m.cls := findClass_of_methodNamed B.named
  have hlocks := B.notSynchronized
  subst hsz
  have hD := hD0.self (sz := s.heap.size)
  generalize hAe : va_A (wQ cI cZ hp hc h a1 a2 a3 a4 ht hq n1 n2 (ad, st)) s.heap.size = A at hD hZ ⊢
  have hA : ∀ q : Nat, s.heap.size ≤ q → A q := fun q h => by rw [← hAe]; exact Or.inr h
  have hS : va_S A s.heap s.heap [] := va_S.rf
  have hcl : 0 + bC st ≤ bC st := Nat.le_of_eq (Nat.zero_add _)
  have hsl : 0 + bS st ≤ bS st := Nat.le_of_eq (Nat.zero_add _)
  have hl := lv_entry ([.ref hp, .int taken]) (n := 2) (Nat.le_of_ble_eq_true rfl)
  rw [lg_entry_eq]
  generalize (lg_sl ([.ref hp, .int taken]) ++ List.replicate (2 - (lg_sl ([.ref hp, .int taken])).length) Slot.unset).toArray = ls at hl ⊢
  have hl : lv_has ls 2 [(0, .ref hp), (1, .int taken)] := hl
  refine lv_aload_n hx hb d_Cu_nextProperty_0 rfl (lv_at hl 0 rfl) ?_
  refine lv_bipush (v := 65) hx hb d_Cu_nextProperty_1 (by decide) ?_
  refine mx_Ui (xm := y_Cu_accept) (owner := R_Cu) (As := [.int 65]) (rest := []) ⟨hx, hb, hml, hown, hts0⟩ (m_Cu_accept l hlt dC dI cI cZ sa rk hp hc h a1 a2 a3 a4 ht hq n1 n2 ad st hst _ 65 (fun z => hg (by unfold f_Cu_nextProperty; rw [bnd_n z]))) hP hD hK hS hA hC hZ hnt hlocks L_546 L_548 L_549 L_547 L_86 L_550 rfl k_Cu_accept ⟨Nat.le_of_ble_eq_true rfl, Nat.le_of_ble_eq_true rfl⟩ rfl rfl hl.1 (Nat.le_of_ble_eq_true rfl) d_Cu_nextProperty_3 rfl (fun q z => by unfold f_Cu_nextProperty; rw [bnd_l z]) hcl hsl (fun r_1 ad_1 st_1 H locs w_1 ok_1 e1_1 e2_1 hP hD hS => ?_)
  have hcl := cl_next hcl e1_1
  have hsl := cl_next hsl e2_1
  refine lv_if_eq (tgt := 11) hx hb d_Cu_nextProperty_6 (by decide) (fun c_2 => ?_) (fun c_2 => ?_)
  · refine lv_iload_n hx hb d_Cu_nextProperty_11 rfl (lv_at hl 1 rfl) ?_
    refine lv_if_le (tgt := 21) hx hb d_Cu_nextProperty_12 (by decide) (fun c_3 => ?_) (fun c_3 => ?_)
    · refine lv_aload_n hx hb d_Cu_nextProperty_21 rfl (lv_at hl 0 rfl) ?_
      refine lv_bipush (v := 65) hx hb d_Cu_nextProperty_22 (by decide) ?_
      refine mx_Ui (xm := y_Cu_accept) (owner := R_Cu) (As := [.int 65]) (rest := []) ⟨hx, hb, hml, hown, hts0⟩ (m_Cu_accept l hlt dC dI cI cZ sa rk hp hc h a1 a2 a3 a4 ht hq n1 n2 ad_1 st_1 ok_1 _ 65 (fun z => hg (by unfold f_Cu_nextProperty; rw [bnd_r w_1, if_pos c_2, if_pos c_3, bnd_n z]))) hP hD hK hS hA hC hZ hnt hlocks L_546 L_548 L_549 L_547 L_86 L_550 rfl k_Cu_accept ⟨Nat.le_of_ble_eq_true rfl, Nat.le_of_ble_eq_true rfl⟩ rfl rfl hl.1 (Nat.le_of_ble_eq_true rfl) d_Cu_nextProperty_24 rfl (fun q z => by unfold f_Cu_nextProperty; rw [bnd_r w_1, if_pos c_2, if_pos c_3, bnd_l z]) hcl hsl (fun r_4 ad_4 st_4 H locs w_4 ok_4 e1_4 e2_4 hP hD hS => ?_)
      have hcl := cl_next hcl e1_4
      have hsl := cl_next hsl e2_4
      refine lv_if_ne (tgt := 34) hx hb d_Cu_nextProperty_27 (by decide) (fun c_5 => ?_) (fun c_5 => ?_)
      · refine lv_iconst (v := 0) hx hb d_Cu_nextProperty_34 (by decide) ?_
        exact mx_zret (v := 0) (stF := st_4) hx hb hr rfl hlocks hK hP hD hS hcl hsl (by unfold f_Cu_nextProperty; rw [bnd_r w_1, if_pos c_2, if_pos c_3, bnd_r w_4, if_neg c_5]) ok_4 d_Cu_nextProperty_35
      · refine lv_iconst (v := 1) hx hb d_Cu_nextProperty_30 (by decide) ?_
        refine lv_goto (tgt := 35) hx hb d_Cu_nextProperty_31 (by decide) ?_
        exact mx_zret (v := 1) (stF := st_4) hx hb hr rfl hlocks hK hP hD hS hcl hsl (by unfold f_Cu_nextProperty; rw [bnd_r w_1, if_pos c_2, if_pos c_3, bnd_r w_4, if_pos c_5]) ok_4 d_Cu_nextProperty_35
    · refine lv_aload_n hx hb d_Cu_nextProperty_15 rfl (lv_at hl 0 rfl) ?_
      refine lv_bipush (v := 68) hx hb d_Cu_nextProperty_16 (by decide) ?_
      refine mx_Uv (xm := y_Cu_expect) (owner := R_Cu) (As := [.int 68]) (rest := []) ⟨hx, hb, hml, hown, hts0⟩ (m_Cu_expect l hlt dC dI cI cZ sa rk hp hc h a1 a2 a3 a4 ht hq n1 n2 ad_1 st_1 ok_1 _ 68 (fun z => hg (by unfold f_Cu_nextProperty; rw [bnd_r w_1, if_pos c_2, if_neg c_3, bnd_n z]))) hP hD hK hS hA hC hZ hnt hlocks L_551 L_1283 L_1284 L_514 L_86 L_515 rfl k_Cu_expect ⟨Nat.le_of_ble_eq_true rfl, Nat.le_of_ble_eq_true rfl⟩ rfl rfl hl.1 (Nat.le_of_ble_eq_true rfl) d_Cu_nextProperty_18 rfl (fun q z => by unfold f_Cu_nextProperty; rw [bnd_r w_1, if_pos c_2, if_neg c_3, bnd_l z]) hcl hsl (fun ad_6 st_6 H locs w_6 ok_6 e1_6 e2_6 hP hD hS => ?_)
      have hcl := cl_next hcl e1_6
      have hsl := cl_next hsl e2_6
      refine lv_aload_n hx hb d_Cu_nextProperty_21 rfl (lv_at hl 0 rfl) ?_
      refine lv_bipush (v := 65) hx hb d_Cu_nextProperty_22 (by decide) ?_
      refine mx_Ui (xm := y_Cu_accept) (owner := R_Cu) (As := [.int 65]) (rest := []) ⟨hx, hb, hml, hown, hts0⟩ (m_Cu_accept l hlt dC dI cI cZ sa rk hp hc h a1 a2 a3 a4 ht hq n1 n2 ad_6 st_6 ok_6 _ 65 (fun z => hg (by unfold f_Cu_nextProperty; rw [bnd_r w_1, if_pos c_2, if_neg c_3, bnd_r w_6, bnd_n z]))) hP hD hK hS hA hC hZ hnt hlocks L_546 L_548 L_549 L_547 L_86 L_550 rfl k_Cu_accept ⟨Nat.le_of_ble_eq_true rfl, Nat.le_of_ble_eq_true rfl⟩ rfl rfl hl.1 (Nat.le_of_ble_eq_true rfl) d_Cu_nextProperty_24 rfl (fun q z => by unfold f_Cu_nextProperty; rw [bnd_r w_1, if_pos c_2, if_neg c_3, bnd_r w_6, bnd_l z]) hcl hsl (fun r_7 ad_7 st_7 H locs w_7 ok_7 e1_7 e2_7 hP hD hS => ?_)
      have hcl := cl_next hcl e1_7
      have hsl := cl_next hsl e2_7
      refine lv_if_ne (tgt := 34) hx hb d_Cu_nextProperty_27 (by decide) (fun c_8 => ?_) (fun c_8 => ?_)
      · refine lv_iconst (v := 0) hx hb d_Cu_nextProperty_34 (by decide) ?_
        exact mx_zret (v := 0) (stF := st_7) hx hb hr rfl hlocks hK hP hD hS hcl hsl (by unfold f_Cu_nextProperty; rw [bnd_r w_1, if_pos c_2, if_neg c_3, bnd_r w_6, bnd_r w_7, if_neg c_8]) ok_7 d_Cu_nextProperty_35
      · refine lv_iconst (v := 1) hx hb d_Cu_nextProperty_30 (by decide) ?_
        refine lv_goto (tgt := 35) hx hb d_Cu_nextProperty_31 (by decide) ?_
        exact mx_zret (v := 1) (stF := st_7) hx hb hr rfl hlocks hK hP hD hS hcl hsl (by unfold f_Cu_nextProperty; rw [bnd_r w_1, if_pos c_2, if_neg c_3, bnd_r w_6, bnd_r w_7, if_pos c_8]) ok_7 d_Cu_nextProperty_35
  · refine lv_iconst (v := 0) hx hb d_Cu_nextProperty_9 (by decide) ?_
    exact mx_zret (v := 0) (stF := st_1) hx hb hr rfl hlocks hK hP hD hS hcl hsl (by unfold f_Cu_nextProperty; rw [bnd_r w_1, if_neg c_2]) ok_1 d_Cu_nextProperty_10
