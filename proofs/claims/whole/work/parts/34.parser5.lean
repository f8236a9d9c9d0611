def f_Pa_commas_L9 (E : Int32 → Int32 → Int32 → ST → Rz) (S : Int32 → Int32 → ST → Rz) (F : Int32 → Int32 → ST → Rz) (start : Int32) (depth : Int32) (inn : Int32) : Nat → Int32 → Int32 → ST → Rz
  | 0, _, _, _ => none
  | fu_1 + 1, x4, x5, sx_1 => (if 1000 < x5 then (some (.inr (0, sx_1))) else (bnd (f_Cu_accept sx_1 68) (fun r_3 st_3 => (if r_3 = 0 then (some (.inr (0, st_3))) else (bnd (E 0 (depth + 1) inn st_3) (fun _ st_5 => (bnd (p_wrap st_5 start 45 0 x4) (fun _ st_6 => (f_Pa_commas_L9 E S F start depth inn fu_1 (sAt st_6) (x5 + 1) st_6)))))))))
def f_Pa_commas (E : Int32 → Int32 → Int32 → ST → Rz) (S : Int32 → Int32 → ST → Rz) (F : Int32 → Int32 → ST → Rz) (st : ST) (start : Int32) (depth : Int32) (inn : Int32) : Rz := (bnd (f_Pa_commas_L9 E S F start depth inn 5000 (sAt st) 0 st) (fun _ sx_1 => (some (.inr (0, sx_1)))))
set_option maxRecDepth 100000 in
set_option maxHeartbeats 4000000 in
theorem m_Pa_commas (l : Launch) (hlt : l.stackTraces = false) (dC : Nat → ClassId) (dI : Nat → Nat → Nat) (cI cZ : ClassId) (sa rk hp h a1 a2 a3 a4 ht hq n1 n2 : Nat) (fr0 lo0 : Nat) (E : Int32 → Int32 → Int32 → ST → Rz) (S : Int32 → Int32 → ST → Rz) (F : Int32 → Int32 → ST → Rz) (hRE : ∀ (hc : Nat) (ad : AD) (st : ST), okSt st → ∀ (sz : Nat) (level depth inn : Int32), E level depth inn st ≠ none → cPv l y_Pa_expression c_Pa_expression 6 fr0 lo0 (dC, dI) cI cZ sa rk hp hc h a1 a2 a3 a4 ht hq n1 n2 ad st sz [.ref hp, .int level, .int depth, .int inn] (E level depth inn st)) (hRS : ∀ (hc : Nat) (ad : AD) (st : ST), okSt st → ∀ (sz : Nat) (depth first : Int32), S depth first st ≠ none → cPv l y_Pa_statement c_Pa_statement 4 fr0 lo0 (dC, dI) cI cZ sa rk hp hc h a1 a2 a3 a4 ht hq n1 n2 ad st sz [.ref hp, .int depth, .int first] (S depth first st)) (hRF : ∀ (hc : Nat) (ad : AD) (st : ST), okSt st → ∀ (sz : Nat) (form depth : Int32), F form depth st ≠ none → cPv l y_Pa_function c_Pa_function 10 fr0 lo0 (dC, dI) cI cZ sa rk hp hc h a1 a2 a3 a4 ht hq n1 n2 ad st sz [.ref hp, .int form, .int depth] (F form depth st)) (hc : Nat) (ad : AD) (st : ST) (hst : okSt st) (sz : Nat) (start : Int32) (depth : Int32) (inn : Int32) (hg : f_Pa_commas E S F st start depth inn ≠ none) : cPv l y_Pa_commas c_Pa_commas 6 (fr0 + 4) (lo0 + 325) (dC, dI) cI cZ sa rk hp hc h a1 a2 a3 a4 ht hq n1 n2 ad st sz [.ref hp, .int start, .int depth, .int inn] (f_Pa_commas E S F st start depth inn) := by
  refine vx_ofW (cc := c_Pa_commas) (maxL := 6) (ret := none) (by decide) rfl ?_
  intro p e s m args below meth c s₁ B hml hnt hv
  obtain ⟨rfl, hsz, hP, hK, hD0, hC, hZ⟩ := hv
  have hx := B.exec
  have hb := B.bytes
  have hr := B.returns
  have hts0 := atoms_spec (ws := wy y_Pa_commas c_Pa_commas 6 none) B.pre
  have hts := htsL hts0
  have hown : s.vm.findClass R_Pa = some m.cls := findClass_of_methodNamed B.named
  have hlocks := B.notSynchronized
  subst hsz
  have hD := hD0.self (sz := s.heap.size)
  generalize hAe : va_A (wQ cI cZ hp hc h a1 a2 a3 a4 ht hq n1 n2 (ad, st)) s.heap.size = A at hD hZ ⊢
  have hA : ∀ q : Nat, s.heap.size ≤ q → A q := fun q h => by rw [← hAe]; exact Or.inr h
  have hS : va_S A s.heap s.heap [] := va_S.rf
  have hcl : 0 + bC st ≤ bC st := Nat.le_of_eq (Nat.zero_add _)
  have hsl : 0 + bS st ≤ bS st := Nat.le_of_eq (Nat.zero_add _)
  have hl := lv_entry ([.ref hp, .int start, .int depth, .int inn]) (n := 6) (Nat.le_of_ble_eq_true rfl)
  rw [lg_entry_eq]
  generalize (lg_sl ([.ref hp, .int start, .int depth, .int inn]) ++ List.replicate (6 - (lg_sl ([.ref hp, .int start, .int depth, .int inn])).length) Slot.unset).toArray = ls at hl ⊢
  have hl : lv_has ls 6 [(0, .ref hp), (1, .int start), (2, .int depth), (3, .int inn)] := hl
  refine lv_aload_n hx hb d_Pa_commas_0 rfl (lv_at hl 0 rfl) ?_
  refine va_get (D := (dC, dI)) (ci := 2) (v := .int (sAt st)) (C := R_Pa) (T := T_Pa) (N := 7) hx hb hts u_Pa hown hK hP 0 rfl rfl 4 (by decide) (hts _ L_215) (fun x9 h9 => u_same (hts _ L_216) x9 h9) rfl d_Pa_commas_1 ?_
  refine lv_istore (lv' := [(4, .int (sAt st)), (0, .ref hp), (1, .int start), (2, .int depth), (3, .int inn)]) hx hb d_Pa_commas_4 hl (by decide) rfl (fun ls hl => ?_)
  refine lv_iconst (v := 0) hx hb d_Pa_commas_6 (by decide) ?_
  refine lv_istore (lv' := [(5, .int 0), (4, .int (sAt st)), (0, .ref hp), (1, .int start), (2, .int depth), (3, .int inn)]) hx hb d_Pa_commas_7 hl (by decide) rfl (fun ls hl => ?_)
  obtain ⟨x_1, hx_1⟩ : ∃ z, f_Pa_commas_L9 E S F start depth inn 5000 (sAt st) 0 st = z := ⟨_, rfl⟩
  have hn_1 : x_1 ≠ none := (fun z => hg (by unfold f_Pa_commas; rw [bnd_n (hx_1.trans z)]))
  have hX_1 : ∀ q, x_1 = some (.inl q) → (f_Pa_commas E S F st start depth inn) = some (.inl q) := (fun q z => by unfold f_Pa_commas; rw [bnd_l (hx_1.trans z)])
  have lp_1 : ∀ (fu : Nat) (x4 x5 : Int32) (ax_1 : AD) (sx_1 : ST) (okx_1 : okSt sx_1) (H : Heap) (locs : List Loc) (ls : Array Slot) (cells slots : Nat), va_P (dC, dI) cls (wQ cI cZ hp hc h a1 a2 a3 a4 ht hq n1 n2 (ax_1, sx_1)) H → va_D A (wQ cI cZ hp hc h a1 a2 a3 a4 ht hq n1 n2 (ax_1, sx_1)) → va_S A s.heap H locs → lv_has ls 6 [(0, .ref hp), (1, .int start), (2, .int depth), (3, .int inn), (4, .int x4), (5, .int x5)] → cells + bC sx_1 ≤ bC st → slots + bS sx_1 ≤ bS st → x_1 = f_Pa_commas_L9 E S F start depth inn fu x4 x5 sx_1 → W p l e (headSpec (wy y_Pa_commas c_Pa_commas 6 none) { frames := (fr0 + 4), cells := bC st, slots := bS st, locals := (lo0 + 325) }).room s m [.ref hp, .int start, .int depth, .int inn].toArray below meth c H locs cells slots (vx_MQ below (va_Qv (poN (f_Pa_commas E S F st start depth inn) st 0) (wB (dC, dI) cI cZ A (wQ cI cZ hp hc h a1 a2 a3 a4 ht hq n1 n2)) A) (xP (dC, dI) cI cZ hp h a1 a2 a3 a4 ht hq n1 n2 (f_Pa_commas E S F st start depth inn) st A) [.ref hp, .int start, .int depth, .int inn].toArray s (mcO st (f_Pa_commas E S F st start depth inn)) (msO st (f_Pa_commas E S F st start depth inn)) A) (F0 m 9 ls []) := by
    intro fu
    induction fu with
    | zero => intro x4 x5 ax_1 sx_1 okx_1 H locs ls cells slots hP hD hS hl hcl hsl hL_1; exact absurd (hL_1.trans rfl) hn_1
    | succ fu_1 ih_1 =>
      intro x4 x5 ax_1 sx_1 okx_1 H locs ls cells slots hP hD hS hl hcl hsl hL_1
      rw [f_Pa_commas_L9] at hL_1
      refine lv_iload hx hb d_Pa_commas_9 (lv_at hl 5 rfl) ?_
      refine lv_sipush (v := 1000) hx hb d_Pa_commas_11 (by decide) ?_
      refine lv_icmp_gt (tgt := 60) hx hb d_Pa_commas_14 (by decide) (fun c_2 => ?_) (fun c_2 => ?_)
      · rw [if_pos c_2] at hL_1
        have we_1 : f_Pa_commas_L9 E S F start depth inn 5000 (sAt st) 0 st = some (.inr (0, sx_1)) := hx_1.trans hL_1
        have hl := lv_sub hl (l' := [(0, .ref hp), (1, .int start), (2, .int depth), (3, .int inn)]) [0, 1, 2, 3] rfl
        exact mx_vret (stF := sx_1) hx hb hr hlocks hK hP hD hS hcl hsl (by unfold f_Pa_commas; rw [bnd_r we_1]) okx_1 d_Pa_commas_60
      · rw [if_neg c_2] at hL_1
        refine lv_aload_n hx hb d_Pa_commas_17 rfl (lv_at hl 0 rfl) ?_
        refine lv_bipush (v := 68) hx hb d_Pa_commas_18 (by decide) ?_
        refine mx_Ui (xm := ⟨"SyntaxTree$Parser", "accept", "(I)Z"⟩) (owner := R_Cu) (As := [.int 68]) (rest := []) ⟨hx, hb, hml, hown, hts0⟩ (m_Cu_accept l hlt dC dI cI cZ sa rk hp hc h a1 a2 a3 a4 ht hq n1 n2 ax_1 sx_1 okx_1 _ 68 (fun z => hn_1 (hL_1.trans (bnd_n z)))) hP hD hK hS hA hC hZ hnt hlocks L_556 L_557 L_559 L_547 L_86 L_550 rfl k_Cu_accept ⟨(by show _ ≤ fr0 + 4; omega), (by show _ ≤ lo0 + 325; omega)⟩ rfl rfl hl.1 (Nat.le_of_ble_eq_true rfl) d_Pa_commas_20 rfl (fun q z => hX_1 q (hL_1.trans (bnd_l z))) hcl hsl (fun r_3 ad_3 st_3 H locs w_3 ok_3 e1_3 e2_3 hP hD hS => ?_)
        have hcl := cl_next hcl e1_3
        have hsl := cl_next hsl e2_3
        rw [bnd_r w_3] at hL_1
        refine lv_if_eq (tgt := 60) hx hb d_Pa_commas_23 (by decide) (fun c_4 => ?_) (fun c_4 => ?_)
        · rw [if_pos c_4] at hL_1
          have we_1 : f_Pa_commas_L9 E S F start depth inn 5000 (sAt st) 0 st = some (.inr (0, st_3)) := hx_1.trans hL_1
          have hl := lv_sub hl (l' := [(0, .ref hp), (1, .int start), (2, .int depth), (3, .int inn)]) [0, 1, 2, 3] rfl
          exact mx_vret (stF := st_3) hx hb hr hlocks hK hP hD hS hcl hsl (by unfold f_Pa_commas; rw [bnd_r we_1]) ok_3 d_Pa_commas_60
        · rw [if_neg c_4] at hL_1
          refine lv_aload_n hx hb d_Pa_commas_26 rfl (lv_at hl 0 rfl) ?_
          refine lv_iconst (v := 0) hx hb d_Pa_commas_27 (by decide) ?_
          refine lv_iload_n hx hb d_Pa_commas_28 rfl (lv_at hl 2 rfl) ?_
          refine lv_iconst (v := 1) hx hb d_Pa_commas_29 (by decide) ?_
          refine lv_iadd hx hb d_Pa_commas_30 ?_
          refine lv_iload_n hx hb d_Pa_commas_31 rfl (lv_at hl 3 rfl) ?_
          refine mx_Vv (As := [.int 0, .int (depth + 1), .int inn]) (rest := []) ⟨hx, hb, hml, hown, hts0⟩ (hRE hc ad_3 st_3 ok_3 _ 0 (depth + 1) inn (fun z => hn_1 (hL_1.trans (bnd_n z)))) hP hD hK hS hA hC hZ hnt hlocks L_569 L_571 L_12 L_87 L_572 k_Pa_expression ⟨(by show _ ≤ fr0 + 4; omega), (by show _ ≤ lo0 + 325; omega)⟩ rfl rfl hl.1 (Nat.le_of_ble_eq_true rfl) d_Pa_commas_32 rfl (fun q z => hX_1 q (hL_1.trans (bnd_l z))) hcl hsl (fun ad_5 st_5 H locs w_5 ok_5 e1_5 e2_5 hP hD hS => ?_)
          have hcl := cl_next hcl e1_5
          have hsl := cl_next hsl e2_5
          rw [bnd_r w_5] at hL_1
          refine lv_aload_n hx hb d_Pa_commas_35 rfl (lv_at hl 0 rfl) ?_
          refine va_get (D := (dC, dI)) (ci := 2) (v := .ref ht) (C := R_Pa) (T := T_Pa) (N := 7) hx hb hts u_Pa hown hK hP 0 rfl rfl 0 (by decide) (hts _ L_208) (fun _ h9 => h9) rfl d_Pa_commas_36 ?_
          refine lv_iload_n hx hb d_Pa_commas_39 rfl (lv_at hl 1 rfl) ?_
          refine lv_bipush (v := 45) hx hb d_Pa_commas_40 (by decide) ?_
          refine lv_iconst (v := 0) hx hb d_Pa_commas_42 (by decide) ?_
          refine lv_iload hx hb d_Pa_commas_43 (lv_at hl 4 rfl) ?_
          have hn_6 : (p_wrap st_5 start 45 0 x4) ≠ none := (fun z => hn_1 (hL_1.trans (bnd_n z)))
          refine pT_v (g := (p_wrap st_5 start 45 0 x4)) (st := st_5) (As := [.int start, .int 45, .int 0, .int x4]) (rest := []) ⟨hx, hb, hml, hown, hts0⟩ (m_Tr_wrap l dC dI cI cZ sa rk ht ad_5 (sTr st_5) ok_5.2.1 _ start 45 0 x4 (p_wrap_c hn_6).1 (p_wrap_c hn_6).2.1) hP hD hK hS hA hC hZ L_669 L_670 L_671 L_85 L_672 ⟨rfl, k_Tr_wrap⟩ ⟨(by show _ ≤ fr0 + 4; omega), (by show _ ≤ lo0 + 325; omega)⟩ rfl rfl hl.1 (Nat.le_of_ble_eq_true rfl) d_Pa_commas_45 rfl hcl hsl (p_wrap_c hn_6).2.2.1 (p_wrap_c hn_6).2.2.2 ok_5 (t_wrap_ok start 45 0 x4 ok_5.2.1 (p_wrap_c hn_6).1 (p_wrap_c hn_6).2.1) (p_wrap_e hn_6) (fun ad_6 st_6 H locs w_6 ok_6 e1_6 e2_6 hP hD hS => ?_)
          have hcl := cl_next hcl e1_6
          have hsl := cl_next hsl e2_6
          rw [bnd_r w_6] at hL_1
          refine lv_aload_n hx hb d_Pa_commas_48 rfl (lv_at hl 0 rfl) ?_
          refine va_get (D := (dC, dI)) (ci := 2) (v := .int (sAt st_6)) (C := R_Pa) (T := T_Pa) (N := 7) hx hb hts u_Pa hown hK hP 0 rfl rfl 4 (by decide) (hts _ L_215) (fun x9 h9 => u_same (hts _ L_216) x9 h9) rfl d_Pa_commas_49 ?_
          refine lv_istore (lv' := [(4, .int (sAt st_6)), (0, .ref hp), (1, .int start), (2, .int depth), (3, .int inn), (5, .int x5)]) hx hb d_Pa_commas_52 hl (by decide) rfl (fun ls hl => ?_)
          refine lv_iinc (v := (x5 + 1)) (lv' := [(5, .int (x5 + 1)), (4, .int (sAt st_6)), (0, .ref hp), (1, .int start), (2, .int depth), (3, .int inn)]) hx hb d_Pa_commas_54 hl (k := 5) rfl rfl (by decide) rfl (fun ls hl => ?_)
          refine lv_goto (tgt := 9) hx hb d_Pa_commas_57 (by decide) ?_
          exact ih_1 (sAt st_6) (x5 + 1) ad_6 st_6 ok_6 _ _ ls _ _ hP hD hS (lv_sub hl [2, 3, 4, 5, 1, 0] rfl) hcl hsl hL_1
  exact lp_1 5000 (sAt st) 0 ad st hst _ _ ls _ _ hP hD hS (lv_sub hl [2, 3, 4, 5, 1, 0] rfl) hcl hsl hx_1.symm
def f_Pa_block_L27 (E : Int32 → Int32 → Int32 → ST → Rz) (S : Int32 → Int32 → ST → Rz) (F : Int32 → Int32 → ST → Rz) (depth : Int32) : Nat → Int32 → ST → Rz
  | 0, _, _ => none
  | fu_4 + 1, x3, sx_4 => (if 1000 < x3 then (some (.inr (0, sx_4))) else (bnd (f_Cu_accept sx_4 65) (fun r_7 st_7 => (if r_7 = 0 then (bnd (S (depth + 1) (f_La_count (sLb st_7)) st_7) (fun _ st_10 => (f_Pa_block_L27 E S F depth fu_4 (x3 + 1) st_10))) else (some (.inr (0, st_7)))))))
def f_Pa_block (E : Int32 → Int32 → Int32 → ST → Rz) (S : Int32 → Int32 → ST → Rz) (F : Int32 → Int32 → ST → Rz) (st : ST) (depth : Int32) : Rz := (bnd (f_Cu_guard st depth) (fun _ st_1 => (bnd (p_open st_1 1 0 (sAt st_1)) (fun r_2 st_2 => (bnd (f_Cu_expect st_2 64) (fun _ st_3 => (bnd (f_Pa_block_L27 E S F depth 5000 0 st_3) (fun _ sx_4 => (bnd (p_close sx_4 r_2) (fun _ st_6 => (some (.inr (0, st_6)))))))))))))
set_option maxRecDepth 100000 in
set_option maxHeartbeats 4000000 in
theorem m_Pa_block (l : Launch) (hlt : l.stackTraces = false) (dC : Nat → ClassId) (dI : Nat → Nat → Nat) (cI cZ : ClassId) (sa rk hp h a1 a2 a3 a4 ht hq n1 n2 : Nat) (fr0 lo0 : Nat) (E : Int32 → Int32 → Int32 → ST → Rz) (S : Int32 → Int32 → ST → Rz) (F : Int32 → Int32 → ST → Rz) (hRE : ∀ (hc : Nat) (ad : AD) (st : ST), okSt st → ∀ (sz : Nat) (level depth inn : Int32), E level depth inn st ≠ none → cPv l y_Pa_expression c_Pa_expression 6 fr0 lo0 (dC, dI) cI cZ sa rk hp hc h a1 a2 a3 a4 ht hq n1 n2 ad st sz [.ref hp, .int level, .int depth, .int inn] (E level depth inn st)) (hRS : ∀ (hc : Nat) (ad : AD) (st : ST), okSt st → ∀ (sz : Nat) (depth first : Int32), S depth first st ≠ none → cPv l y_Pa_statement c_Pa_statement 4 fr0 lo0 (dC, dI) cI cZ sa rk hp hc h a1 a2 a3 a4 ht hq n1 n2 ad st sz [.ref hp, .int depth, .int first] (S depth first st)) (hRF : ∀ (hc : Nat) (ad : AD) (st : ST), okSt st → ∀ (sz : Nat) (form depth : Int32), F form depth st ≠ none → cPv l y_Pa_function c_Pa_function 10 fr0 lo0 (dC, dI) cI cZ sa rk hp hc h a1 a2 a3 a4 ht hq n1 n2 ad st sz [.ref hp, .int form, .int depth] (F form depth st)) (hc : Nat) (ad : AD) (st : ST) (hst : okSt st) (sz : Nat) (depth : Int32) (hg : f_Pa_block E S F st depth ≠ none) : cPv l y_Pa_block c_Pa_block 4 (fr0 + 8) (lo0 + 323) (dC, dI) cI cZ sa rk hp hc h a1 a2 a3 a4 ht hq n1 n2 ad st sz [.ref hp, .int depth] (f_Pa_block E S F st depth) := by
  refine vx_ofW (cc := c_Pa_block) (maxL := 4) (ret := none) (by decide) rfl ?_
  intro p e s m args below meth c s₁ B hml hnt hv
  obtain ⟨rfl, hsz, hP, hK, hD0, hC, hZ⟩ := hv
  have hx := B.exec
  have hb := B.bytes
  have hr := B.returns
  have hts0 := atoms_spec (ws := wy y_Pa_block c_Pa_block 4 none) B.pre
  have hts := htsL hts0
  have hown : s.vm.findClass R_Pa = some m.cls := findClass_of_methodNamed B.named
  have hlocks := B.notSynchronized
  subst hsz
  have hD := hD0.self (sz := s.heap.size)
  generalize hAe : va_A (wQ cI cZ hp hc h a1 a2 a3 a4 ht hq n1 n2 (ad, st)) s.heap.size = A at hD hZ ⊢
  have hA : ∀ q : Nat, s.heap.size ≤ q → A q := fun q h => by rw [← hAe]; exact Or.inr h
  have hS : va_S A s.heap s.heap [] := va_S.rf
  have hcl : 0 + bC st ≤ bC st := Nat.le_of_eq (Nat.zero_add _)
  have hsl : 0 + bS st ≤ bS st := Nat.le_of_eq (Nat.zero_add _)
  have hl := lv_entry ([.ref hp, .int depth]) (n := 4) (Nat.le_of_ble_eq_true rfl)
  rw [lg_entry_eq]
  generalize (lg_sl ([.ref hp, .int depth]) ++ List.replicate (4 - (lg_sl ([.ref hp, .int depth])).length) Slot.unset).toArray = ls at hl ⊢
  have hl : lv_has ls 4 [(0, .ref hp), (1, .int depth)] := hl
  refine lv_aload_n hx hb d_Pa_block_0 rfl (lv_at hl 0 rfl) ?_
  refine lv_iload_n hx hb d_Pa_block_1 rfl (lv_at hl 1 rfl) ?_
  refine mx_Uv (xm := ⟨"SyntaxTree$Parser", "guard", "(I)V"⟩) (owner := R_Cu) (As := [.int depth]) (rest := []) ⟨hx, hb, hml, hown, hts0⟩ (m_Cu_guard l hlt dC dI cI cZ sa rk hp hc h a1 a2 a3 a4 ht hq n1 n2 ad st hst _ depth (fun z => hg (by unfold f_Pa_block; rw [bnd_n z]))) hP hD hK hS hA hC hZ hnt hlocks L_453 L_454 L_456 L_457 L_86 L_458 rfl k_Cu_guard ⟨(by show _ ≤ fr0 + 8; omega), (by show _ ≤ lo0 + 323; omega)⟩ rfl rfl hl.1 (Nat.le_of_ble_eq_true rfl) d_Pa_block_2 rfl (fun q z => by unfold f_Pa_block; rw [bnd_l z]) hcl hsl (fun ad_1 st_1 H locs w_1 ok_1 e1_1 e2_1 hP hD hS => ?_)
  have hcl := cl_next hcl e1_1
  have hsl := cl_next hsl e2_1
  refine lv_aload_n hx hb d_Pa_block_5 rfl (lv_at hl 0 rfl) ?_
  refine va_get (D := (dC, dI)) (ci := 2) (v := .ref ht) (C := R_Pa) (T := T_Pa) (N := 7) hx hb hts u_Pa hown hK hP 0 rfl rfl 0 (by decide) (hts _ L_208) (fun _ h9 => h9) rfl d_Pa_block_6 ?_
  refine lv_iconst (v := 1) hx hb d_Pa_block_9 (by decide) ?_
  refine lv_iconst (v := 0) hx hb d_Pa_block_10 (by decide) ?_
  refine lv_aload_n hx hb d_Pa_block_11 rfl (lv_at hl 0 rfl) ?_
  refine va_get (D := (dC, dI)) (ci := 2) (v := .int (sAt st_1)) (C := R_Pa) (T := T_Pa) (N := 7) hx hb hts u_Pa hown hK hP 0 rfl rfl 4 (by decide) (hts _ L_215) (fun x9 h9 => u_same (hts _ L_216) x9 h9) rfl d_Pa_block_12 ?_
  have hn_2 : (p_open st_1 1 0 (sAt st_1)) ≠ none := (fun z => hg (by unfold f_Pa_block; rw [bnd_r w_1, bnd_n z]))
  refine pT_i (g := (p_open st_1 1 0 (sAt st_1))) (st := st_1) (As := [.int 1, .int 0, .int (sAt st_1)]) (rest := []) ⟨hx, hb, hml, hown, hts0⟩ (m_Tr_open l dC dI cI cZ sa rk ht ad_1 (sTr st_1) ok_1.2.1 _ 1 0 (sAt st_1) (p_open_c hn_2).1 (p_open_c hn_2).2.1) hP hD hK hS hA hC hZ L_416 L_417 L_418 L_85 L_419 ⟨rfl, k_Tr_open⟩ ⟨(by show _ ≤ fr0 + 8; omega), (by show _ ≤ lo0 + 323; omega)⟩ rfl rfl hl.1 (Nat.le_of_ble_eq_true rfl) d_Pa_block_15 rfl hcl hsl (p_open_c hn_2).2.2.1 (p_open_c hn_2).2.2.2 ok_1 (t_open_ok 1 0 (sAt st_1) ok_1.2.1 (p_open_c hn_2).1 (p_open_c hn_2).2.1) (p_open_e hn_2) (fun r_2 ad_2 st_2 H locs w_2 ok_2 e1_2 e2_2 hP hD hS => ?_)
  have hcl := cl_next hcl e1_2
  have hsl := cl_next hsl e2_2
  refine lv_istore_n (lv' := [(2, .int r_2), (0, .ref hp), (1, .int depth)]) hx hb d_Pa_block_18 rfl hl (by decide) rfl (fun ls hl => ?_)
  refine lv_aload_n hx hb d_Pa_block_19 rfl (lv_at hl 1 rfl) ?_
  refine lv_bipush (v := 64) hx hb d_Pa_block_20 (by decide) ?_
  refine mx_Uv (xm := ⟨"SyntaxTree$Parser", "expect", "(I)V"⟩) (owner := R_Cu) (As := [.int 64]) (rest := []) ⟨hx, hb, hml, hown, hts0⟩ (m_Cu_expect l hlt dC dI cI cZ sa rk hp hc h a1 a2 a3 a4 ht hq n1 n2 ad_2 st_2 ok_2 _ 64 (fun z => hg (by unfold f_Pa_block; rw [bnd_r w_1, bnd_r w_2, bnd_n z]))) hP hD hK hS hA hC hZ hnt hlocks L_510 L_511 L_513 L_514 L_86 L_515 rfl k_Cu_expect ⟨(by show _ ≤ fr0 + 8; omega), (by show _ ≤ lo0 + 323; omega)⟩ rfl rfl hl.1 (Nat.le_of_ble_eq_true rfl) d_Pa_block_22 rfl (fun q z => by unfold f_Pa_block; rw [bnd_r w_1, bnd_r w_2, bnd_l z]) hcl hsl (fun ad_3 st_3 H locs w_3 ok_3 e1_3 e2_3 hP hD hS => ?_)
  have hcl := cl_next hcl e1_3
  have hsl := cl_next hsl e2_3
  refine lv_iconst (v := 0) hx hb d_Pa_block_25 (by decide) ?_
  refine lv_istore_n (lv' := [(3, .int 0), (2, .int r_2), (0, .ref hp), (1, .int depth)]) hx hb d_Pa_block_26 rfl hl (by decide) rfl (fun ls hl => ?_)
  obtain ⟨x_4, hx_4⟩ : ∃ z, f_Pa_block_L27 E S F depth 5000 0 st_3 = z := ⟨_, rfl⟩
  have hn_4 : x_4 ≠ none := (fun z => hg (by unfold f_Pa_block; rw [bnd_r w_1, bnd_r w_2, bnd_r w_3, bnd_n (hx_4.trans z)]))
  have hX_4 : ∀ q, x_4 = some (.inl q) → (f_Pa_block E S F st depth) = some (.inl q) := (fun q z => by unfold f_Pa_block; rw [bnd_r w_1, bnd_r w_2, bnd_r w_3, bnd_l (hx_4.trans z)])
  have lp_4 : ∀ (fu : Nat) (x3 : Int32) (ax_4 : AD) (sx_4 : ST) (okx_4 : okSt sx_4) (H : Heap) (locs : List Loc) (ls : Array Slot) (cells slots : Nat), va_P (dC, dI) cls (wQ cI cZ hp hc h a1 a2 a3 a4 ht hq n1 n2 (ax_4, sx_4)) H → va_D A (wQ cI cZ hp hc h a1 a2 a3 a4 ht hq n1 n2 (ax_4, sx_4)) → va_S A s.heap H locs → lv_has ls 4 [(0, .ref hp), (1, .int depth), (2, .int r_2), (3, .int x3)] → cells + bC sx_4 ≤ bC st → slots + bS sx_4 ≤ bS st → x_4 = f_Pa_block_L27 E S F depth fu x3 sx_4 → W p l e (headSpec (wy y_Pa_block c_Pa_block 4 none) { frames := (fr0 + 8), cells := bC st, slots := bS st, locals := (lo0 + 323) }).room s m [.ref hp, .int depth].toArray below meth c H locs cells slots (vx_MQ below (va_Qv (poN (f_Pa_block E S F st depth) st 0) (wB (dC, dI) cI cZ A (wQ cI cZ hp hc h a1 a2 a3 a4 ht hq n1 n2)) A) (xP (dC, dI) cI cZ hp h a1 a2 a3 a4 ht hq n1 n2 (f_Pa_block E S F st depth) st A) [.ref hp, .int depth].toArray s (mcO st (f_Pa_block E S F st depth)) (msO st (f_Pa_block E S F st depth)) A) (F0 m 27 ls []) := by
    intro fu
    induction fu with
    | zero => intro x3 ax_4 sx_4 okx_4 H locs ls cells slots hP hD hS hl hcl hsl hL_4; exact absurd (hL_4.trans rfl) hn_4
    | succ fu_4 ih_4 =>
      intro x3 ax_4 sx_4 okx_4 H locs ls cells slots hP hD hS hl hcl hsl hL_4
      rw [f_Pa_block_L27] at hL_4
      refine lv_iload_n hx hb d_Pa_block_27 rfl (lv_at hl 3 rfl) ?_
      refine lv_sipush (v := 1000) hx hb d_Pa_block_28 (by decide) ?_
      refine lv_icmp_gt (tgt := 63) hx hb d_Pa_block_31 (by decide) (fun c_5 => ?_) (fun c_5 => ?_)
      · rw [if_pos c_5] at hL_4
        have we_4 : f_Pa_block_L27 E S F depth 5000 0 st_3 = some (.inr (0, sx_4)) := hx_4.trans hL_4
        have hl := lv_sub hl (l' := [(0, .ref hp), (1, .int depth), (2, .int r_2)]) [0, 1, 2] rfl
        refine lv_aload_n hx hb d_Pa_block_63 rfl (lv_at hl 0 rfl) ?_
        refine va_get (D := (dC, dI)) (ci := 2) (v := .ref ht) (C := R_Pa) (T := T_Pa) (N := 7) hx hb hts u_Pa hown hK hP 0 rfl rfl 0 (by decide) (hts _ L_208) (fun _ h9 => h9) rfl d_Pa_block_64 ?_
        refine lv_iload_n hx hb d_Pa_block_67 rfl (lv_at hl 2 rfl) ?_
        refine pT_v (g := (p_close sx_4 r_2)) (st := sx_4) (As := [.int r_2]) (rest := []) ⟨hx, hb, hml, hown, hts0⟩ (m_Tr_close l dC dI cI cZ sa rk ht ax_4 (sTr sx_4) okx_4.2.1 _ r_2) hP hD hK hS hA hC hZ L_582 L_583 L_584 L_85 L_585 ⟨rfl, k_Tr_close⟩ ⟨(by show _ ≤ fr0 + 8; omega), (by show _ ≤ lo0 + 323; omega)⟩ rfl rfl hl.1 (Nat.le_of_ble_eq_true rfl) d_Pa_block_68 rfl hcl hsl (Nat.zero_le _) (Nat.zero_le _) okx_4 (t_close_ok r_2 okx_4.2.1) rfl (fun ad_6 st_6 H locs w_6 ok_6 e1_6 e2_6 hP hD hS => ?_)
        have hcl := cl_next hcl e1_6
        have hsl := cl_next hsl e2_6
        exact mx_vret (stF := st_6) hx hb hr hlocks hK hP hD hS hcl hsl (by unfold f_Pa_block; rw [bnd_r w_1, bnd_r w_2, bnd_r w_3, bnd_r we_4, bnd_r w_6]) ok_6 d_Pa_block_71
      · rw [if_neg c_5] at hL_4
        refine lv_aload_n hx hb d_Pa_block_34 rfl (lv_at hl 0 rfl) ?_
        refine lv_bipush (v := 65) hx hb d_Pa_block_35 (by decide) ?_
        refine mx_Ui (xm := ⟨"SyntaxTree$Parser", "accept", "(I)Z"⟩) (owner := R_Cu) (As := [.int 65]) (rest := []) ⟨hx, hb, hml, hown, hts0⟩ (m_Cu_accept l hlt dC dI cI cZ sa rk hp hc h a1 a2 a3 a4 ht hq n1 n2 ax_4 sx_4 okx_4 _ 65 (fun z => hn_4 (hL_4.trans (bnd_n z)))) hP hD hK hS hA hC hZ hnt hlocks L_556 L_557 L_559 L_547 L_86 L_550 rfl k_Cu_accept ⟨(by show _ ≤ fr0 + 8; omega), (by show _ ≤ lo0 + 323; omega)⟩ rfl rfl hl.1 (Nat.le_of_ble_eq_true rfl) d_Pa_block_37 rfl (fun q z => hX_4 q (hL_4.trans (bnd_l z))) hcl hsl (fun r_7 ad_7 st_7 H locs w_7 ok_7 e1_7 e2_7 hP hD hS => ?_)
        have hcl := cl_next hcl e1_7
        have hsl := cl_next hsl e2_7
        rw [bnd_r w_7] at hL_4
        refine lv_if_ne (tgt := 63) hx hb d_Pa_block_40 (by decide) (fun c_8 => ?_) (fun c_8 => ?_)
        · rw [if_neg c_8] at hL_4
          have we_4 : f_Pa_block_L27 E S F depth 5000 0 st_3 = some (.inr (0, st_7)) := hx_4.trans hL_4
          have hl := lv_sub hl (l' := [(0, .ref hp), (1, .int depth), (2, .int r_2)]) [0, 1, 2] rfl
          refine lv_aload_n hx hb d_Pa_block_63 rfl (lv_at hl 0 rfl) ?_
          refine va_get (D := (dC, dI)) (ci := 2) (v := .ref ht) (C := R_Pa) (T := T_Pa) (N := 7) hx hb hts u_Pa hown hK hP 0 rfl rfl 0 (by decide) (hts _ L_208) (fun _ h9 => h9) rfl d_Pa_block_64 ?_
          refine lv_iload_n hx hb d_Pa_block_67 rfl (lv_at hl 2 rfl) ?_
          refine pT_v (g := (p_close st_7 r_2)) (st := st_7) (As := [.int r_2]) (rest := []) ⟨hx, hb, hml, hown, hts0⟩ (m_Tr_close l dC dI cI cZ sa rk ht ad_7 (sTr st_7) ok_7.2.1 _ r_2) hP hD hK hS hA hC hZ L_582 L_583 L_584 L_85 L_585 ⟨rfl, k_Tr_close⟩ ⟨(by show _ ≤ fr0 + 8; omega), (by show _ ≤ lo0 + 323; omega)⟩ rfl rfl hl.1 (Nat.le_of_ble_eq_true rfl) d_Pa_block_68 rfl hcl hsl (Nat.zero_le _) (Nat.zero_le _) ok_7 (t_close_ok r_2 ok_7.2.1) rfl (fun ad_9 st_9 H locs w_9 ok_9 e1_9 e2_9 hP hD hS => ?_)
          have hcl := cl_next hcl e1_9
          have hsl := cl_next hsl e2_9
          exact mx_vret (stF := st_9) hx hb hr hlocks hK hP hD hS hcl hsl (by unfold f_Pa_block; rw [bnd_r w_1, bnd_r w_2, bnd_r w_3, bnd_r we_4, bnd_r w_9]) ok_9 d_Pa_block_71
        · rw [if_pos c_8] at hL_4
          refine lv_aload_n hx hb d_Pa_block_43 rfl (lv_at hl 0 rfl) ?_
          refine lv_iload_n hx hb d_Pa_block_44 rfl (lv_at hl 1 rfl) ?_
          refine lv_iconst (v := 1) hx hb d_Pa_block_45 (by decide) ?_
          refine lv_iadd hx hb d_Pa_block_46 ?_
          refine lv_aload_n hx hb d_Pa_block_47 rfl (lv_at hl 0 rfl) ?_
          refine va_get (D := (dC, dI)) (ci := 2) (v := .ref hq) (C := R_Pa) (T := T_Pa) (N := 7) hx hb hts u_Pa hown hK hP 0 rfl rfl 1 (by decide) (hts _ L_209) (fun _ h9 => h9) rfl d_Pa_block_48 ?_
          refine rd_V (v := (f_La_count (sLb st_7))) (As := []) (rest := [.int (depth + 1), .ref hp]) ⟨hx, hb, hml, hown, hts0⟩ (m_La_count l dC dI cI cZ hq n1 n2 (sLb st_7) ok_7.2.2.1 ) hP hK [12, 13, 14] rfl [0, 1] rfl 0 1 rfl rfl L_552 L_553 L_554 L_89 L_555 ⟨rfl, k_La_count⟩ ⟨(by show _ ≤ fr0 + 8; omega), (by show _ ≤ lo0 + 323; omega)⟩ hl.1 ⟨Nat.le_trans (Nat.le_add_right _ _) hcl, Nat.le_trans (Nat.le_add_right _ _) hsl⟩ (Nat.le_of_ble_eq_true rfl) d_Pa_block_51 rfl ?_
          refine mx_Vv (As := [.int (depth + 1), .int (f_La_count (sLb st_7))]) (rest := []) ⟨hx, hb, hml, hown, hts0⟩ (hRS hc ad_7 st_7 ok_7 _ (depth + 1) (f_La_count (sLb st_7)) (fun z => hn_4 (hL_4.trans (bnd_n z)))) hP hD hK hS hA hC hZ hnt hlocks L_560 L_562 L_10 L_87 L_563 k_Pa_statement ⟨(by show _ ≤ fr0 + 8; omega), (by show _ ≤ lo0 + 323; omega)⟩ rfl rfl hl.1 (Nat.le_of_ble_eq_true rfl) d_Pa_block_54 rfl (fun q z => hX_4 q (hL_4.trans (bnd_l z))) hcl hsl (fun ad_10 st_10 H locs w_10 ok_10 e1_10 e2_10 hP hD hS => ?_)
          have hcl := cl_next hcl e1_10
          have hsl := cl_next hsl e2_10
          rw [bnd_r w_10] at hL_4
          refine lv_iinc (v := (x3 + 1)) (lv' := [(3, .int (x3 + 1)), (0, .ref hp), (1, .int depth), (2, .int r_2)]) hx hb d_Pa_block_57 hl (k := 3) rfl rfl (by decide) rfl (fun ls hl => ?_)
          refine lv_goto (tgt := 27) hx hb d_Pa_block_60 (by decide) ?_
          exact ih_4 (x3 + 1) ad_10 st_10 ok_10 _ _ ls _ _ hP hD hS (lv_sub hl [1, 2, 3, 0] rfl) hcl hsl hL_4
  exact lp_4 5000 0 ad_3 st_3 ok_3 _ _ ls _ _ hP hD hS (lv_sub hl [2, 3, 1, 0] rfl) hcl hsl hx_4.symm
def f_Pa_variables_L20 (E : Int32 → Int32 → Int32 → ST → Rz) (S : Int32 → Int32 → ST → Rz) (F : Int32 → Int32 → ST → Rz) (depth : Int32) (inn : Int32) : Nat → Int32 → Int32 → ST → Rz
  | 0, _, _, _ => none
  | fu_2 + 1, x4, x5, sx_2 => (if 1000 < x5 then (some (.inr (0, sx_2))) else (if x4 = 0 then (some (.inr (0, sx_2))) else (bnd (p_open (setAt sx_2 ((sAt sx_2) + 1)) 3 0 ((sAt sx_2) + 1)) (fun r_7 st_7 => (bnd (f_Cu_boundName st_7) (fun r_8 st_8 => (bnd (p_setValue st_8 r_7 r_8) (fun _ st_9 => (bnd (f_Cu_accept st_9 30) (fun r_10 st_10 => (if r_10 = 0 then (bnd (p_close st_10 r_7) (fun _ st_12 => (f_Pa_variables_L20 E S F depth inn fu_2 (f_Cu_atSign st_12 68) (x5 + 1) st_12))) else (bnd (E 0 (depth + 1) inn st_10) (fun _ st_13 => (bnd (p_close st_13 r_7) (fun _ st_14 => (f_Pa_variables_L20 E S F depth inn fu_2 (f_Cu_atSign st_14 68) (x5 + 1) st_14))))))))))))))))
def f_Pa_variables (E : Int32 → Int32 → Int32 → ST → Rz) (S : Int32 → Int32 → ST → Rz) (F : Int32 → Int32 → ST → Rz) (st : ST) (depth : Int32) (inn : Int32) : Rz := (bnd (p_open st 2 0 (sAt st)) (fun r_1 st_1 => (bnd (f_Pa_variables_L20 E S F depth inn 5000 1 0 st_1) (fun _ sx_2 => (bnd (p_close sx_2 r_1) (fun _ st_4 => (some (.inr (0, st_4)))))))))
set_option maxRecDepth 100000 in
set_option maxHeartbeats 4000000 in
theorem m_Pa_variables (l : Launch) (hlt : l.stackTraces = false) (dC : Nat → ClassId) (dI : Nat → Nat → Nat) (cI cZ : ClassId) (sa rk hp h a1 a2 a3 a4 ht hq n1 n2 : Nat) (fr0 lo0 : Nat) (E : Int32 → Int32 → Int32 → ST → Rz) (S : Int32 → Int32 → ST → Rz) (F : Int32 → Int32 → ST → Rz) (hRE : ∀ (hc : Nat) (ad : AD) (st : ST), okSt st → ∀ (sz : Nat) (level depth inn : Int32), E level depth inn st ≠ none → cPv l y_Pa_expression c_Pa_expression 6 fr0 lo0 (dC, dI) cI cZ sa rk hp hc h a1 a2 a3 a4 ht hq n1 n2 ad st sz [.ref hp, .int level, .int depth, .int inn] (E level depth inn st)) (hRS : ∀ (hc : Nat) (ad : AD) (st : ST), okSt st → ∀ (sz : Nat) (depth first : Int32), S depth first st ≠ none → cPv l y_Pa_statement c_Pa_statement 4 fr0 lo0 (dC, dI) cI cZ sa rk hp hc h a1 a2 a3 a4 ht hq n1 n2 ad st sz [.ref hp, .int depth, .int first] (S depth first st)) (hRF : ∀ (hc : Nat) (ad : AD) (st : ST), okSt st → ∀ (sz : Nat) (form depth : Int32), F form depth st ≠ none → cPv l y_Pa_function c_Pa_function 10 fr0 lo0 (dC, dI) cI cZ sa rk hp hc h a1 a2 a3 a4 ht hq n1 n2 ad st sz [.ref hp, .int form, .int depth] (F form depth st)) (hc : Nat) (ad : AD) (st : ST) (hst : okSt st) (sz : Nat) (depth : Int32) (inn : Int32) (hg : f_Pa_variables E S F st depth inn ≠ none) : cPv l y_Pa_variables c_Pa_variables 7 (fr0 + 8) (lo0 + 323) (dC, dI) cI cZ sa rk hp hc h a1 a2 a3 a4 ht hq n1 n2 ad st sz [.ref hp, .int depth, .int inn] (f_Pa_variables E S F st depth inn) := by
  refine vx_ofW (cc := c_Pa_variables) (maxL := 7) (ret := none) (by decide) rfl ?_
  intro p e s m args below meth c s₁ B hml hnt hv
  obtain ⟨rfl, hsz, hP, hK, hD0, hC, hZ⟩ := hv
  have hx := B.exec
  have hb := B.bytes
  have hr := B.returns
  have hts0 := atoms_spec (ws := wy y_Pa_variables c_Pa_variables 7 none) B.pre
  have hts := htsL hts0
  have hown : s.vm.findClass R_Pa = some m.cls := findClass_of_methodNamed B.named
  have hlocks := B.notSynchronized
  subst hsz
  have hD := hD0.self (sz := s.heap.size)
  generalize hAe : va_A (wQ cI cZ hp hc h a1 a2 a3 a4 ht hq n1 n2 (ad, st)) s.heap.size = A at hD hZ ⊢
  have hA : ∀ q : Nat, s.heap.size ≤ q → A q := fun q h => by rw [← hAe]; exact Or.inr h
  have hS : va_S A s.heap s.heap [] := va_S.rf
  have hcl : 0 + bC st ≤ bC st := Nat.le_of_eq (Nat.zero_add _)
  have hsl : 0 + bS st ≤ bS st := Nat.le_of_eq (Nat.zero_add _)
  have hl := lv_entry ([.ref hp, .int depth, .int inn]) (n := 7) (Nat.le_of_ble_eq_true rfl)
  rw [lg_entry_eq]
  generalize (lg_sl ([.ref hp, .int depth, .int inn]) ++ List.replicate (7 - (lg_sl ([.ref hp, .int depth, .int inn])).length) Slot.unset).toArray = ls at hl ⊢
  have hl : lv_has ls 7 [(0, .ref hp), (1, .int depth), (2, .int inn)] := hl
  refine lv_aload_n hx hb d_Pa_variables_0 rfl (lv_at hl 0 rfl) ?_
  refine va_get (D := (dC, dI)) (ci := 2) (v := .ref ht) (C := R_Pa) (T := T_Pa) (N := 7) hx hb hts u_Pa hown hK hP 0 rfl rfl 0 (by decide) (hts _ L_208) (fun _ h9 => h9) rfl d_Pa_variables_1 ?_
  refine lv_iconst (v := 2) hx hb d_Pa_variables_4 (by decide) ?_
  refine lv_iconst (v := 0) hx hb d_Pa_variables_5 (by decide) ?_
  refine lv_aload_n hx hb d_Pa_variables_6 rfl (lv_at hl 0 rfl) ?_
  refine va_get (D := (dC, dI)) (ci := 2) (v := .int (sAt st)) (C := R_Pa) (T := T_Pa) (N := 7) hx hb hts u_Pa hown hK hP 0 rfl rfl 4 (by decide) (hts _ L_215) (fun x9 h9 => u_same (hts _ L_216) x9 h9) rfl d_Pa_variables_7 ?_
  have hn_1 : (p_open st 2 0 (sAt st)) ≠ none := (fun z => hg (by unfold f_Pa_variables; rw [bnd_n z]))
  refine pT_i (g := (p_open st 2 0 (sAt st))) (st := st) (As := [.int 2, .int 0, .int (sAt st)]) (rest := []) ⟨hx, hb, hml, hown, hts0⟩ (m_Tr_open l dC dI cI cZ sa rk ht ad (sTr st) hst.2.1 _ 2 0 (sAt st) (p_open_c hn_1).1 (p_open_c hn_1).2.1) hP hD hK hS hA hC hZ L_416 L_417 L_418 L_85 L_419 ⟨rfl, k_Tr_open⟩ ⟨(by show _ ≤ fr0 + 8; omega), (by show _ ≤ lo0 + 323; omega)⟩ rfl rfl hl.1 (Nat.le_of_ble_eq_true rfl) d_Pa_variables_10 rfl hcl hsl (p_open_c hn_1).2.2.1 (p_open_c hn_1).2.2.2 hst (t_open_ok 2 0 (sAt st) hst.2.1 (p_open_c hn_1).1 (p_open_c hn_1).2.1) (p_open_e hn_1) (fun r_1 ad_1 st_1 H locs w_1 ok_1 e1_1 e2_1 hP hD hS => ?_)
  have hcl := cl_next hcl e1_1
  have hsl := cl_next hsl e2_1
  refine lv_istore_n (lv' := [(3, .int r_1), (0, .ref hp), (1, .int depth), (2, .int inn)]) hx hb d_Pa_variables_13 rfl hl (by decide) rfl (fun ls hl => ?_)
  refine lv_iconst (v := 1) hx hb d_Pa_variables_14 (by decide) ?_
  refine lv_istore (lv' := [(4, .int 1), (3, .int r_1), (0, .ref hp), (1, .int depth), (2, .int inn)]) hx hb d_Pa_variables_15 hl (by decide) rfl (fun ls hl => ?_)
  refine lv_iconst (v := 0) hx hb d_Pa_variables_17 (by decide) ?_
  refine lv_istore (lv' := [(5, .int 0), (4, .int 1), (3, .int r_1), (0, .ref hp), (1, .int depth), (2, .int inn)]) hx hb d_Pa_variables_18 hl (by decide) rfl (fun ls hl => ?_)
  obtain ⟨x_2, hx_2⟩ : ∃ z, f_Pa_variables_L20 E S F depth inn 5000 1 0 st_1 = z := ⟨_, rfl⟩
  have hn_2 : x_2 ≠ none := (fun z => hg (by unfold f_Pa_variables; rw [bnd_r w_1, bnd_n (hx_2.trans z)]))
  have hX_2 : ∀ q, x_2 = some (.inl q) → (f_Pa_variables E S F st depth inn) = some (.inl q) := (fun q z => by unfold f_Pa_variables; rw [bnd_r w_1, bnd_l (hx_2.trans z)])
  have lp_2 : ∀ (fu : Nat) (x4 x5 : Int32) (ax_2 : AD) (sx_2 : ST) (okx_2 : okSt sx_2) (H : Heap) (locs : List Loc) (ls : Array Slot) (cells slots : Nat), va_P (dC, dI) cls (wQ cI cZ hp hc h a1 a2 a3 a4 ht hq n1 n2 (ax_2, sx_2)) H → va_D A (wQ cI cZ hp hc h a1 a2 a3 a4 ht hq n1 n2 (ax_2, sx_2)) → va_S A s.heap H locs → lv_has ls 7 [(0, .ref hp), (1, .int depth), (2, .int inn), (3, .int r_1), (4, .int x4), (5, .int x5)] → cells + bC sx_2 ≤ bC st → slots + bS sx_2 ≤ bS st → x_2 = f_Pa_variables_L20 E S F depth inn fu x4 x5 sx_2 → W p l e (headSpec (wy y_Pa_variables c_Pa_variables 7 none) { frames := (fr0 + 8), cells := bC st, slots := bS st, locals := (lo0 + 323) }).room s m [.ref hp, .int depth, .int inn].toArray below meth c H locs cells slots (vx_MQ below (va_Qv (poN (f_Pa_variables E S F st depth inn) st 0) (wB (dC, dI) cI cZ A (wQ cI cZ hp hc h a1 a2 a3 a4 ht hq n1 n2)) A) (xP (dC, dI) cI cZ hp h a1 a2 a3 a4 ht hq n1 n2 (f_Pa_variables E S F st depth inn) st A) [.ref hp, .int depth, .int inn].toArray s (mcO st (f_Pa_variables E S F st depth inn)) (msO st (f_Pa_variables E S F st depth inn)) A) (F0 m 20 ls []) := by
    intro fu
    induction fu with
    | zero => intro x4 x5 ax_2 sx_2 okx_2 H locs ls cells slots hP hD hS hl hcl hsl hL_2; exact absurd (hL_2.trans rfl) hn_2
    | succ fu_2 ih_2 =>
      intro x4 x5 ax_2 sx_2 okx_2 H locs ls cells slots hP hD hS hl hcl hsl hL_2
      rw [f_Pa_variables_L20] at hL_2
      refine lv_iload hx hb d_Pa_variables_20 (lv_at hl 5 rfl) ?_
      refine lv_sipush (v := 1000) hx hb d_Pa_variables_22 (by decide) ?_
      refine lv_icmp_gt (tgt := 112) hx hb d_Pa_variables_25 (by decide) (fun c_3 => ?_) (fun c_3 => ?_)
      · rw [if_pos c_3] at hL_2
        have we_2 : f_Pa_variables_L20 E S F depth inn 5000 1 0 st_1 = some (.inr (0, sx_2)) := hx_2.trans hL_2
        have hl := lv_sub hl (l' := [(0, .ref hp), (1, .int depth), (2, .int inn), (3, .int r_1)]) [0, 1, 2, 3] rfl
        refine lv_aload_n hx hb d_Pa_variables_112 rfl (lv_at hl 0 rfl) ?_
        refine va_get (D := (dC, dI)) (ci := 2) (v := .ref ht) (C := R_Pa) (T := T_Pa) (N := 7) hx hb hts u_Pa hown hK hP 0 rfl rfl 0 (by decide) (hts _ L_208) (fun _ h9 => h9) rfl d_Pa_variables_113 ?_
        refine lv_iload_n hx hb d_Pa_variables_116 rfl (lv_at hl 3 rfl) ?_
        refine pT_v (g := (p_close sx_2 r_1)) (st := sx_2) (As := [.int r_1]) (rest := []) ⟨hx, hb, hml, hown, hts0⟩ (m_Tr_close l dC dI cI cZ sa rk ht ax_2 (sTr sx_2) okx_2.2.1 _ r_1) hP hD hK hS hA hC hZ L_582 L_583 L_584 L_85 L_585 ⟨rfl, k_Tr_close⟩ ⟨(by show _ ≤ fr0 + 8; omega), (by show _ ≤ lo0 + 323; omega)⟩ rfl rfl hl.1 (Nat.le_of_ble_eq_true rfl) d_Pa_variables_117 rfl hcl hsl (Nat.zero_le _) (Nat.zero_le _) okx_2 (t_close_ok r_1 okx_2.2.1) rfl (fun ad_4 st_4 H locs w_4 ok_4 e1_4 e2_4 hP hD hS => ?_)
        have hcl := cl_next hcl e1_4
        have hsl := cl_next hsl e2_4
        exact mx_vret (stF := st_4) hx hb hr hlocks hK hP hD hS hcl hsl (by unfold f_Pa_variables; rw [bnd_r w_1, bnd_r we_2, bnd_r w_4]) ok_4 d_Pa_variables_120
      · rw [if_neg c_3] at hL_2
        refine lv_iload hx hb d_Pa_variables_28 (lv_at hl 4 rfl) ?_
        refine lv_if_eq (tgt := 112) hx hb d_Pa_variables_30 (by decide) (fun c_5 => ?_) (fun c_5 => ?_)
        · rw [if_pos c_5] at hL_2
          have we_2 : f_Pa_variables_L20 E S F depth inn 5000 1 0 st_1 = some (.inr (0, sx_2)) := hx_2.trans hL_2
          have hl := lv_sub hl (l' := [(0, .ref hp), (1, .int depth), (2, .int inn), (3, .int r_1)]) [0, 1, 2, 3] rfl
          refine lv_aload_n hx hb d_Pa_variables_112 rfl (lv_at hl 0 rfl) ?_
          refine va_get (D := (dC, dI)) (ci := 2) (v := .ref ht) (C := R_Pa) (T := T_Pa) (N := 7) hx hb hts u_Pa hown hK hP 0 rfl rfl 0 (by decide) (hts _ L_208) (fun _ h9 => h9) rfl d_Pa_variables_113 ?_
          refine lv_iload_n hx hb d_Pa_variables_116 rfl (lv_at hl 3 rfl) ?_
          refine pT_v (g := (p_close sx_2 r_1)) (st := sx_2) (As := [.int r_1]) (rest := []) ⟨hx, hb, hml, hown, hts0⟩ (m_Tr_close l dC dI cI cZ sa rk ht ax_2 (sTr sx_2) okx_2.2.1 _ r_1) hP hD hK hS hA hC hZ L_582 L_583 L_584 L_85 L_585 ⟨rfl, k_Tr_close⟩ ⟨(by show _ ≤ fr0 + 8; omega), (by show _ ≤ lo0 + 323; omega)⟩ rfl rfl hl.1 (Nat.le_of_ble_eq_true rfl) d_Pa_variables_117 rfl hcl hsl (Nat.zero_le _) (Nat.zero_le _) okx_2 (t_close_ok r_1 okx_2.2.1) rfl (fun ad_6 st_6 H locs w_6 ok_6 e1_6 e2_6 hP hD hS => ?_)
          have hcl := cl_next hcl e1_6
          have hsl := cl_next hsl e2_6
          exact mx_vret (stF := st_6) hx hb hr hlocks hK hP hD hS hcl hsl (by unfold f_Pa_variables; rw [bnd_r w_1, bnd_r we_2, bnd_r w_6]) ok_6 d_Pa_variables_120
        · rw [if_neg c_5] at hL_2
          refine lv_aload_n hx hb d_Pa_variables_33 rfl (lv_at hl 0 rfl) ?_
          refine lv_dup hx hb d_Pa_variables_34 rfl ?_
          refine va_get (D := (dC, dI)) (ci := 2) (v := .int (sAt sx_2)) (C := R_Pa) (T := T_Pa) (N := 7) hx hb hts u_Pa hown hK hP 0 rfl rfl 4 (by decide) (hts _ L_215) (fun x9 h9 => u_same (hts _ L_216) x9 h9) rfl d_Pa_variables_35 ?_
          refine lv_iconst (v := 1) hx hb d_Pa_variables_38 (by decide) ?_
          refine lv_iadd hx hb d_Pa_variables_39 ?_
          refine va_put (D := (dC, dI)) (ci := 2) (v := .int ((sAt sx_2) + 1)) (ty := .int) (C := R_Pa) (T := T_Pa) (N := 7) hx hb hts u_Pa ty_Pa tk_Pa nm_Pa hown hK hP hD hS 0 rfl rfl 4 (by decide) (hts _ L_215) (fun x9 h9 => u_same (hts _ L_216) x9 h9) rfl (by decide +kernel) rfl rfl (Nat.le_of_ble_eq_true rfl) d_Pa_variables_40 (fun H locs hP hD hS => ?_)
          have hP : va_P (dC, dI) cls (wQ cI cZ hp hc h a1 a2 a3 a4 ht hq n1 n2 (ax_2, (setAt sx_2 ((sAt sx_2) + 1)))) H := hP
          have hD : va_D A (wQ cI cZ hp hc h a1 a2 a3 a4 ht hq n1 n2 (ax_2, (setAt sx_2 ((sAt sx_2) + 1)))) := hD
          refine lv_aload_n hx hb d_Pa_variables_43 rfl (lv_at hl 0 rfl) ?_
          refine va_get (D := (dC, dI)) (ci := 2) (v := .ref ht) (C := R_Pa) (T := T_Pa) (N := 7) hx hb hts u_Pa hown hK hP 0 rfl rfl 0 (by decide) (hts _ L_208) (fun _ h9 => h9) rfl d_Pa_variables_44 ?_
          refine lv_iconst (v := 3) hx hb d_Pa_variables_47 (by decide) ?_
          refine lv_iconst (v := 0) hx hb d_Pa_variables_48 (by decide) ?_
          refine lv_aload_n hx hb d_Pa_variables_49 rfl (lv_at hl 0 rfl) ?_
          refine va_get (D := (dC, dI)) (ci := 2) (v := .int ((sAt sx_2) + 1)) (C := R_Pa) (T := T_Pa) (N := 7) hx hb hts u_Pa hown hK hP 0 rfl rfl 4 (by decide) (hts _ L_215) (fun x9 h9 => u_same (hts _ L_216) x9 h9) rfl d_Pa_variables_50 ?_
          have hn_7 : (p_open (setAt sx_2 ((sAt sx_2) + 1)) 3 0 ((sAt sx_2) + 1)) ≠ none := (fun z => hn_2 (hL_2.trans (bnd_n z)))
          refine pT_i (g := (p_open (setAt sx_2 ((sAt sx_2) + 1)) 3 0 ((sAt sx_2) + 1))) (st := (setAt sx_2 ((sAt sx_2) + 1))) (As := [.int 3, .int 0, .int ((sAt sx_2) + 1)]) (rest := []) ⟨hx, hb, hml, hown, hts0⟩ (m_Tr_open l dC dI cI cZ sa rk ht ax_2 (sTr sx_2) okx_2.2.1 _ 3 0 ((sAt sx_2) + 1) (p_open_c hn_7).1 (p_open_c hn_7).2.1) hP hD hK hS hA hC hZ L_416 L_417 L_418 L_85 L_419 ⟨rfl, k_Tr_open⟩ ⟨(by show _ ≤ fr0 + 8; omega), (by show _ ≤ lo0 + 323; omega)⟩ rfl rfl hl.1 (Nat.le_of_ble_eq_true rfl) d_Pa_variables_53 rfl hcl hsl (p_open_c hn_7).2.2.1 (p_open_c hn_7).2.2.2 (show okSt (setAt sx_2 ((sAt sx_2) + 1)) from ⟨okx_2.1, okx_2.2.1, okx_2.2.2.1, okx_2.2.2.2⟩) (t_open_ok 3 0 ((sAt sx_2) + 1) okx_2.2.1 (p_open_c hn_7).1 (p_open_c hn_7).2.1) (p_open_e hn_7) (fun r_7 ad_7 st_7 H locs w_7 ok_7 e1_7 e2_7 hP hD hS => ?_)
          have hcl := cl_next hcl e1_7
          have hsl := cl_next hsl e2_7
          rw [bnd_r w_7] at hL_2
          refine lv_istore (lv' := [(6, .int r_7), (0, .ref hp), (1, .int depth), (2, .int inn), (3, .int r_1), (4, .int x4), (5, .int x5)]) hx hb d_Pa_variables_56 hl (by decide) rfl (fun ls hl => ?_)
          refine lv_aload_n hx hb d_Pa_variables_58 rfl (lv_at hl 1 rfl) ?_
          refine va_get (D := (dC, dI)) (ci := 2) (v := .ref ht) (C := R_Pa) (T := T_Pa) (N := 7) hx hb hts u_Pa hown hK hP 0 rfl rfl 0 (by decide) (hts _ L_208) (fun _ h9 => h9) rfl d_Pa_variables_59 ?_
          refine lv_iload hx hb d_Pa_variables_62 (lv_at hl 0 rfl) ?_
          refine lv_aload_n hx hb d_Pa_variables_64 rfl (lv_at hl 1 rfl) ?_
          refine mx_Ui (xm := ⟨"SyntaxTree$Parser", "boundName", "()I"⟩) (owner := R_Cu) (As := []) (rest := [.int r_7, .ref ht]) ⟨hx, hb, hml, hown, hts0⟩ (m_Cu_boundName l hlt dC dI cI cZ sa rk hp hc h a1 a2 a3 a4 ht hq n1 n2 ad_7 st_7 ok_7 _  (fun z => hn_2 (hL_2.trans (bnd_n z)))) hP hD hK hS hA hC hZ hnt hlocks L_471 L_472 L_474 L_475 L_86 L_476 rfl k_Cu_boundName ⟨(by show _ ≤ fr0 + 8; omega), (by show _ ≤ lo0 + 323; omega)⟩ rfl rfl hl.1 (Nat.le_of_ble_eq_true rfl) d_Pa_variables_65 rfl (fun q z => hX_2 q (hL_2.trans (bnd_l z))) hcl hsl (fun r_8 ad_8 st_8 H locs w_8 ok_8 e1_8 e2_8 hP hD hS => ?_)
          have hcl := cl_next hcl e1_8
          have hsl := cl_next hsl e2_8
          rw [bnd_r w_8] at hL_2
          refine pT_v (g := (p_setValue st_8 r_7 r_8)) (st := st_8) (As := [.int r_7, .int r_8]) (rest := []) ⟨hx, hb, hml, hown, hts0⟩ (m_Tr_setValue l dC dI cI cZ sa rk ht ad_8 (sTr st_8) ok_8.2.1 _ r_7 r_8) hP hD hK hS hA hC hZ L_488 L_489 L_490 L_85 L_491 ⟨rfl, k_Tr_setValue⟩ ⟨(by show _ ≤ fr0 + 8; omega), (by show _ ≤ lo0 + 323; omega)⟩ rfl rfl hl.1 (Nat.le_of_ble_eq_true rfl) d_Pa_variables_68 rfl hcl hsl (Nat.zero_le _) (Nat.zero_le _) ok_8 (t_setValue_ok r_7 r_8 ok_8.2.1) rfl (fun ad_9 st_9 H locs w_9 ok_9 e1_9 e2_9 hP hD hS => ?_)
          have hcl := cl_next hcl e1_9
          have hsl := cl_next hsl e2_9
          rw [bnd_r w_9] at hL_2
          refine lv_aload_n hx hb d_Pa_variables_71 rfl (lv_at hl 1 rfl) ?_
          refine lv_bipush (v := 30) hx hb d_Pa_variables_72 (by decide) ?_
          refine mx_Ui (xm := ⟨"SyntaxTree$Parser", "accept", "(I)Z"⟩) (owner := R_Cu) (As := [.int 30]) (rest := []) ⟨hx, hb, hml, hown, hts0⟩ (m_Cu_accept l hlt dC dI cI cZ sa rk hp hc h a1 a2 a3 a4 ht hq n1 n2 ad_9 st_9 ok_9 _ 30 (fun z => hn_2 (hL_2.trans (bnd_n z)))) hP hD hK hS hA hC hZ hnt hlocks L_556 L_557 L_559 L_547 L_86 L_550 rfl k_Cu_accept ⟨(by show _ ≤ fr0 + 8; omega), (by show _ ≤ lo0 + 323; omega)⟩ rfl rfl hl.1 (Nat.le_of_ble_eq_true rfl) d_Pa_variables_74 rfl (fun q z => hX_2 q (hL_2.trans (bnd_l z))) hcl hsl (fun r_10 ad_10 st_10 H locs w_10 ok_10 e1_10 e2_10 hP hD hS => ?_)
          have hcl := cl_next hcl e1_10
          have hsl := cl_next hsl e2_10
          rw [bnd_r w_10] at hL_2
          refine lv_if_eq (tgt := 89) hx hb d_Pa_variables_77 (by decide) (fun c_11 => ?_) (fun c_11 => ?_)
          · rw [if_pos c_11] at hL_2
            refine lv_aload_n hx hb d_Pa_variables_89 rfl (lv_at hl 1 rfl) ?_
            refine va_get (D := (dC, dI)) (ci := 2) (v := .ref ht) (C := R_Pa) (T := T_Pa) (N := 7) hx hb hts u_Pa hown hK hP 0 rfl rfl 0 (by decide) (hts _ L_208) (fun _ h9 => h9) rfl d_Pa_variables_90 ?_
            refine lv_iload hx hb d_Pa_variables_93 (lv_at hl 0 rfl) ?_
            refine pT_v (g := (p_close st_10 r_7)) (st := st_10) (As := [.int r_7]) (rest := []) ⟨hx, hb, hml, hown, hts0⟩ (m_Tr_close l dC dI cI cZ sa rk ht ad_10 (sTr st_10) ok_10.2.1 _ r_7) hP hD hK hS hA hC hZ L_582 L_583 L_584 L_85 L_585 ⟨rfl, k_Tr_close⟩ ⟨(by show _ ≤ fr0 + 8; omega), (by show _ ≤ lo0 + 323; omega)⟩ rfl rfl hl.1 (Nat.le_of_ble_eq_true rfl) d_Pa_variables_95 rfl hcl hsl (Nat.zero_le _) (Nat.zero_le _) ok_10 (t_close_ok r_7 ok_10.2.1) rfl (fun ad_12 st_12 H locs w_12 ok_12 e1_12 e2_12 hP hD hS => ?_)
            have hcl := cl_next hcl e1_12
            have hsl := cl_next hsl e2_12
            rw [bnd_r w_12] at hL_2
            refine lv_aload_n hx hb d_Pa_variables_98 rfl (lv_at hl 1 rfl) ?_
            refine lv_bipush (v := 68) hx hb d_Pa_variables_99 (by decide) ?_
            refine rd_U (xm := ⟨"SyntaxTree$Parser", "atSign", "(I)Z"⟩) (owner := R_Cu) (v := (f_Cu_atSign st_12 68)) (As := [.int 68]) (rest := []) ⟨hx, hb, hml, hown, hts0⟩ (m_Cu_atSign l dC dI cI cZ hp hc h a1 a2 a3 a4 ht ad_12.1 ad_12.2.1 ad_12.2.2.1 ad_12.2.2.2 hq n1 n2 st_12 ok_12 68) hP hK [0, 1, 2, 3, 4, 5, 6, 7, 8, 9, 10, 11, 12, 13, 14] rfl [0, 1] rfl 0 2 rfl rfl L_496 L_497 L_499 L_500 L_86 L_501 rfl k_Cu_atSign ⟨(by show _ ≤ fr0 + 8; omega), (by show _ ≤ lo0 + 323; omega)⟩ hl.1 ⟨Nat.le_trans (Nat.le_add_right _ _) hcl, Nat.le_trans (Nat.le_add_right _ _) hsl⟩ (Nat.le_of_ble_eq_true rfl) d_Pa_variables_101 rfl ?_
            refine lv_istore (lv' := [(4, .int (f_Cu_atSign st_12 68)), (6, .int r_7), (0, .ref hp), (1, .int depth), (2, .int inn), (3, .int r_1), (5, .int x5)]) hx hb d_Pa_variables_104 hl (by decide) rfl (fun ls hl => ?_)
            refine lv_iinc (v := (x5 + 1)) (lv' := [(5, .int (x5 + 1)), (4, .int (f_Cu_atSign st_12 68)), (6, .int r_7), (0, .ref hp), (1, .int depth), (2, .int inn), (3, .int r_1)]) hx hb d_Pa_variables_106 hl (k := 6) rfl rfl (by decide) rfl (fun ls hl => ?_)
            refine lv_goto (tgt := 20) hx hb d_Pa_variables_109 (by decide) ?_
            exact ih_2 (f_Cu_atSign st_12 68) (x5 + 1) ad_12 st_12 ok_12 _ _ ls _ _ hP hD hS (lv_sub hl [3, 4, 5, 6, 1, 0] rfl) hcl hsl hL_2
          · rw [if_neg c_11] at hL_2
            refine lv_aload_n hx hb d_Pa_variables_80 rfl (lv_at hl 1 rfl) ?_
            refine lv_iconst (v := 0) hx hb d_Pa_variables_81 (by decide) ?_
            refine lv_iload_n hx hb d_Pa_variables_82 rfl (lv_at hl 2 rfl) ?_
            refine lv_iconst (v := 1) hx hb d_Pa_variables_83 (by decide) ?_
            refine lv_iadd hx hb d_Pa_variables_84 ?_
            refine lv_iload_n hx hb d_Pa_variables_85 rfl (lv_at hl 3 rfl) ?_
            refine mx_Vv (As := [.int 0, .int (depth + 1), .int inn]) (rest := []) ⟨hx, hb, hml, hown, hts0⟩ (hRE hc ad_10 st_10 ok_10 _ 0 (depth + 1) inn (fun z => hn_2 (hL_2.trans (bnd_n z)))) hP hD hK hS hA hC hZ hnt hlocks L_569 L_571 L_12 L_87 L_572 k_Pa_expression ⟨(by show _ ≤ fr0 + 8; omega), (by show _ ≤ lo0 + 323; omega)⟩ rfl rfl hl.1 (Nat.le_of_ble_eq_true rfl) d_Pa_variables_86 rfl (fun q z => hX_2 q (hL_2.trans (bnd_l z))) hcl hsl (fun ad_13 st_13 H locs w_13 ok_13 e1_13 e2_13 hP hD hS => ?_)
            have hcl := cl_next hcl e1_13
            have hsl := cl_next hsl e2_13
            rw [bnd_r w_13] at hL_2
            refine lv_aload_n hx hb d_Pa_variables_89 rfl (lv_at hl 1 rfl) ?_
            refine va_get (D := (dC, dI)) (ci := 2) (v := .ref ht) (C := R_Pa) (T := T_Pa) (N := 7) hx hb hts u_Pa hown hK hP 0 rfl rfl 0 (by decide) (hts _ L_208) (fun _ h9 => h9) rfl d_Pa_variables_90 ?_
            refine lv_iload hx hb d_Pa_variables_93 (lv_at hl 0 rfl) ?_
            refine pT_v (g := (p_close st_13 r_7)) (st := st_13) (As := [.int r_7]) (rest := []) ⟨hx, hb, hml, hown, hts0⟩ (m_Tr_close l dC dI cI cZ sa rk ht ad_13 (sTr st_13) ok_13.2.1 _ r_7) hP hD hK hS hA hC hZ L_582 L_583 L_584 L_85 L_585 ⟨rfl, k_Tr_close⟩ ⟨(by show _ ≤ fr0 + 8; omega), (by show _ ≤ lo0 + 323; omega)⟩ rfl rfl hl.1 (Nat.le_of_ble_eq_true rfl) d_Pa_variables_95 rfl hcl hsl (Nat.zero_le _) (Nat.zero_le _) ok_13 (t_close_ok r_7 ok_13.2.1) rfl (fun ad_14 st_14 H locs w_14 ok_14 e1_14 e2_14 hP hD hS => ?_)
            have hcl := cl_next hcl e1_14
            have hsl := cl_next hsl e2_14
            rw [bnd_r w_14] at hL_2
            refine lv_aload_n hx hb d_Pa_variables_98 rfl (lv_at hl 1 rfl) ?_
            refine lv_bipush (v := 68) hx hb d_Pa_variables_99 (by decide) ?_
            refine rd_U (xm := ⟨"SyntaxTree$Parser", "atSign", "(I)Z"⟩) (owner := R_Cu) (v := (f_Cu_atSign st_14 68)) (As := [.int 68]) (rest := []) ⟨hx, hb, hml, hown, hts0⟩ (m_Cu_atSign l dC dI cI cZ hp hc h a1 a2 a3 a4 ht ad_14.1 ad_14.2.1 ad_14.2.2.1 ad_14.2.2.2 hq n1 n2 st_14 ok_14 68) hP hK [0, 1, 2, 3, 4, 5, 6, 7, 8, 9, 10, 11, 12, 13, 14] rfl [0, 1] rfl 0 2 rfl rfl L_496 L_497 L_499 L_500 L_86 L_501 rfl k_Cu_atSign ⟨(by show _ ≤ fr0 + 8; omega), (by show _ ≤ lo0 + 323; omega)⟩ hl.1 ⟨Nat.le_trans (Nat.le_add_right _ _) hcl, Nat.le_trans (Nat.le_add_right _ _) hsl⟩ (Nat.le_of_ble_eq_true rfl) d_Pa_variables_101 rfl ?_
            refine lv_istore (lv' := [(4, .int (f_Cu_atSign st_14 68)), (6, .int r_7), (0, .ref hp), (1, .int depth), (2, .int inn), (3, .int r_1), (5, .int x5)]) hx hb d_Pa_variables_104 hl (by decide) rfl (fun ls hl => ?_)
            refine lv_iinc (v := (x5 + 1)) (lv' := [(5, .int (x5 + 1)), (4, .int (f_Cu_atSign st_14 68)), (6, .int r_7), (0, .ref hp), (1, .int depth), (2, .int inn), (3, .int r_1)]) hx hb d_Pa_variables_106 hl (k := 6) rfl rfl (by decide) rfl (fun ls hl => ?_)
            refine lv_goto (tgt := 20) hx hb d_Pa_variables_109 (by decide) ?_
            exact ih_2 (f_Cu_atSign st_14 68) (x5 + 1) ad_14 st_14 ok_14 _ _ ls _ _ hP hD hS (lv_sub hl [3, 4, 5, 6, 1, 0] rfl) hcl hsl hL_2
  exact lp_2 5000 1 0 ad_1 st_1 ok_1 _ _ ls _ _ hP hD hS (lv_sub hl [3, 4, 5, 2, 1, 0] rfl) hcl hsl hx_2.symm
def f_Pa_array_L27 (E : Int32 → Int32 → Int32 → ST → Rz) (S : Int32 → Int32 → ST → Rz) (F : Int32 → Int32 → ST → Rz) (depth : Int32) : Nat → Int32 → ST → Rz
  | 0, _, _ => none
  | fu_2 + 1, x3, sx_2 => (if 1000 < x3 then (some (.inr (0, sx_2))) else (bnd (f_Cu_accept sx_2 63) (fun r_5 st_5 => (if r_5 = 0 then (if (f_Cu_atSign st_5 68) = 0 then (bnd (E 0 (depth + 1) 1 st_5) (fun _ st_9 => (if (f_Cu_atSign st_9 63) = 0 then (bnd (f_Cu_expect st_9 68) (fun _ st_11 => (f_Pa_array_L27 E S F depth fu_2 (x3 + 1) st_11))) else (f_Pa_array_L27 E S F depth fu_2 (x3 + 1) st_9)))) else (bnd (p_open st_5 59 0 (sAt st_5)) (fun r_12 st_12 => (if (f_Cu_atSign st_12 63) = 0 then (bnd (f_Cu_expect st_12 68) (fun _ st_14 => (f_Pa_array_L27 E S F depth fu_2 (x3 + 1) st_14))) else (f_Pa_array_L27 E S F depth fu_2 (x3 + 1) st_12))))) else (some (.inr (0, st_5)))))))
def f_Pa_array (E : Int32 → Int32 → Int32 → ST → Rz) (S : Int32 → Int32 → ST → Rz) (F : Int32 → Int32 → ST → Rz) (st : ST) (depth : Int32) : Rz := (bnd (p_open st 35 0 (sAt st)) (fun r_1 st_1 => (bnd (f_Pa_array_L27 E S F depth 5000 0 (setAt st_1 ((sAt st_1) + 1))) (fun _ sx_2 => (bnd (p_close sx_2 r_1) (fun _ st_4 => (some (.inr (0, st_4)))))))))
set_option maxRecDepth 100000 in
set_option maxHeartbeats 4000000 in
theorem m_Pa_array (l : Launch) (hlt : l.stackTraces = false) (dC : Nat → ClassId) (dI : Nat → Nat → Nat) (cI cZ : ClassId) (sa rk hp h a1 a2 a3 a4 ht hq n1 n2 : Nat) (fr0 lo0 : Nat) (E : Int32 → Int32 → Int32 → ST → Rz) (S : Int32 → Int32 → ST → Rz) (F : Int32 → Int32 → ST → Rz) (hRE : ∀ (hc : Nat) (ad : AD) (st : ST), okSt st → ∀ (sz : Nat) (level depth inn : Int32), E level depth inn st ≠ none → cPv l y_Pa_expression c_Pa_expression 6 fr0 lo0 (dC, dI) cI cZ sa rk hp hc h a1 a2 a3 a4 ht hq n1 n2 ad st sz [.ref hp, .int level, .int depth, .int inn] (E level depth inn st)) (hRS : ∀ (hc : Nat) (ad : AD) (st : ST), okSt st → ∀ (sz : Nat) (depth first : Int32), S depth first st ≠ none → cPv l y_Pa_statement c_Pa_statement 4 fr0 lo0 (dC, dI) cI cZ sa rk hp hc h a1 a2 a3 a4 ht hq n1 n2 ad st sz [.ref hp, .int depth, .int first] (S depth first st)) (hRF : ∀ (hc : Nat) (ad : AD) (st : ST), okSt st → ∀ (sz : Nat) (form depth : Int32), F form depth st ≠ none → cPv l y_Pa_function c_Pa_function 10 fr0 lo0 (dC, dI) cI cZ sa rk hp hc h a1 a2 a3 a4 ht hq n1 n2 ad st sz [.ref hp, .int form, .int depth] (F form depth st)) (hc : Nat) (ad : AD) (st : ST) (hst : okSt st) (sz : Nat) (depth : Int32) (hg : f_Pa_array E S F st depth ≠ none) : cPv l y_Pa_array c_Pa_array 4 (fr0 + 8) (lo0 + 323) (dC, dI) cI cZ sa rk hp hc h a1 a2 a3 a4 ht hq n1 n2 ad st sz [.ref hp, .int depth] (f_Pa_array E S F st depth) := by
  refine vx_ofW (cc := c_Pa_array) (maxL := 4) (ret := none) (by decide) rfl ?_
  intro p e s m args below meth c s₁ B hml hnt hv
  obtain ⟨rfl, hsz, hP, hK, hD0, hC, hZ⟩ := hv
  have hx := B.exec
  have hb := B.bytes
  have hr := B.returns
  have hts0 := atoms_spec (ws := wy y_Pa_array c_Pa_array 4 none) B.pre
  have hts := htsL hts0
  have hown : s.vm.findClass R_Pa = some m.cls := findClass_of_methodNamed B.named
  have hlocks := B.notSynchronized
  subst hsz
  have hD := hD0.self (sz := s.heap.size)
  generalize hAe : va_A (wQ cI cZ hp hc h a1 a2 a3 a4 ht hq n1 n2 (ad, st)) s.heap.size = A at hD hZ ⊢
  have hA : ∀ q : Nat, s.heap.size ≤ q → A q := fun q h => by rw [← hAe]; exact Or.inr h
  have hS : va_S A s.heap s.heap [] := va_S.rf
  have hcl : 0 + bC st ≤ bC st := Nat.le_of_eq (Nat.zero_add _)
  have hsl : 0 + bS st ≤ bS st := Nat.le_of_eq (Nat.zero_add _)
  have hl := lv_entry ([.ref hp, .int depth]) (n := 4) (Nat.le_of_ble_eq_true rfl)
  rw [lg_entry_eq]
  generalize (lg_sl ([.ref hp, .int depth]) ++ List.replicate (4 - (lg_sl ([.ref hp, .int depth])).length) Slot.unset).toArray = ls at hl ⊢
  have hl : lv_has ls 4 [(0, .ref hp), (1, .int depth)] := hl
  refine lv_aload_n hx hb d_Pa_array_0 rfl (lv_at hl 0 rfl) ?_
  refine va_get (D := (dC, dI)) (ci := 2) (v := .ref ht) (C := R_Pa) (T := T_Pa) (N := 7) hx hb hts u_Pa hown hK hP 0 rfl rfl 0 (by decide) (hts _ L_208) (fun _ h9 => h9) rfl d_Pa_array_1 ?_
  refine lv_bipush (v := 35) hx hb d_Pa_array_4 (by decide) ?_
  refine lv_iconst (v := 0) hx hb d_Pa_array_6 (by decide) ?_
  refine lv_aload_n hx hb d_Pa_array_7 rfl (lv_at hl 0 rfl) ?_
  refine va_get (D := (dC, dI)) (ci := 2) (v := .int (sAt st)) (C := R_Pa) (T := T_Pa) (N := 7) hx hb hts u_Pa hown hK hP 0 rfl rfl 4 (by decide) (hts _ L_215) (fun x9 h9 => u_same (hts _ L_216) x9 h9) rfl d_Pa_array_8 ?_
  have hn_1 : (p_open st 35 0 (sAt st)) ≠ none := (fun z => hg (by unfold f_Pa_array; rw [bnd_n z]))
  refine pT_i (g := (p_open st 35 0 (sAt st))) (st := st) (As := [.int 35, .int 0, .int (sAt st)]) (rest := []) ⟨hx, hb, hml, hown, hts0⟩ (m_Tr_open l dC dI cI cZ sa rk ht ad (sTr st) hst.2.1 _ 35 0 (sAt st) (p_open_c hn_1).1 (p_open_c hn_1).2.1) hP hD hK hS hA hC hZ L_416 L_417 L_418 L_85 L_419 ⟨rfl, k_Tr_open⟩ ⟨(by show _ ≤ fr0 + 8; omega), (by show _ ≤ lo0 + 323; omega)⟩ rfl rfl hl.1 (Nat.le_of_ble_eq_true rfl) d_Pa_array_11 rfl hcl hsl (p_open_c hn_1).2.2.1 (p_open_c hn_1).2.2.2 hst (t_open_ok 35 0 (sAt st) hst.2.1 (p_open_c hn_1).1 (p_open_c hn_1).2.1) (p_open_e hn_1) (fun r_1 ad_1 st_1 H locs w_1 ok_1 e1_1 e2_1 hP hD hS => ?_)
  have hcl := cl_next hcl e1_1
  have hsl := cl_next hsl e2_1
  refine lv_istore_n (lv' := [(2, .int r_1), (0, .ref hp), (1, .int depth)]) hx hb d_Pa_array_14 rfl hl (by decide) rfl (fun ls hl => ?_)
  refine lv_aload_n hx hb d_Pa_array_15 rfl (lv_at hl 1 rfl) ?_
  refine lv_dup hx hb d_Pa_array_16 rfl ?_
  refine va_get (D := (dC, dI)) (ci := 2) (v := .int (sAt st_1)) (C := R_Pa) (T := T_Pa) (N := 7) hx hb hts u_Pa hown hK hP 0 rfl rfl 4 (by decide) (hts _ L_215) (fun x9 h9 => u_same (hts _ L_216) x9 h9) rfl d_Pa_array_17 ?_
  refine lv_iconst (v := 1) hx hb d_Pa_array_20 (by decide) ?_
  refine lv_iadd hx hb d_Pa_array_21 ?_
  refine va_put (D := (dC, dI)) (ci := 2) (v := .int ((sAt st_1) + 1)) (ty := .int) (C := R_Pa) (T := T_Pa) (N := 7) hx hb hts u_Pa ty_Pa tk_Pa nm_Pa hown hK hP hD hS 0 rfl rfl 4 (by decide) (hts _ L_215) (fun x9 h9 => u_same (hts _ L_216) x9 h9) rfl (by decide +kernel) rfl rfl (Nat.le_of_ble_eq_true rfl) d_Pa_array_22 (fun H locs hP hD hS => ?_)
  have hP : va_P (dC, dI) cls (wQ cI cZ hp hc h a1 a2 a3 a4 ht hq n1 n2 (ad_1, (setAt st_1 ((sAt st_1) + 1)))) H := hP
  have hD : va_D A (wQ cI cZ hp hc h a1 a2 a3 a4 ht hq n1 n2 (ad_1, (setAt st_1 ((sAt st_1) + 1)))) := hD
  refine lv_iconst (v := 0) hx hb d_Pa_array_25 (by decide) ?_
  refine lv_istore_n (lv' := [(3, .int 0), (2, .int r_1), (0, .ref hp), (1, .int depth)]) hx hb d_Pa_array_26 rfl hl (by decide) rfl (fun ls hl => ?_)
  obtain ⟨x_2, hx_2⟩ : ∃ z, f_Pa_array_L27 E S F depth 5000 0 (setAt st_1 ((sAt st_1) + 1)) = z := ⟨_, rfl⟩
  have hn_2 : x_2 ≠ none := (fun z => hg (by unfold f_Pa_array; rw [bnd_r w_1, bnd_n (hx_2.trans z)]))
  have hX_2 : ∀ q, x_2 = some (.inl q) → (f_Pa_array E S F st depth) = some (.inl q) := (fun q z => by unfold f_Pa_array; rw [bnd_r w_1, bnd_l (hx_2.trans z)])
  have lp_2 : ∀ (fu : Nat) (x3 : Int32) (ax_2 : AD) (sx_2 : ST) (okx_2 : okSt sx_2) (H : Heap) (locs : List Loc) (ls : Array Slot) (cells slots : Nat), va_P (dC, dI) cls (wQ cI cZ hp hc h a1 a2 a3 a4 ht hq n1 n2 (ax_2, sx_2)) H → va_D A (wQ cI cZ hp hc h a1 a2 a3 a4 ht hq n1 n2 (ax_2, sx_2)) → va_S A s.heap H locs → lv_has ls 4 [(0, .ref hp), (1, .int depth), (2, .int r_1), (3, .int x3)] → cells + bC sx_2 ≤ bC st → slots + bS sx_2 ≤ bS st → x_2 = f_Pa_array_L27 E S F depth fu x3 sx_2 → W p l e (headSpec (wy y_Pa_array c_Pa_array 4 none) { frames := (fr0 + 8), cells := bC st, slots := bS st, locals := (lo0 + 323) }).room s m [.ref hp, .int depth].toArray below meth c H locs cells slots (vx_MQ below (va_Qv (poN (f_Pa_array E S F st depth) st 0) (wB (dC, dI) cI cZ A (wQ cI cZ hp hc h a1 a2 a3 a4 ht hq n1 n2)) A) (xP (dC, dI) cI cZ hp h a1 a2 a3 a4 ht hq n1 n2 (f_Pa_array E S F st depth) st A) [.ref hp, .int depth].toArray s (mcO st (f_Pa_array E S F st depth)) (msO st (f_Pa_array E S F st depth)) A) (F0 m 27 ls []) := by
    intro fu
    induction fu with
    | zero => intro x3 ax_2 sx_2 okx_2 H locs ls cells slots hP hD hS hl hcl hsl hL_2; exact absurd (hL_2.trans rfl) hn_2
    | succ fu_2 ih_2 =>
      intro x3 ax_2 sx_2 okx_2 H locs ls cells slots hP hD hS hl hcl hsl hL_2
      rw [f_Pa_array_L27] at hL_2
      refine lv_iload_n hx hb d_Pa_array_27 rfl (lv_at hl 3 rfl) ?_
      refine lv_sipush (v := 1000) hx hb d_Pa_array_28 (by decide) ?_
      refine lv_icmp_gt (tgt := 100) hx hb d_Pa_array_31 (by decide) (fun c_3 => ?_) (fun c_3 => ?_)
      · rw [if_pos c_3] at hL_2
        have we_2 : f_Pa_array_L27 E S F depth 5000 0 (setAt st_1 ((sAt st_1) + 1)) = some (.inr (0, sx_2)) := hx_2.trans hL_2
        have hl := lv_sub hl (l' := [(0, .ref hp), (1, .int depth), (2, .int r_1)]) [0, 1, 2] rfl
        refine lv_aload_n hx hb d_Pa_array_100 rfl (lv_at hl 0 rfl) ?_
        refine va_get (D := (dC, dI)) (ci := 2) (v := .ref ht) (C := R_Pa) (T := T_Pa) (N := 7) hx hb hts u_Pa hown hK hP 0 rfl rfl 0 (by decide) (hts _ L_208) (fun _ h9 => h9) rfl d_Pa_array_101 ?_
        refine lv_iload_n hx hb d_Pa_array_104 rfl (lv_at hl 2 rfl) ?_
        refine pT_v (g := (p_close sx_2 r_1)) (st := sx_2) (As := [.int r_1]) (rest := []) ⟨hx, hb, hml, hown, hts0⟩ (m_Tr_close l dC dI cI cZ sa rk ht ax_2 (sTr sx_2) okx_2.2.1 _ r_1) hP hD hK hS hA hC hZ L_582 L_583 L_584 L_85 L_585 ⟨rfl, k_Tr_close⟩ ⟨(by show _ ≤ fr0 + 8; omega), (by show _ ≤ lo0 + 323; omega)⟩ rfl rfl hl.1 (Nat.le_of_ble_eq_true rfl) d_Pa_array_105 rfl hcl hsl (Nat.zero_le _) (Nat.zero_le _) okx_2 (t_close_ok r_1 okx_2.2.1) rfl (fun ad_4 st_4 H locs w_4 ok_4 e1_4 e2_4 hP hD hS => ?_)
        have hcl := cl_next hcl e1_4
        have hsl := cl_next hsl e2_4
        exact mx_vret (stF := st_4) hx hb hr hlocks hK hP hD hS hcl hsl (by unfold f_Pa_array; rw [bnd_r w_1, bnd_r we_2, bnd_r w_4]) ok_4 d_Pa_array_108
      · rw [if_neg c_3] at hL_2
        refine lv_aload_n hx hb d_Pa_array_34 rfl (lv_at hl 0 rfl) ?_
        refine lv_bipush (v := 63) hx hb d_Pa_array_35 (by decide) ?_
        refine mx_Ui (xm := ⟨"SyntaxTree$Parser", "accept", "(I)Z"⟩) (owner := R_Cu) (As := [.int 63]) (rest := []) ⟨hx, hb, hml, hown, hts0⟩ (m_Cu_accept l hlt dC dI cI cZ sa rk hp hc h a1 a2 a3 a4 ht hq n1 n2 ax_2 sx_2 okx_2 _ 63 (fun z => hn_2 (hL_2.trans (bnd_n z)))) hP hD hK hS hA hC hZ hnt hlocks L_556 L_557 L_559 L_547 L_86 L_550 rfl k_Cu_accept ⟨(by show _ ≤ fr0 + 8; omega), (by show _ ≤ lo0 + 323; omega)⟩ rfl rfl hl.1 (Nat.le_of_ble_eq_true rfl) d_Pa_array_37 rfl (fun q z => hX_2 q (hL_2.trans (bnd_l z))) hcl hsl (fun r_5 ad_5 st_5 H locs w_5 ok_5 e1_5 e2_5 hP hD hS => ?_)
        have hcl := cl_next hcl e1_5
        have hsl := cl_next hsl e2_5
        rw [bnd_r w_5] at hL_2
        refine lv_if_ne (tgt := 100) hx hb d_Pa_array_40 (by decide) (fun c_6 => ?_) (fun c_6 => ?_)
        · rw [if_neg c_6] at hL_2
          have we_2 : f_Pa_array_L27 E S F depth 5000 0 (setAt st_1 ((sAt st_1) + 1)) = some (.inr (0, st_5)) := hx_2.trans hL_2
          have hl := lv_sub hl (l' := [(0, .ref hp), (1, .int depth), (2, .int r_1)]) [0, 1, 2] rfl
          refine lv_aload_n hx hb d_Pa_array_100 rfl (lv_at hl 0 rfl) ?_
          refine va_get (D := (dC, dI)) (ci := 2) (v := .ref ht) (C := R_Pa) (T := T_Pa) (N := 7) hx hb hts u_Pa hown hK hP 0 rfl rfl 0 (by decide) (hts _ L_208) (fun _ h9 => h9) rfl d_Pa_array_101 ?_
          refine lv_iload_n hx hb d_Pa_array_104 rfl (lv_at hl 2 rfl) ?_
          refine pT_v (g := (p_close st_5 r_1)) (st := st_5) (As := [.int r_1]) (rest := []) ⟨hx, hb, hml, hown, hts0⟩ (m_Tr_close l dC dI cI cZ sa rk ht ad_5 (sTr st_5) ok_5.2.1 _ r_1) hP hD hK hS hA hC hZ L_582 L_583 L_584 L_85 L_585 ⟨rfl, k_Tr_close⟩ ⟨(by show _ ≤ fr0 + 8; omega), (by show _ ≤ lo0 + 323; omega)⟩ rfl rfl hl.1 (Nat.le_of_ble_eq_true rfl) d_Pa_array_105 rfl hcl hsl (Nat.zero_le _) (Nat.zero_le _) ok_5 (t_close_ok r_1 ok_5.2.1) rfl (fun ad_7 st_7 H locs w_7 ok_7 e1_7 e2_7 hP hD hS => ?_)
          have hcl := cl_next hcl e1_7
          have hsl := cl_next hsl e2_7
          exact mx_vret (stF := st_7) hx hb hr hlocks hK hP hD hS hcl hsl (by unfold f_Pa_array; rw [bnd_r w_1, bnd_r we_2, bnd_r w_7]) ok_7 d_Pa_array_108
        · rw [if_pos c_6] at hL_2
          refine lv_aload_n hx hb d_Pa_array_43 rfl (lv_at hl 0 rfl) ?_
          refine lv_bipush (v := 68) hx hb d_Pa_array_44 (by decide) ?_
          refine rd_U (xm := ⟨"SyntaxTree$Parser", "atSign", "(I)Z"⟩) (owner := R_Cu) (v := (f_Cu_atSign st_5 68)) (As := [.int 68]) (rest := []) ⟨hx, hb, hml, hown, hts0⟩ (m_Cu_atSign l dC dI cI cZ hp hc h a1 a2 a3 a4 ht ad_5.1 ad_5.2.1 ad_5.2.2.1 ad_5.2.2.2 hq n1 n2 st_5 ok_5 68) hP hK [0, 1, 2, 3, 4, 5, 6, 7, 8, 9, 10, 11, 12, 13, 14] rfl [0, 1] rfl 0 2 rfl rfl L_496 L_497 L_499 L_500 L_86 L_501 rfl k_Cu_atSign ⟨(by show _ ≤ fr0 + 8; omega), (by show _ ≤ lo0 + 323; omega)⟩ hl.1 ⟨Nat.le_trans (Nat.le_add_right _ _) hcl, Nat.le_trans (Nat.le_add_right _ _) hsl⟩ (Nat.le_of_ble_eq_true rfl) d_Pa_array_46 rfl ?_
          refine lv_if_eq (tgt := 70) hx hb d_Pa_array_49 (by decide) (fun c_8 => ?_) (fun c_8 => ?_)
          · rw [if_pos c_8] at hL_2
            refine lv_aload_n hx hb d_Pa_array_70 rfl (lv_at hl 0 rfl) ?_
            refine lv_iconst (v := 0) hx hb d_Pa_array_71 (by decide) ?_
            refine lv_iload_n hx hb d_Pa_array_72 rfl (lv_at hl 1 rfl) ?_
            refine lv_iconst (v := 1) hx hb d_Pa_array_73 (by decide) ?_
            refine lv_iadd hx hb d_Pa_array_74 ?_
            refine lv_iconst (v := 1) hx hb d_Pa_array_75 (by decide) ?_
            refine mx_Vv (As := [.int 0, .int (depth + 1), .int 1]) (rest := []) ⟨hx, hb, hml, hown, hts0⟩ (hRE hc ad_5 st_5 ok_5 _ 0 (depth + 1) 1 (fun z => hn_2 (hL_2.trans (bnd_n z)))) hP hD hK hS hA hC hZ hnt hlocks L_569 L_571 L_12 L_87 L_572 k_Pa_expression ⟨(by show _ ≤ fr0 + 8; omega), (by show _ ≤ lo0 + 323; omega)⟩ rfl rfl hl.1 (Nat.le_of_ble_eq_true rfl) d_Pa_array_76 rfl (fun q z => hX_2 q (hL_2.trans (bnd_l z))) hcl hsl (fun ad_9 st_9 H locs w_9 ok_9 e1_9 e2_9 hP hD hS => ?_)
            have hcl := cl_next hcl e1_9
            have hsl := cl_next hsl e2_9
            rw [bnd_r w_9] at hL_2
            refine lv_aload_n hx hb d_Pa_array_79 rfl (lv_at hl 0 rfl) ?_
            refine lv_bipush (v := 63) hx hb d_Pa_array_80 (by decide) ?_
            refine rd_U (xm := ⟨"SyntaxTree$Parser", "atSign", "(I)Z"⟩) (owner := R_Cu) (v := (f_Cu_atSign st_9 63)) (As := [.int 63]) (rest := []) ⟨hx, hb, hml, hown, hts0⟩ (m_Cu_atSign l dC dI cI cZ hp hc h a1 a2 a3 a4 ht ad_9.1 ad_9.2.1 ad_9.2.2.1 ad_9.2.2.2 hq n1 n2 st_9 ok_9 63) hP hK [0, 1, 2, 3, 4, 5, 6, 7, 8, 9, 10, 11, 12, 13, 14] rfl [0, 1] rfl 0 2 rfl rfl L_496 L_497 L_499 L_500 L_86 L_501 rfl k_Cu_atSign ⟨(by show _ ≤ fr0 + 8; omega), (by show _ ≤ lo0 + 323; omega)⟩ hl.1 ⟨Nat.le_trans (Nat.le_add_right _ _) hcl, Nat.le_trans (Nat.le_add_right _ _) hsl⟩ (Nat.le_of_ble_eq_true rfl) d_Pa_array_82 rfl ?_
            refine lv_if_ne (tgt := 94) hx hb d_Pa_array_85 (by decide) (fun c_10 => ?_) (fun c_10 => ?_)
            · rw [if_neg c_10] at hL_2
              refine lv_iinc (v := (x3 + 1)) (lv' := [(3, .int (x3 + 1)), (0, .ref hp), (1, .int depth), (2, .int r_1)]) hx hb d_Pa_array_94 hl (k := 3) rfl rfl (by decide) rfl (fun ls hl => ?_)
              refine lv_goto (tgt := 27) hx hb d_Pa_array_97 (by decide) ?_
              exact ih_2 (x3 + 1) ad_9 st_9 ok_9 _ _ ls _ _ hP hD hS (lv_sub hl [1, 2, 3, 0] rfl) hcl hsl hL_2
            · rw [if_pos c_10] at hL_2
              refine lv_aload_n hx hb d_Pa_array_88 rfl (lv_at hl 0 rfl) ?_
              refine lv_bipush (v := 68) hx hb d_Pa_array_89 (by decide) ?_
              refine mx_Uv (xm := ⟨"SyntaxTree$Parser", "expect", "(I)V"⟩) (owner := R_Cu) (As := [.int 68]) (rest := []) ⟨hx, hb, hml, hown, hts0⟩ (m_Cu_expect l hlt dC dI cI cZ sa rk hp hc h a1 a2 a3 a4 ht hq n1 n2 ad_9 st_9 ok_9 _ 68 (fun z => hn_2 (hL_2.trans (bnd_n z)))) hP hD hK hS hA hC hZ hnt hlocks L_510 L_511 L_513 L_514 L_86 L_515 rfl k_Cu_expect ⟨(by show _ ≤ fr0 + 8; omega), (by show _ ≤ lo0 + 323; omega)⟩ rfl rfl hl.1 (Nat.le_of_ble_eq_true rfl) d_Pa_array_91 rfl (fun q z => hX_2 q (hL_2.trans (bnd_l z))) hcl hsl (fun ad_11 st_11 H locs w_11 ok_11 e1_11 e2_11 hP hD hS => ?_)
              have hcl := cl_next hcl e1_11
              have hsl := cl_next hsl e2_11
              rw [bnd_r w_11] at hL_2
              refine lv_iinc (v := (x3 + 1)) (lv' := [(3, .int (x3 + 1)), (0, .ref hp), (1, .int depth), (2, .int r_1)]) hx hb d_Pa_array_94 hl (k := 3) rfl rfl (by decide) rfl (fun ls hl => ?_)
              refine lv_goto (tgt := 27) hx hb d_Pa_array_97 (by decide) ?_
              exact ih_2 (x3 + 1) ad_11 st_11 ok_11 _ _ ls _ _ hP hD hS (lv_sub hl [1, 2, 3, 0] rfl) hcl hsl hL_2
          · rw [if_neg c_8] at hL_2
            refine lv_aload_n hx hb d_Pa_array_52 rfl (lv_at hl 0 rfl) ?_
            refine va_get (D := (dC, dI)) (ci := 2) (v := .ref ht) (C := R_Pa) (T := T_Pa) (N := 7) hx hb hts u_Pa hown hK hP 0 rfl rfl 0 (by decide) (hts _ L_208) (fun _ h9 => h9) rfl d_Pa_array_53 ?_
            refine lv_bipush (v := 59) hx hb d_Pa_array_56 (by decide) ?_
            refine lv_iconst (v := 0) hx hb d_Pa_array_58 (by decide) ?_
            refine lv_aload_n hx hb d_Pa_array_59 rfl (lv_at hl 0 rfl) ?_
            refine va_get (D := (dC, dI)) (ci := 2) (v := .int (sAt st_5)) (C := R_Pa) (T := T_Pa) (N := 7) hx hb hts u_Pa hown hK hP 0 rfl rfl 4 (by decide) (hts _ L_215) (fun x9 h9 => u_same (hts _ L_216) x9 h9) rfl d_Pa_array_60 ?_
            have hn_12 : (p_open st_5 59 0 (sAt st_5)) ≠ none := (fun z => hn_2 (hL_2.trans (bnd_n z)))
            refine pT_i (g := (p_open st_5 59 0 (sAt st_5))) (st := st_5) (As := [.int 59, .int 0, .int (sAt st_5)]) (rest := []) ⟨hx, hb, hml, hown, hts0⟩ (m_Tr_open l dC dI cI cZ sa rk ht ad_5 (sTr st_5) ok_5.2.1 _ 59 0 (sAt st_5) (p_open_c hn_12).1 (p_open_c hn_12).2.1) hP hD hK hS hA hC hZ L_416 L_417 L_418 L_85 L_419 ⟨rfl, k_Tr_open⟩ ⟨(by show _ ≤ fr0 + 8; omega), (by show _ ≤ lo0 + 323; omega)⟩ rfl rfl hl.1 (Nat.le_of_ble_eq_true rfl) d_Pa_array_63 rfl hcl hsl (p_open_c hn_12).2.2.1 (p_open_c hn_12).2.2.2 ok_5 (t_open_ok 59 0 (sAt st_5) ok_5.2.1 (p_open_c hn_12).1 (p_open_c hn_12).2.1) (p_open_e hn_12) (fun r_12 ad_12 st_12 H locs w_12 ok_12 e1_12 e2_12 hP hD hS => ?_)
            have hcl := cl_next hcl e1_12
            have hsl := cl_next hsl e2_12
            rw [bnd_r w_12] at hL_2
            refine lv_pop hx hb d_Pa_array_66 rfl ?_
            refine lv_goto (tgt := 79) hx hb d_Pa_array_67 (by decide) ?_
            refine lv_aload_n hx hb d_Pa_array_79 rfl (lv_at hl 0 rfl) ?_
            refine lv_bipush (v := 63) hx hb d_Pa_array_80 (by decide) ?_
            refine rd_U (xm := ⟨"SyntaxTree$Parser", "atSign", "(I)Z"⟩) (owner := R_Cu) (v := (f_Cu_atSign st_12 63)) (As := [.int 63]) (rest := []) ⟨hx, hb, hml, hown, hts0⟩ (m_Cu_atSign l dC dI cI cZ hp hc h a1 a2 a3 a4 ht ad_12.1 ad_12.2.1 ad_12.2.2.1 ad_12.2.2.2 hq n1 n2 st_12 ok_12 63) hP hK [0, 1, 2, 3, 4, 5, 6, 7, 8, 9, 10, 11, 12, 13, 14] rfl [0, 1] rfl 0 2 rfl rfl L_496 L_497 L_499 L_500 L_86 L_501 rfl k_Cu_atSign ⟨(by show _ ≤ fr0 + 8; omega), (by show _ ≤ lo0 + 323; omega)⟩ hl.1 ⟨Nat.le_trans (Nat.le_add_right _ _) hcl, Nat.le_trans (Nat.le_add_right _ _) hsl⟩ (Nat.le_of_ble_eq_true rfl) d_Pa_array_82 rfl ?_
            refine lv_if_ne (tgt := 94) hx hb d_Pa_array_85 (by decide) (fun c_13 => ?_) (fun c_13 => ?_)
            · rw [if_neg c_13] at hL_2
              refine lv_iinc (v := (x3 + 1)) (lv' := [(3, .int (x3 + 1)), (0, .ref hp), (1, .int depth), (2, .int r_1)]) hx hb d_Pa_array_94 hl (k := 3) rfl rfl (by decide) rfl (fun ls hl => ?_)
              refine lv_goto (tgt := 27) hx hb d_Pa_array_97 (by decide) ?_
              exact ih_2 (x3 + 1) ad_12 st_12 ok_12 _ _ ls _ _ hP hD hS (lv_sub hl [1, 2, 3, 0] rfl) hcl hsl hL_2
            · rw [if_pos c_13] at hL_2
              refine lv_aload_n hx hb d_Pa_array_88 rfl (lv_at hl 0 rfl) ?_
              refine lv_bipush (v := 68) hx hb d_Pa_array_89 (by decide) ?_
              refine mx_Uv (xm := ⟨"SyntaxTree$Parser", "expect", "(I)V"⟩) (owner := R_Cu) (As := [.int 68]) (rest := []) ⟨hx, hb, hml, hown, hts0⟩ (m_Cu_expect l hlt dC dI cI cZ sa rk hp hc h a1 a2 a3 a4 ht hq n1 n2 ad_12 st_12 ok_12 _ 68 (fun z => hn_2 (hL_2.trans (bnd_n z)))) hP hD hK hS hA hC hZ hnt hlocks L_510 L_511 L_513 L_514 L_86 L_515 rfl k_Cu_expect ⟨(by show _ ≤ fr0 + 8; omega), (by show _ ≤ lo0 + 323; omega)⟩ rfl rfl hl.1 (Nat.le_of_ble_eq_true rfl) d_Pa_array_91 rfl (fun q z => hX_2 q (hL_2.trans (bnd_l z))) hcl hsl (fun ad_14 st_14 H locs w_14 ok_14 e1_14 e2_14 hP hD hS => ?_)
              have hcl := cl_next hcl e1_14
              have hsl := cl_next hsl e2_14
              rw [bnd_r w_14] at hL_2
              refine lv_iinc (v := (x3 + 1)) (lv' := [(3, .int (x3 + 1)), (0, .ref hp), (1, .int depth), (2, .int r_1)]) hx hb d_Pa_array_94 hl (k := 3) rfl rfl (by decide) rfl (fun ls hl => ?_)
              refine lv_goto (tgt := 27) hx hb d_Pa_array_97 (by decide) ?_
              exact ih_2 (x3 + 1) ad_14 st_14 ok_14 _ _ ls _ _ hP hD hS (lv_sub hl [1, 2, 3, 0] rfl) hcl hsl hL_2
  exact lp_2 5000 0 ad_1 (setAt st_1 ((sAt st_1) + 1)) (show okSt (setAt st_1 ((sAt st_1) + 1)) from ⟨ok_1.1, ok_1.2.1, ok_1.2.2.1, ok_1.2.2.2⟩) _ _ ls _ _ hP hD hS (lv_sub hl [2, 3, 1, 0] rfl) hcl hsl hx_2.symm
def f_Pa_object_L27 (E : Int32 → Int32 → Int32 → ST → Rz) (S : Int32 → Int32 → ST → Rz) (F : Int32 → Int32 → ST → Rz) (depth : Int32) (e2 : Int32) : Nat → Int32 → ST → Rz
  | 0, _, _ => none
  | fu_2 + 1, x3, sx_2 => (if 1000 < x3 then (some (.inr (0, sx_2))) else (bnd (f_Cu_nextProperty sx_2 x3) (fun r_5 st_5 => (if r_5 = 0 then (some (.inr (0, st_5))) else (bnd (f_Pa_openProperty st_5 e2) (fun r_8 st_8 => (if (f_Tr_kind (sTr st_8) r_8) = 47 then (bnd (E 0 (depth + 1) 1 st_8) (fun _ st_12 => (bnd (p_close st_12 r_8) (fun _ st_13 => (f_Pa_object_L27 E S F depth e2 fu_2 (x3 + 1) st_13))))) else (bnd (F (f_Tr_kind (sTr st_8) r_8) depth st_8) (fun _ st_10 => (bnd (p_close st_10 r_8) (fun _ st_11 => (f_Pa_object_L27 E S F depth e2 fu_2 (x3 + 1) st_11))))))))))))
def f_Pa_object (E : Int32 → Int32 → Int32 → ST → Rz) (S : Int32 → Int32 → ST → Rz) (F : Int32 → Int32 → ST → Rz) (st : ST) (depth : Int32) : Rz := (bnd (p_open st 46 0 (sAt st)) (fun r_1 st_1 => (bnd (f_Pa_object_L27 E S F depth r_1 5000 0 (setAt st_1 ((sAt st_1) + 1))) (fun _ sx_2 => (bnd (p_close sx_2 r_1) (fun _ st_4 => (some (.inr (0, st_4)))))))))
set_option maxRecDepth 100000 in
set_option maxHeartbeats 4000000 in
theorem m_Pa_object (l : Launch) (hlt : l.stackTraces = false) (dC : Nat → ClassId) (dI : Nat → Nat → Nat) (cI cZ : ClassId) (sa rk hp h a1 a2 a3 a4 ht hq n1 n2 : Nat) (fr0 lo0 : Nat) (E : Int32 → Int32 → Int32 → ST → Rz) (S : Int32 → Int32 → ST → Rz) (F : Int32 → Int32 → ST → Rz) (hRE : ∀ (hc : Nat) (ad : AD) (st : ST), okSt st → ∀ (sz : Nat) (level depth inn : Int32), E level depth inn st ≠ none → cPv l y_Pa_expression c_Pa_expression 6 fr0 lo0 (dC, dI) cI cZ sa rk hp hc h a1 a2 a3 a4 ht hq n1 n2 ad st sz [.ref hp, .int level, .int depth, .int inn] (E level depth inn st)) (hRS : ∀ (hc : Nat) (ad : AD) (st : ST), okSt st → ∀ (sz : Nat) (depth first : Int32), S depth first st ≠ none → cPv l y_Pa_statement c_Pa_statement 4 fr0 lo0 (dC, dI) cI cZ sa rk hp hc h a1 a2 a3 a4 ht hq n1 n2 ad st sz [.ref hp, .int depth, .int first] (S depth first st)) (hRF : ∀ (hc : Nat) (ad : AD) (st : ST), okSt st → ∀ (sz : Nat) (form depth : Int32), F form depth st ≠ none → cPv l y_Pa_function c_Pa_function 10 fr0 lo0 (dC, dI) cI cZ sa rk hp hc h a1 a2 a3 a4 ht hq n1 n2 ad st sz [.ref hp, .int form, .int depth] (F form depth st)) (hc : Nat) (ad : AD) (st : ST) (hst : okSt st) (sz : Nat) (depth : Int32) (hg : f_Pa_object E S F st depth ≠ none) : cPv l y_Pa_object c_Pa_object 6 (fr0 + 9) (lo0 + 348) (dC, dI) cI cZ sa rk hp hc h a1 a2 a3 a4 ht hq n1 n2 ad st sz [.ref hp, .int depth] (f_Pa_object E S F st depth) := by
  refine vx_ofW (cc := c_Pa_object) (maxL := 6) (ret := none) (by decide) rfl ?_
  intro p e s m args below meth c s₁ B hml hnt hv
  obtain ⟨rfl, hsz, hP, hK, hD0, hC, hZ⟩ := hv
  have hx := B.exec
  have hb := B.bytes
  have hr := B.returns
  have hts0 := atoms_spec (ws := wy y_Pa_object c_Pa_object 6 none) B.pre
  have hts := htsL hts0
  have hown : s.vm.findClass R_Pa = some m.cls := findClass_of_methodNamed B.named
  have hlocks := B.notSynchronized
  subst hsz
  have hD := hD0.self (sz := s.heap.size)
  generalize hAe : va_A (wQ cI cZ hp hc h a1 a2 a3 a4 ht hq n1 n2 (ad, st)) s.heap.size = A at hD hZ ⊢
  have hA : ∀ q : Nat, s.heap.size ≤ q → A q := fun q h => by rw [← hAe]; exact Or.inr h
  have hS : va_S A s.heap s.heap [] := va_S.rf
  have hcl : 0 + bC st ≤ bC st := Nat.le_of_eq (Nat.zero_add _)
  have hsl : 0 + bS st ≤ bS st := Nat.le_of_eq (Nat.zero_add _)
  have hl := lv_entry ([.ref hp, .int depth]) (n := 6) (Nat.le_of_ble_eq_true rfl)
  rw [lg_entry_eq]
  generalize (lg_sl ([.ref hp, .int depth]) ++ List.replicate (6 - (lg_sl ([.ref hp, .int depth])).length) Slot.unset).toArray = ls at hl ⊢
  have hl : lv_has ls 6 [(0, .ref hp), (1, .int depth)] := hl
  refine lv_aload_n hx hb d_Pa_object_0 rfl (lv_at hl 0 rfl) ?_
  refine va_get (D := (dC, dI)) (ci := 2) (v := .ref ht) (C := R_Pa) (T := T_Pa) (N := 7) hx hb hts u_Pa hown hK hP 0 rfl rfl 0 (by decide) (hts _ L_208) (fun _ h9 => h9) rfl d_Pa_object_1 ?_
  refine lv_bipush (v := 46) hx hb d_Pa_object_4 (by decide) ?_
  refine lv_iconst (v := 0) hx hb d_Pa_object_6 (by decide) ?_
  refine lv_aload_n hx hb d_Pa_object_7 rfl (lv_at hl 0 rfl) ?_
  refine va_get (D := (dC, dI)) (ci := 2) (v := .int (sAt st)) (C := R_Pa) (T := T_Pa) (N := 7) hx hb hts u_Pa hown hK hP 0 rfl rfl 4 (by decide) (hts _ L_215) (fun x9 h9 => u_same (hts _ L_216) x9 h9) rfl d_Pa_object_8 ?_
  have hn_1 : (p_open st 46 0 (sAt st)) ≠ none := (fun z => hg (by unfold f_Pa_object; rw [bnd_n z]))
  refine pT_i (g := (p_open st 46 0 (sAt st))) (st := st) (As := [.int 46, .int 0, .int (sAt st)]) (rest := []) ⟨hx, hb, hml, hown, hts0⟩ (m_Tr_open l dC dI cI cZ sa rk ht ad (sTr st) hst.2.1 _ 46 0 (sAt st) (p_open_c hn_1).1 (p_open_c hn_1).2.1) hP hD hK hS hA hC hZ L_416 L_417 L_418 L_85 L_419 ⟨rfl, k_Tr_open⟩ ⟨(by show _ ≤ fr0 + 9; omega), (by show _ ≤ lo0 + 348; omega)⟩ rfl rfl hl.1 (Nat.le_of_ble_eq_true rfl) d_Pa_object_11 rfl hcl hsl (p_open_c hn_1).2.2.1 (p_open_c hn_1).2.2.2 hst (t_open_ok 46 0 (sAt st) hst.2.1 (p_open_c hn_1).1 (p_open_c hn_1).2.1) (p_open_e hn_1) (fun r_1 ad_1 st_1 H locs w_1 ok_1 e1_1 e2_1 hP hD hS => ?_)
  have hcl := cl_next hcl e1_1
  have hsl := cl_next hsl e2_1
  refine lv_istore_n (lv' := [(2, .int r_1), (0, .ref hp), (1, .int depth)]) hx hb d_Pa_object_14 rfl hl (by decide) rfl (fun ls hl => ?_)
  refine lv_aload_n hx hb d_Pa_object_15 rfl (lv_at hl 1 rfl) ?_
  refine lv_dup hx hb d_Pa_object_16 rfl ?_
  refine va_get (D := (dC, dI)) (ci := 2) (v := .int (sAt st_1)) (C := R_Pa) (T := T_Pa) (N := 7) hx hb hts u_Pa hown hK hP 0 rfl rfl 4 (by decide) (hts _ L_215) (fun x9 h9 => u_same (hts _ L_216) x9 h9) rfl d_Pa_object_17 ?_
  refine lv_iconst (v := 1) hx hb d_Pa_object_20 (by decide) ?_
  refine lv_iadd hx hb d_Pa_object_21 ?_
  refine va_put (D := (dC, dI)) (ci := 2) (v := .int ((sAt st_1) + 1)) (ty := .int) (C := R_Pa) (T := T_Pa) (N := 7) hx hb hts u_Pa ty_Pa tk_Pa nm_Pa hown hK hP hD hS 0 rfl rfl 4 (by decide) (hts _ L_215) (fun x9 h9 => u_same (hts _ L_216) x9 h9) rfl (by decide +kernel) rfl rfl (Nat.le_of_ble_eq_true rfl) d_Pa_object_22 (fun H locs hP hD hS => ?_)
  have hP : va_P (dC, dI) cls (wQ cI cZ hp hc h a1 a2 a3 a4 ht hq n1 n2 (ad_1, (setAt st_1 ((sAt st_1) + 1)))) H := hP
  have hD : va_D A (wQ cI cZ hp hc h a1 a2 a3 a4 ht hq n1 n2 (ad_1, (setAt st_1 ((sAt st_1) + 1)))) := hD
  refine lv_iconst (v := 0) hx hb d_Pa_object_25 (by decide) ?_
  refine lv_istore_n (lv' := [(3, .int 0), (2, .int r_1), (0, .ref hp), (1, .int depth)]) hx hb d_Pa_object_26 rfl hl (by decide) rfl (fun ls hl => ?_)
  obtain ⟨x_2, hx_2⟩ : ∃ z, f_Pa_object_L27 E S F depth r_1 5000 0 (setAt st_1 ((sAt st_1) + 1)) = z := ⟨_, rfl⟩
  have hn_2 : x_2 ≠ none := (fun z => hg (by unfold f_Pa_object; rw [bnd_r w_1, bnd_n (hx_2.trans z)]))
  have hX_2 : ∀ q, x_2 = some (.inl q) → (f_Pa_object E S F st depth) = some (.inl q) := (fun q z => by unfold f_Pa_object; rw [bnd_r w_1, bnd_l (hx_2.trans z)])
  have lp_2 : ∀ (fu : Nat) (x3 : Int32) (ax_2 : AD) (sx_2 : ST) (okx_2 : okSt sx_2) (H : Heap) (locs : List Loc) (ls : Array Slot) (cells slots : Nat), va_P (dC, dI) cls (wQ cI cZ hp hc h a1 a2 a3 a4 ht hq n1 n2 (ax_2, sx_2)) H → va_D A (wQ cI cZ hp hc h a1 a2 a3 a4 ht hq n1 n2 (ax_2, sx_2)) → va_S A s.heap H locs → lv_has ls 6 [(0, .ref hp), (1, .int depth), (2, .int r_1), (3, .int x3)] → cells + bC sx_2 ≤ bC st → slots + bS sx_2 ≤ bS st → x_2 = f_Pa_object_L27 E S F depth r_1 fu x3 sx_2 → W p l e (headSpec (wy y_Pa_object c_Pa_object 6 none) { frames := (fr0 + 9), cells := bC st, slots := bS st, locals := (lo0 + 348) }).room s m [.ref hp, .int depth].toArray below meth c H locs cells slots (vx_MQ below (va_Qv (poN (f_Pa_object E S F st depth) st 0) (wB (dC, dI) cI cZ A (wQ cI cZ hp hc h a1 a2 a3 a4 ht hq n1 n2)) A) (xP (dC, dI) cI cZ hp h a1 a2 a3 a4 ht hq n1 n2 (f_Pa_object E S F st depth) st A) [.ref hp, .int depth].toArray s (mcO st (f_Pa_object E S F st depth)) (msO st (f_Pa_object E S F st depth)) A) (F0 m 27 ls []) := by
    intro fu
    induction fu with
    | zero => intro x3 ax_2 sx_2 okx_2 H locs ls cells slots hP hD hS hl hcl hsl hL_2; exact absurd (hL_2.trans rfl) hn_2
    | succ fu_2 ih_2 =>
      intro x3 ax_2 sx_2 okx_2 H locs ls cells slots hP hD hS hl hcl hsl hL_2
      rw [f_Pa_object_L27] at hL_2
      refine lv_iload_n hx hb d_Pa_object_27 rfl (lv_at hl 3 rfl) ?_
      refine lv_sipush (v := 1000) hx hb d_Pa_object_28 (by decide) ?_
      refine lv_icmp_gt (tgt := 101) hx hb d_Pa_object_31 (by decide) (fun c_3 => ?_) (fun c_3 => ?_)
      · rw [if_pos c_3] at hL_2
        have we_2 : f_Pa_object_L27 E S F depth r_1 5000 0 (setAt st_1 ((sAt st_1) + 1)) = some (.inr (0, sx_2)) := hx_2.trans hL_2
        have hl := lv_sub hl (l' := [(0, .ref hp), (1, .int depth), (2, .int r_1)]) [0, 1, 2] rfl
        refine lv_aload_n hx hb d_Pa_object_101 rfl (lv_at hl 0 rfl) ?_
        refine va_get (D := (dC, dI)) (ci := 2) (v := .ref ht) (C := R_Pa) (T := T_Pa) (N := 7) hx hb hts u_Pa hown hK hP 0 rfl rfl 0 (by decide) (hts _ L_208) (fun _ h9 => h9) rfl d_Pa_object_102 ?_
        refine lv_iload_n hx hb d_Pa_object_105 rfl (lv_at hl 2 rfl) ?_
        refine pT_v (g := (p_close sx_2 r_1)) (st := sx_2) (As := [.int r_1]) (rest := []) ⟨hx, hb, hml, hown, hts0⟩ (m_Tr_close l dC dI cI cZ sa rk ht ax_2 (sTr sx_2) okx_2.2.1 _ r_1) hP hD hK hS hA hC hZ L_582 L_583 L_584 L_85 L_585 ⟨rfl, k_Tr_close⟩ ⟨(by show _ ≤ fr0 + 9; omega), (by show _ ≤ lo0 + 348; omega)⟩ rfl rfl hl.1 (Nat.le_of_ble_eq_true rfl) d_Pa_object_106 rfl hcl hsl (Nat.zero_le _) (Nat.zero_le _) okx_2 (t_close_ok r_1 okx_2.2.1) rfl (fun ad_4 st_4 H locs w_4 ok_4 e1_4 e2_4 hP hD hS => ?_)
        have hcl := cl_next hcl e1_4
        have hsl := cl_next hsl e2_4
        exact mx_vret (stF := st_4) hx hb hr hlocks hK hP hD hS hcl hsl (by unfold f_Pa_object; rw [bnd_r w_1, bnd_r we_2, bnd_r w_4]) ok_4 d_Pa_object_109
      · rw [if_neg c_3] at hL_2
        refine lv_aload_n hx hb d_Pa_object_34 rfl (lv_at hl 0 rfl) ?_
        refine lv_iload_n hx hb d_Pa_object_35 rfl (lv_at hl 3 rfl) ?_
        refine mx_Ui (xm := ⟨"SyntaxTree$Parser", "nextProperty", "(I)Z"⟩) (owner := R_Cu) (As := [.int x3]) (rest := []) ⟨hx, hb, hml, hown, hts0⟩ (m_Cu_nextProperty l hlt dC dI cI cZ sa rk hp hc h a1 a2 a3 a4 ht hq n1 n2 ax_2 sx_2 okx_2 _ x3 (fun z => hn_2 (hL_2.trans (bnd_n z)))) hP hD hK hS hA hC hZ hnt hlocks L_603 L_604 L_606 L_607 L_86 L_608 rfl k_Cu_nextProperty ⟨(by show _ ≤ fr0 + 9; omega), (by show _ ≤ lo0 + 348; omega)⟩ rfl rfl hl.1 (Nat.le_of_ble_eq_true rfl) d_Pa_object_36 rfl (fun q z => hX_2 q (hL_2.trans (bnd_l z))) hcl hsl (fun r_5 ad_5 st_5 H locs w_5 ok_5 e1_5 e2_5 hP hD hS => ?_)
        have hcl := cl_next hcl e1_5
        have hsl := cl_next hsl e2_5
        rw [bnd_r w_5] at hL_2
        refine lv_if_eq (tgt := 101) hx hb d_Pa_object_39 (by decide) (fun c_6 => ?_) (fun c_6 => ?_)
        · rw [if_pos c_6] at hL_2
          have we_2 : f_Pa_object_L27 E S F depth r_1 5000 0 (setAt st_1 ((sAt st_1) + 1)) = some (.inr (0, st_5)) := hx_2.trans hL_2
          have hl := lv_sub hl (l' := [(0, .ref hp), (1, .int depth), (2, .int r_1)]) [0, 1, 2] rfl
          refine lv_aload_n hx hb d_Pa_object_101 rfl (lv_at hl 0 rfl) ?_
          refine va_get (D := (dC, dI)) (ci := 2) (v := .ref ht) (C := R_Pa) (T := T_Pa) (N := 7) hx hb hts u_Pa hown hK hP 0 rfl rfl 0 (by decide) (hts _ L_208) (fun _ h9 => h9) rfl d_Pa_object_102 ?_
          refine lv_iload_n hx hb d_Pa_object_105 rfl (lv_at hl 2 rfl) ?_
          refine pT_v (g := (p_close st_5 r_1)) (st := st_5) (As := [.int r_1]) (rest := []) ⟨hx, hb, hml, hown, hts0⟩ (m_Tr_close l dC dI cI cZ sa rk ht ad_5 (sTr st_5) ok_5.2.1 _ r_1) hP hD hK hS hA hC hZ L_582 L_583 L_584 L_85 L_585 ⟨rfl, k_Tr_close⟩ ⟨(by show _ ≤ fr0 + 9; omega), (by show _ ≤ lo0 + 348; omega)⟩ rfl rfl hl.1 (Nat.le_of_ble_eq_true rfl) d_Pa_object_106 rfl hcl hsl (Nat.zero_le _) (Nat.zero_le _) ok_5 (t_close_ok r_1 ok_5.2.1) rfl (fun ad_7 st_7 H locs w_7 ok_7 e1_7 e2_7 hP hD hS => ?_)
          have hcl := cl_next hcl e1_7
          have hsl := cl_next hsl e2_7
          exact mx_vret (stF := st_7) hx hb hr hlocks hK hP hD hS hcl hsl (by unfold f_Pa_object; rw [bnd_r w_1, bnd_r we_2, bnd_r w_7]) ok_7 d_Pa_object_109
        · rw [if_neg c_6] at hL_2
          refine lv_aload_n hx hb d_Pa_object_42 rfl (lv_at hl 0 rfl) ?_
          refine lv_iload_n hx hb d_Pa_object_43 rfl (lv_at hl 2 rfl) ?_
          refine mx_Vi (As := [.int r_1]) (rest := []) ⟨hx, hb, hml, hown, hts0⟩ (m_Pa_openProperty l hlt dC dI cI cZ sa rk hp hc h a1 a2 a3 a4 ht hq n1 n2 ad_5 st_5 ok_5 _ r_1 (fun z => hn_2 (hL_2.trans (bnd_n z)))) hP hD hK hS hA hC hZ hnt hlocks L_609 L_611 L_19 L_87 L_612 k_Pa_openProperty ⟨(by show _ ≤ fr0 + 9; omega), (by show _ ≤ lo0 + 348; omega)⟩ rfl rfl hl.1 (Nat.le_of_ble_eq_true rfl) d_Pa_object_44 rfl (fun q z => hX_2 q (hL_2.trans (bnd_l z))) hcl hsl (fun r_8 ad_8 st_8 H locs w_8 ok_8 e1_8 e2_8 hP hD hS => ?_)
          have hcl := cl_next hcl e1_8
          have hsl := cl_next hsl e2_8
          rw [bnd_r w_8] at hL_2
          refine lv_istore (lv' := [(4, .int r_8), (0, .ref hp), (1, .int depth), (2, .int r_1), (3, .int x3)]) hx hb d_Pa_object_47 hl (by decide) rfl (fun ls hl => ?_)
          refine lv_aload_n hx hb d_Pa_object_49 rfl (lv_at hl 1 rfl) ?_
          refine va_get (D := (dC, dI)) (ci := 2) (v := .ref ht) (C := R_Pa) (T := T_Pa) (N := 7) hx hb hts u_Pa hown hK hP 0 rfl rfl 0 (by decide) (hts _ L_208) (fun _ h9 => h9) rfl d_Pa_object_50 ?_
          refine lv_iload hx hb d_Pa_object_53 (lv_at hl 0 rfl) ?_
          refine rd_V (v := (f_Tr_kind (sTr st_8) r_8)) (As := [.int r_8]) (rest := []) ⟨hx, hb, hml, hown, hts0⟩ (m_Tr_kind l dC dI cI cZ ht ad_8.1 ad_8.2.1 ad_8.2.2.1 ad_8.2.2.2 (sTr st_8) ok_8.2.1 r_8) hP hK [7, 8, 9, 10, 11] rfl [0, 1] rfl 0 4 rfl rfl L_528 L_529 L_530 L_85 L_531 ⟨rfl, k_Tr_kind⟩ ⟨(by show _ ≤ fr0 + 9; omega), (by show _ ≤ lo0 + 348; omega)⟩ hl.1 ⟨Nat.le_trans (Nat.le_add_right _ _) hcl, Nat.le_trans (Nat.le_add_right _ _) hsl⟩ (Nat.le_of_ble_eq_true rfl) d_Pa_object_55 rfl ?_
          refine lv_istore (lv' := [(5, .int (f_Tr_kind (sTr st_8) r_8)), (4, .int r_8), (0, .ref hp), (1, .int depth), (2, .int r_1), (3, .int x3)]) hx hb d_Pa_object_58 hl (by decide) rfl (fun ls hl => ?_)
          refine lv_iload hx hb d_Pa_object_60 (lv_at hl 0 rfl) ?_
          refine lv_bipush (v := 47) hx hb d_Pa_object_62 (by decide) ?_
          refine lv_icmp_ne (tgt := 79) hx hb d_Pa_object_64 (by decide) (fun c_9 => ?_) (fun c_9 => ?_)
          · rw [if_neg c_9] at hL_2
            refine lv_aload_n hx hb d_Pa_object_79 rfl (lv_at hl 2 rfl) ?_
            refine lv_iload hx hb d_Pa_object_80 (lv_at hl 0 rfl) ?_
            refine lv_iload_n hx hb d_Pa_object_82 rfl (lv_at hl 3 rfl) ?_
            refine mx_Vv (As := [.int (f_Tr_kind (sTr st_8) r_8), .int depth]) (rest := []) ⟨hx, hb, hml, hown, hts0⟩ (hRF hc ad_8 st_8 ok_8 _ (f_Tr_kind (sTr st_8) r_8) depth (fun z => hn_2 (hL_2.trans (bnd_n z)))) hP hD hK hS hA hC hZ hnt hlocks L_449 L_451 L_5 L_87 L_452 k_Pa_function ⟨(by show _ ≤ fr0 + 9; omega), (by show _ ≤ lo0 + 348; omega)⟩ rfl rfl hl.1 (Nat.le_of_ble_eq_true rfl) d_Pa_object_83 rfl (fun q z => hX_2 q (hL_2.trans (bnd_l z))) hcl hsl (fun ad_10 st_10 H locs w_10 ok_10 e1_10 e2_10 hP hD hS => ?_)
            have hcl := cl_next hcl e1_10
            have hsl := cl_next hsl e2_10
            rw [bnd_r w_10] at hL_2
            refine lv_aload_n hx hb d_Pa_object_86 rfl (lv_at hl 2 rfl) ?_
            refine va_get (D := (dC, dI)) (ci := 2) (v := .ref ht) (C := R_Pa) (T := T_Pa) (N := 7) hx hb hts u_Pa hown hK hP 0 rfl rfl 0 (by decide) (hts _ L_208) (fun _ h9 => h9) rfl d_Pa_object_87 ?_
            refine lv_iload hx hb d_Pa_object_90 (lv_at hl 1 rfl) ?_
            refine pT_v (g := (p_close st_10 r_8)) (st := st_10) (As := [.int r_8]) (rest := []) ⟨hx, hb, hml, hown, hts0⟩ (m_Tr_close l dC dI cI cZ sa rk ht ad_10 (sTr st_10) ok_10.2.1 _ r_8) hP hD hK hS hA hC hZ L_582 L_583 L_584 L_85 L_585 ⟨rfl, k_Tr_close⟩ ⟨(by show _ ≤ fr0 + 9; omega), (by show _ ≤ lo0 + 348; omega)⟩ rfl rfl hl.1 (Nat.le_of_ble_eq_true rfl) d_Pa_object_92 rfl hcl hsl (Nat.zero_le _) (Nat.zero_le _) ok_10 (t_close_ok r_8 ok_10.2.1) rfl (fun ad_11 st_11 H locs w_11 ok_11 e1_11 e2_11 hP hD hS => ?_)
            have hcl := cl_next hcl e1_11
            have hsl := cl_next hsl e2_11
            rw [bnd_r w_11] at hL_2
            refine lv_iinc (v := (x3 + 1)) (lv' := [(3, .int (x3 + 1)), (5, .int (f_Tr_kind (sTr st_8) r_8)), (4, .int r_8), (0, .ref hp), (1, .int depth), (2, .int r_1)]) hx hb d_Pa_object_95 hl (k := 5) rfl rfl (by decide) rfl (fun ls hl => ?_)
            refine lv_goto (tgt := 27) hx hb d_Pa_object_98 (by decide) ?_
            exact ih_2 (x3 + 1) ad_11 st_11 ok_11 _ _ ls _ _ hP hD hS (lv_sub hl [3, 4, 5, 0] rfl) hcl hsl hL_2
          · rw [if_pos c_9] at hL_2
            refine lv_aload_n hx hb d_Pa_object_67 rfl (lv_at hl 2 rfl) ?_
            refine lv_iconst (v := 0) hx hb d_Pa_object_68 (by decide) ?_
            refine lv_iload_n hx hb d_Pa_object_69 rfl (lv_at hl 3 rfl) ?_
            refine lv_iconst (v := 1) hx hb d_Pa_object_70 (by decide) ?_
            refine lv_iadd hx hb d_Pa_object_71 ?_
            refine lv_iconst (v := 1) hx hb d_Pa_object_72 (by decide) ?_
            refine mx_Vv (As := [.int 0, .int (depth + 1), .int 1]) (rest := []) ⟨hx, hb, hml, hown, hts0⟩ (hRE hc ad_8 st_8 ok_8 _ 0 (depth + 1) 1 (fun z => hn_2 (hL_2.trans (bnd_n z)))) hP hD hK hS hA hC hZ hnt hlocks L_569 L_571 L_12 L_87 L_572 k_Pa_expression ⟨(by show _ ≤ fr0 + 9; omega), (by show _ ≤ lo0 + 348; omega)⟩ rfl rfl hl.1 (Nat.le_of_ble_eq_true rfl) d_Pa_object_73 rfl (fun q z => hX_2 q (hL_2.trans (bnd_l z))) hcl hsl (fun ad_12 st_12 H locs w_12 ok_12 e1_12 e2_12 hP hD hS => ?_)
            have hcl := cl_next hcl e1_12
            have hsl := cl_next hsl e2_12
            rw [bnd_r w_12] at hL_2
            refine lv_goto (tgt := 86) hx hb d_Pa_object_76 (by decide) ?_
            refine lv_aload_n hx hb d_Pa_object_86 rfl (lv_at hl 2 rfl) ?_
            refine va_get (D := (dC, dI)) (ci := 2) (v := .ref ht) (C := R_Pa) (T := T_Pa) (N := 7) hx hb hts u_Pa hown hK hP 0 rfl rfl 0 (by decide) (hts _ L_208) (fun _ h9 => h9) rfl d_Pa_object_87 ?_
            refine lv_iload hx hb d_Pa_object_90 (lv_at hl 1 rfl) ?_
            refine pT_v (g := (p_close st_12 r_8)) (st := st_12) (As := [.int r_8]) (rest := []) ⟨hx, hb, hml, hown, hts0⟩ (m_Tr_close l dC dI cI cZ sa rk ht ad_12 (sTr st_12) ok_12.2.1 _ r_8) hP hD hK hS hA hC hZ L_582 L_583 L_584 L_85 L_585 ⟨rfl, k_Tr_close⟩ ⟨(by show _ ≤ fr0 + 9; omega), (by show _ ≤ lo0 + 348; omega)⟩ rfl rfl hl.1 (Nat.le_of_ble_eq_true rfl) d_Pa_object_92 rfl hcl hsl (Nat.zero_le _) (Nat.zero_le _) ok_12 (t_close_ok r_8 ok_12.2.1) rfl (fun ad_13 st_13 H locs w_13 ok_13 e1_13 e2_13 hP hD hS => ?_)
            have hcl := cl_next hcl e1_13
            have hsl := cl_next hsl e2_13
            rw [bnd_r w_13] at hL_2
            refine lv_iinc (v := (x3 + 1)) (lv' := [(3, .int (x3 + 1)), (5, .int (f_Tr_kind (sTr st_8) r_8)), (4, .int r_8), (0, .ref hp), (1, .int depth), (2, .int r_1)]) hx hb d_Pa_object_95 hl (k := 5) rfl rfl (by decide) rfl (fun ls hl => ?_)
            refine lv_goto (tgt := 27) hx hb d_Pa_object_98 (by decide) ?_
            exact ih_2 (x3 + 1) ad_13 st_13 ok_13 _ _ ls _ _ hP hD hS (lv_sub hl [3, 4, 5, 0] rfl) hcl hsl hL_2
  exact lp_2 5000 0 ad_1 (setAt st_1 ((sAt st_1) + 1)) (show okSt (setAt st_1 ((sAt st_1) + 1)) from ⟨ok_1.1, ok_1.2.1, ok_1.2.2.1, ok_1.2.2.2⟩) _ _ ls _ _ hP hD hS (lv_sub hl [2, 3, 1, 0] rfl) hcl hsl hx_2.symm
def f_Pa_construction_L46 (E : Int32 → Int32 → Int32 → ST → Rz) (S : Int32 → Int32 → ST → Rz) (F : Int32 → Int32 → ST → Rz) (depth : Int32) : Nat → Int32 → ST → Rz
  | 0, _, _ => none
  | fu_6 + 1, x3, sx_6 => (if 1000 < x3 then (some (.inr (0, sx_6))) else (bnd (f_Cu_nextArgument sx_6 x3) (fun r_9 st_9 => (if r_9 = 0 then (some (.inr (0, st_9))) else (bnd (E 0 (depth + 1) 1 st_9) (fun _ st_12 => (f_Pa_construction_L46 E S F depth fu_6 (x3 + 1) st_12)))))))
def f_Pa_construction (E : Int32 → Int32 → Int32 → ST → Rz) (S : Int32 → Int32 → ST → Rz) (F : Int32 → Int32 → ST → Rz) (st : ST) (depth : Int32) : Rz := (bnd (p_open st 39 0 (sAt st)) (fun r_1 st_1 => (bnd (E 12 (depth + 1) 1 (setAt st_1 ((sAt st_1) + 1))) (fun _ st_2 => (bnd (f_Cu_accept st_2 60) (fun r_3 st_3 => (if r_3 = 0 then (bnd (p_close st_3 r_1) (fun _ st_5 => (some (.inr (0, st_5))))) else (bnd (f_Pa_construction_L46 E S F depth 5000 0 st_3) (fun _ sx_6 => (bnd (p_close sx_6 r_1) (fun _ st_8 => (some (.inr (0, st_8))))))))))))))
set_option maxRecDepth 100000 in
set_option maxHeartbeats 4000000 in
theorem m_Pa_construction (l : Launch) (hlt : l.stackTraces = false) (dC : Nat → ClassId) (dI : Nat → Nat → Nat) (cI cZ : ClassId) (sa rk hp h a1 a2 a3 a4 ht hq n1 n2 : Nat) (fr0 lo0 : Nat) (E : Int32 → Int32 → Int32 → ST → Rz) (S : Int32 → Int32 → ST → Rz) (F : Int32 → Int32 → ST → Rz) (hRE : ∀ (hc : Nat) (ad : AD) (st : ST), okSt st → ∀ (sz : Nat) (level depth inn : Int32), E level depth inn st ≠ none → cPv l y_Pa_expression c_Pa_expression 6 fr0 lo0 (dC, dI) cI cZ sa rk hp hc h a1 a2 a3 a4 ht hq n1 n2 ad st sz [.ref hp, .int level, .int depth, .int inn] (E level depth inn st)) (hRS : ∀ (hc : Nat) (ad : AD) (st : ST), okSt st → ∀ (sz : Nat) (depth first : Int32), S depth first st ≠ none → cPv l y_Pa_statement c_Pa_statement 4 fr0 lo0 (dC, dI) cI cZ sa rk hp hc h a1 a2 a3 a4 ht hq n1 n2 ad st sz [.ref hp, .int depth, .int first] (S depth first st)) (hRF : ∀ (hc : Nat) (ad : AD) (st : ST), okSt st → ∀ (sz : Nat) (form depth : Int32), F form depth st ≠ none → cPv l y_Pa_function c_Pa_function 10 fr0 lo0 (dC, dI) cI cZ sa rk hp hc h a1 a2 a3 a4 ht hq n1 n2 ad st sz [.ref hp, .int form, .int depth] (F form depth st)) (hc : Nat) (ad : AD) (st : ST) (hst : okSt st) (sz : Nat) (depth : Int32) (hg : f_Pa_construction E S F st depth ≠ none) : cPv l y_Pa_construction c_Pa_construction 4 (fr0 + 9) (lo0 + 323) (dC, dI) cI cZ sa rk hp hc h a1 a2 a3 a4 ht hq n1 n2 ad st sz [.ref hp, .int depth] (f_Pa_construction E S F st depth) := by
  refine vx_ofW (cc := c_Pa_construction) (maxL := 4) (ret := none) (by decide) rfl ?_
  intro p e s m args below meth c s₁ B hml hnt hv
  obtain ⟨rfl, hsz, hP, hK, hD0, hC, hZ⟩ := hv
  have hx := B.exec
  have hb := B.bytes
  have hr := B.returns
  have hts0 := atoms_spec (ws := wy y_Pa_construction c_Pa_construction 4 none) B.pre
  have hts := htsL hts0
  have hown : s.vm.findClass R_Pa = some m.cls := findClass_of_methodNamed B.named
  have hlocks := B.notSynchronized
  subst hsz
  have hD := hD0.self (sz := s.heap.size)
  generalize hAe : va_A (wQ cI cZ hp hc h a1 a2 a3 a4 ht hq n1 n2 (ad, st)) s.heap.size = A at hD hZ ⊢
  have hA : ∀ q : Nat, s.heap.size ≤ q → A q := fun q h => by rw [← hAe]; exact Or.inr h
  have hS : va_S A s.heap s.heap [] := va_S.rf
  have hcl : 0 + bC st ≤ bC st := Nat.le_of_eq (Nat.zero_add _)
  have hsl : 0 + bS st ≤ bS st := Nat.le_of_eq (Nat.zero_add _)
  have hl := lv_entry ([.ref hp, .int depth]) (n := 4) (Nat.le_of_ble_eq_true rfl)
  rw [lg_entry_eq]
  generalize (lg_sl ([.ref hp, .int depth]) ++ List.replicate (4 - (lg_sl ([.ref hp, .int depth])).length) Slot.unset).toArray = ls at hl ⊢
  have hl : lv_has ls 4 [(0, .ref hp), (1, .int depth)] := hl
  refine lv_aload_n hx hb d_Pa_construction_0 rfl (lv_at hl 0 rfl) ?_
  refine va_get (D := (dC, dI)) (ci := 2) (v := .ref ht) (C := R_Pa) (T := T_Pa) (N := 7) hx hb hts u_Pa hown hK hP 0 rfl rfl 0 (by decide) (hts _ L_208) (fun _ h9 => h9) rfl d_Pa_construction_1 ?_
  refine lv_bipush (v := 39) hx hb d_Pa_construction_4 (by decide) ?_
  refine lv_iconst (v := 0) hx hb d_Pa_construction_6 (by decide) ?_
  refine lv_aload_n hx hb d_Pa_construction_7 rfl (lv_at hl 0 rfl) ?_
  refine va_get (D := (dC, dI)) (ci := 2) (v := .int (sAt st)) (C := R_Pa) (T := T_Pa) (N := 7) hx hb hts u_Pa hown hK hP 0 rfl rfl 4 (by decide) (hts _ L_215) (fun x9 h9 => u_same (hts _ L_216) x9 h9) rfl d_Pa_construction_8 ?_
  have hn_1 : (p_open st 39 0 (sAt st)) ≠ none := (fun z => hg (by unfold f_Pa_construction; rw [bnd_n z]))
  refine pT_i (g := (p_open st 39 0 (sAt st))) (st := st) (As := [.int 39, .int 0, .int (sAt st)]) (rest := []) ⟨hx, hb, hml, hown, hts0⟩ (m_Tr_open l dC dI cI cZ sa rk ht ad (sTr st) hst.2.1 _ 39 0 (sAt st) (p_open_c hn_1).1 (p_open_c hn_1).2.1) hP hD hK hS hA hC hZ L_416 L_417 L_418 L_85 L_419 ⟨rfl, k_Tr_open⟩ ⟨(by show _ ≤ fr0 + 9; omega), (by show _ ≤ lo0 + 323; omega)⟩ rfl rfl hl.1 (Nat.le_of_ble_eq_true rfl) d_Pa_construction_11 rfl hcl hsl (p_open_c hn_1).2.2.1 (p_open_c hn_1).2.2.2 hst (t_open_ok 39 0 (sAt st) hst.2.1 (p_open_c hn_1).1 (p_open_c hn_1).2.1) (p_open_e hn_1) (fun r_1 ad_1 st_1 H locs w_1 ok_1 e1_1 e2_1 hP hD hS => ?_)
  have hcl := cl_next hcl e1_1
  have hsl := cl_next hsl e2_1
  refine lv_istore_n (lv' := [(2, .int r_1), (0, .ref hp), (1, .int depth)]) hx hb d_Pa_construction_14 rfl hl (by decide) rfl (fun ls hl => ?_)
  refine lv_aload_n hx hb d_Pa_construction_15 rfl (lv_at hl 1 rfl) ?_
  refine lv_dup hx hb d_Pa_construction_16 rfl ?_
  refine va_get (D := (dC, dI)) (ci := 2) (v := .int (sAt st_1)) (C := R_Pa) (T := T_Pa) (N := 7) hx hb hts u_Pa hown hK hP 0 rfl rfl 4 (by decide) (hts _ L_215) (fun x9 h9 => u_same (hts _ L_216) x9 h9) rfl d_Pa_construction_17 ?_
  refine lv_iconst (v := 1) hx hb d_Pa_construction_20 (by decide) ?_
  refine lv_iadd hx hb d_Pa_construction_21 ?_
  refine va_put (D := (dC, dI)) (ci := 2) (v := .int ((sAt st_1) + 1)) (ty := .int) (C := R_Pa) (T := T_Pa) (N := 7) hx hb hts u_Pa ty_Pa tk_Pa nm_Pa hown hK hP hD hS 0 rfl rfl 4 (by decide) (hts _ L_215) (fun x9 h9 => u_same (hts _ L_216) x9 h9) rfl (by decide +kernel) rfl rfl (Nat.le_of_ble_eq_true rfl) d_Pa_construction_22 (fun H locs hP hD hS => ?_)
  have hP : va_P (dC, dI) cls (wQ cI cZ hp hc h a1 a2 a3 a4 ht hq n1 n2 (ad_1, (setAt st_1 ((sAt st_1) + 1)))) H := hP
  have hD : va_D A (wQ cI cZ hp hc h a1 a2 a3 a4 ht hq n1 n2 (ad_1, (setAt st_1 ((sAt st_1) + 1)))) := hD
  refine lv_aload_n hx hb d_Pa_construction_25 rfl (lv_at hl 1 rfl) ?_
  refine lv_bipush (v := 12) hx hb d_Pa_construction_26 (by decide) ?_
  refine lv_iload_n hx hb d_Pa_construction_28 rfl (lv_at hl 2 rfl) ?_
  refine lv_iconst (v := 1) hx hb d_Pa_construction_29 (by decide) ?_
  refine lv_iadd hx hb d_Pa_construction_30 ?_
  refine lv_iconst (v := 1) hx hb d_Pa_construction_31 (by decide) ?_
  refine mx_Vv (As := [.int 12, .int (depth + 1), .int 1]) (rest := []) ⟨hx, hb, hml, hown, hts0⟩ (hRE hc ad_1 (setAt st_1 ((sAt st_1) + 1)) (show okSt (setAt st_1 ((sAt st_1) + 1)) from ⟨ok_1.1, ok_1.2.1, ok_1.2.2.1, ok_1.2.2.2⟩) _ 12 (depth + 1) 1 (fun z => hg (by unfold f_Pa_construction; rw [bnd_r w_1, bnd_n z]))) hP hD hK hS hA hC hZ hnt hlocks L_569 L_571 L_12 L_87 L_572 k_Pa_expression ⟨(by show _ ≤ fr0 + 9; omega), (by show _ ≤ lo0 + 323; omega)⟩ rfl rfl hl.1 (Nat.le_of_ble_eq_true rfl) d_Pa_construction_32 rfl (fun q z => by unfold f_Pa_construction; rw [bnd_r w_1, bnd_l z]) hcl hsl (fun ad_2 st_2 H locs w_2 ok_2 e1_2 e2_2 hP hD hS => ?_)
  have hcl := cl_next hcl e1_2
  have hsl := cl_next hsl e2_2
  refine lv_aload_n hx hb d_Pa_construction_35 rfl (lv_at hl 1 rfl) ?_
  refine lv_bipush (v := 60) hx hb d_Pa_construction_36 (by decide) ?_
  refine mx_Ui (xm := ⟨"SyntaxTree$Parser", "accept", "(I)Z"⟩) (owner := R_Cu) (As := [.int 60]) (rest := []) ⟨hx, hb, hml, hown, hts0⟩ (m_Cu_accept l hlt dC dI cI cZ sa rk hp hc h a1 a2 a3 a4 ht hq n1 n2 ad_2 st_2 ok_2 _ 60 (fun z => hg (by unfold f_Pa_construction; rw [bnd_r w_1, bnd_r w_2, bnd_n z]))) hP hD hK hS hA hC hZ hnt hlocks L_556 L_557 L_559 L_547 L_86 L_550 rfl k_Cu_accept ⟨(by show _ ≤ fr0 + 9; omega), (by show _ ≤ lo0 + 323; omega)⟩ rfl rfl hl.1 (Nat.le_of_ble_eq_true rfl) d_Pa_construction_38 rfl (fun q z => by unfold f_Pa_construction; rw [bnd_r w_1, bnd_r w_2, bnd_l z]) hcl hsl (fun r_3 ad_3 st_3 H locs w_3 ok_3 e1_3 e2_3 hP hD hS => ?_)
  have hcl := cl_next hcl e1_3
  have hsl := cl_next hsl e2_3
  refine lv_if_eq (tgt := 76) hx hb d_Pa_construction_41 (by decide) (fun c_4 => ?_) (fun c_4 => ?_)
  · refine lv_aload_n hx hb d_Pa_construction_76 rfl (lv_at hl 1 rfl) ?_
    refine va_get (D := (dC, dI)) (ci := 2) (v := .ref ht) (C := R_Pa) (T := T_Pa) (N := 7) hx hb hts u_Pa hown hK hP 0 rfl rfl 0 (by decide) (hts _ L_208) (fun _ h9 => h9) rfl d_Pa_construction_77 ?_
    refine lv_iload_n hx hb d_Pa_construction_80 rfl (lv_at hl 0 rfl) ?_
    refine pT_v (g := (p_close st_3 r_1)) (st := st_3) (As := [.int r_1]) (rest := []) ⟨hx, hb, hml, hown, hts0⟩ (m_Tr_close l dC dI cI cZ sa rk ht ad_3 (sTr st_3) ok_3.2.1 _ r_1) hP hD hK hS hA hC hZ L_582 L_583 L_584 L_85 L_585 ⟨rfl, k_Tr_close⟩ ⟨(by show _ ≤ fr0 + 9; omega), (by show _ ≤ lo0 + 323; omega)⟩ rfl rfl hl.1 (Nat.le_of_ble_eq_true rfl) d_Pa_construction_81 rfl hcl hsl (Nat.zero_le _) (Nat.zero_le _) ok_3 (t_close_ok r_1 ok_3.2.1) rfl (fun ad_5 st_5 H locs w_5 ok_5 e1_5 e2_5 hP hD hS => ?_)
    have hcl := cl_next hcl e1_5
    have hsl := cl_next hsl e2_5
    exact mx_vret (stF := st_5) hx hb hr hlocks hK hP hD hS hcl hsl (by unfold f_Pa_construction; rw [bnd_r w_1, bnd_r w_2, bnd_r w_3, if_pos c_4, bnd_r w_5]) ok_5 d_Pa_construction_84
  · refine lv_iconst (v := 0) hx hb d_Pa_construction_44 (by decide) ?_
    refine lv_istore_n (lv' := [(3, .int 0), (2, .int r_1), (0, .ref hp), (1, .int depth)]) hx hb d_Pa_construction_45 rfl hl (by decide) rfl (fun ls hl => ?_)
    obtain ⟨x_6, hx_6⟩ : ∃ z, f_Pa_construction_L46 E S F depth 5000 0 st_3 = z := ⟨_, rfl⟩
    have hn_6 : x_6 ≠ none := (fun z => hg (by unfold f_Pa_construction; rw [bnd_r w_1, bnd_r w_2, bnd_r w_3, if_neg c_4, bnd_n (hx_6.trans z)]))
    have hX_6 : ∀ q, x_6 = some (.inl q) → (f_Pa_construction E S F st depth) = some (.inl q) := (fun q z => by unfold f_Pa_construction; rw [bnd_r w_1, bnd_r w_2, bnd_r w_3, if_neg c_4, bnd_l (hx_6.trans z)])
    have lp_6 : ∀ (fu : Nat) (x3 : Int32) (ax_6 : AD) (sx_6 : ST) (okx_6 : okSt sx_6) (H : Heap) (locs : List Loc) (ls : Array Slot) (cells slots : Nat), va_P (dC, dI) cls (wQ cI cZ hp hc h a1 a2 a3 a4 ht hq n1 n2 (ax_6, sx_6)) H → va_D A (wQ cI cZ hp hc h a1 a2 a3 a4 ht hq n1 n2 (ax_6, sx_6)) → va_S A s.heap H locs → lv_has ls 4 [(0, .ref hp), (1, .int depth), (2, .int r_1), (3, .int x3)] → cells + bC sx_6 ≤ bC st → slots + bS sx_6 ≤ bS st → x_6 = f_Pa_construction_L46 E S F depth fu x3 sx_6 → W p l e (headSpec (wy y_Pa_construction c_Pa_construction 4 none) { frames := (fr0 + 9), cells := bC st, slots := bS st, locals := (lo0 + 323) }).room s m [.ref hp, .int depth].toArray below meth c H locs cells slots (vx_MQ below (va_Qv (poN (f_Pa_construction E S F st depth) st 0) (wB (dC, dI) cI cZ A (wQ cI cZ hp hc h a1 a2 a3 a4 ht hq n1 n2)) A) (xP (dC, dI) cI cZ hp h a1 a2 a3 a4 ht hq n1 n2 (f_Pa_construction E S F st depth) st A) [.ref hp, .int depth].toArray s (mcO st (f_Pa_construction E S F st depth)) (msO st (f_Pa_construction E S F st depth)) A) (F0 m 46 ls []) := by
      intro fu
      induction fu with
      | zero => intro x3 ax_6 sx_6 okx_6 H locs ls cells slots hP hD hS hl hcl hsl hL_6; exact absurd (hL_6.trans rfl) hn_6
      | succ fu_6 ih_6 =>
        intro x3 ax_6 sx_6 okx_6 H locs ls cells slots hP hD hS hl hcl hsl hL_6
        rw [f_Pa_construction_L46] at hL_6
        refine lv_iload_n hx hb d_Pa_construction_46 rfl (lv_at hl 3 rfl) ?_
        refine lv_sipush (v := 1000) hx hb d_Pa_construction_47 (by decide) ?_
        refine lv_icmp_gt (tgt := 76) hx hb d_Pa_construction_50 (by decide) (fun c_7 => ?_) (fun c_7 => ?_)
        · rw [if_pos c_7] at hL_6
          have we_6 : f_Pa_construction_L46 E S F depth 5000 0 st_3 = some (.inr (0, sx_6)) := hx_6.trans hL_6
          have hl := lv_sub hl (l' := [(0, .ref hp), (1, .int depth), (2, .int r_1)]) [0, 1, 2] rfl
          refine lv_aload_n hx hb d_Pa_construction_76 rfl (lv_at hl 0 rfl) ?_
          refine va_get (D := (dC, dI)) (ci := 2) (v := .ref ht) (C := R_Pa) (T := T_Pa) (N := 7) hx hb hts u_Pa hown hK hP 0 rfl rfl 0 (by decide) (hts _ L_208) (fun _ h9 => h9) rfl d_Pa_construction_77 ?_
          refine lv_iload_n hx hb d_Pa_construction_80 rfl (lv_at hl 2 rfl) ?_
          refine pT_v (g := (p_close sx_6 r_1)) (st := sx_6) (As := [.int r_1]) (rest := []) ⟨hx, hb, hml, hown, hts0⟩ (m_Tr_close l dC dI cI cZ sa rk ht ax_6 (sTr sx_6) okx_6.2.1 _ r_1) hP hD hK hS hA hC hZ L_582 L_583 L_584 L_85 L_585 ⟨rfl, k_Tr_close⟩ ⟨(by show _ ≤ fr0 + 9; omega), (by show _ ≤ lo0 + 323; omega)⟩ rfl rfl hl.1 (Nat.le_of_ble_eq_true rfl) d_Pa_construction_81 rfl hcl hsl (Nat.zero_le _) (Nat.zero_le _) okx_6 (t_close_ok r_1 okx_6.2.1) rfl (fun ad_8 st_8 H locs w_8 ok_8 e1_8 e2_8 hP hD hS => ?_)
          have hcl := cl_next hcl e1_8
          have hsl := cl_next hsl e2_8
          exact mx_vret (stF := st_8) hx hb hr hlocks hK hP hD hS hcl hsl (by unfold f_Pa_construction; rw [bnd_r w_1, bnd_r w_2, bnd_r w_3, if_neg c_4, bnd_r we_6, bnd_r w_8]) ok_8 d_Pa_construction_84
        · rw [if_neg c_7] at hL_6
          refine lv_aload_n hx hb d_Pa_construction_53 rfl (lv_at hl 0 rfl) ?_
          refine lv_iload_n hx hb d_Pa_construction_54 rfl (lv_at hl 3 rfl) ?_
          refine mx_Ui (xm := ⟨"SyntaxTree$Parser", "nextArgument", "(I)Z"⟩) (owner := R_Cu) (As := [.int x3]) (rest := []) ⟨hx, hb, hml, hown, hts0⟩ (m_Cu_nextArgument l hlt dC dI cI cZ sa rk hp hc h a1 a2 a3 a4 ht hq n1 n2 ax_6 sx_6 okx_6 _ x3 (fun z => hn_6 (hL_6.trans (bnd_n z)))) hP hD hK hS hA hC hZ hnt hlocks L_540 L_541 L_543 L_544 L_86 L_545 rfl k_Cu_nextArgument ⟨(by show _ ≤ fr0 + 9; omega), (by show _ ≤ lo0 + 323; omega)⟩ rfl rfl hl.1 (Nat.le_of_ble_eq_true rfl) d_Pa_construction_55 rfl (fun q z => hX_6 q (hL_6.trans (bnd_l z))) hcl hsl (fun r_9 ad_9 st_9 H locs w_9 ok_9 e1_9 e2_9 hP hD hS => ?_)
          have hcl := cl_next hcl e1_9
          have hsl := cl_next hsl e2_9
          rw [bnd_r w_9] at hL_6
          refine lv_if_eq (tgt := 76) hx hb d_Pa_construction_58 (by decide) (fun c_10 => ?_) (fun c_10 => ?_)
          · rw [if_pos c_10] at hL_6
            have we_6 : f_Pa_construction_L46 E S F depth 5000 0 st_3 = some (.inr (0, st_9)) := hx_6.trans hL_6
            have hl := lv_sub hl (l' := [(0, .ref hp), (1, .int depth), (2, .int r_1)]) [0, 1, 2] rfl
            refine lv_aload_n hx hb d_Pa_construction_76 rfl (lv_at hl 0 rfl) ?_
            refine va_get (D := (dC, dI)) (ci := 2) (v := .ref ht) (C := R_Pa) (T := T_Pa) (N := 7) hx hb hts u_Pa hown hK hP 0 rfl rfl 0 (by decide) (hts _ L_208) (fun _ h9 => h9) rfl d_Pa_construction_77 ?_
            refine lv_iload_n hx hb d_Pa_construction_80 rfl (lv_at hl 2 rfl) ?_
            refine pT_v (g := (p_close st_9 r_1)) (st := st_9) (As := [.int r_1]) (rest := []) ⟨hx, hb, hml, hown, hts0⟩ (m_Tr_close l dC dI cI cZ sa rk ht ad_9 (sTr st_9) ok_9.2.1 _ r_1) hP hD hK hS hA hC hZ L_582 L_583 L_584 L_85 L_585 ⟨rfl, k_Tr_close⟩ ⟨(by show _ ≤ fr0 + 9; omega), (by show _ ≤ lo0 + 323; omega)⟩ rfl rfl hl.1 (Nat.le_of_ble_eq_true rfl) d_Pa_construction_81 rfl hcl hsl (Nat.zero_le _) (Nat.zero_le _) ok_9 (t_close_ok r_1 ok_9.2.1) rfl (fun ad_11 st_11 H locs w_11 ok_11 e1_11 e2_11 hP hD hS => ?_)
            have hcl := cl_next hcl e1_11
            have hsl := cl_next hsl e2_11
            exact mx_vret (stF := st_11) hx hb hr hlocks hK hP hD hS hcl hsl (by unfold f_Pa_construction; rw [bnd_r w_1, bnd_r w_2, bnd_r w_3, if_neg c_4, bnd_r we_6, bnd_r w_11]) ok_11 d_Pa_construction_84
          · rw [if_neg c_10] at hL_6
            refine lv_aload_n hx hb d_Pa_construction_61 rfl (lv_at hl 0 rfl) ?_
            refine lv_iconst (v := 0) hx hb d_Pa_construction_62 (by decide) ?_
            refine lv_iload_n hx hb d_Pa_construction_63 rfl (lv_at hl 1 rfl) ?_
            refine lv_iconst (v := 1) hx hb d_Pa_construction_64 (by decide) ?_
            refine lv_iadd hx hb d_Pa_construction_65 ?_
            refine lv_iconst (v := 1) hx hb d_Pa_construction_66 (by decide) ?_
            refine mx_Vv (As := [.int 0, .int (depth + 1), .int 1]) (rest := []) ⟨hx, hb, hml, hown, hts0⟩ (hRE hc ad_9 st_9 ok_9 _ 0 (depth + 1) 1 (fun z => hn_6 (hL_6.trans (bnd_n z)))) hP hD hK hS hA hC hZ hnt hlocks L_569 L_571 L_12 L_87 L_572 k_Pa_expression ⟨(by show _ ≤ fr0 + 9; omega), (by show _ ≤ lo0 + 323; omega)⟩ rfl rfl hl.1 (Nat.le_of_ble_eq_true rfl) d_Pa_construction_67 rfl (fun q z => hX_6 q (hL_6.trans (bnd_l z))) hcl hsl (fun ad_12 st_12 H locs w_12 ok_12 e1_12 e2_12 hP hD hS => ?_)
            have hcl := cl_next hcl e1_12
            have hsl := cl_next hsl e2_12
            rw [bnd_r w_12] at hL_6
            refine lv_iinc (v := (x3 + 1)) (lv' := [(3, .int (x3 + 1)), (0, .ref hp), (1, .int depth), (2, .int r_1)]) hx hb d_Pa_construction_70 hl (k := 3) rfl rfl (by decide) rfl (fun ls hl => ?_)
            refine lv_goto (tgt := 46) hx hb d_Pa_construction_73 (by decide) ?_
            exact ih_6 (x3 + 1) ad_12 st_12 ok_12 _ _ ls _ _ hP hD hS (lv_sub hl [1, 2, 3, 0] rfl) hcl hsl hL_6
    exact lp_6 5000 0 ad_3 st_3 ok_3 _ _ ls _ _ hP hD hS (lv_sub hl [2, 3, 1, 0] rfl) hcl hsl hx_6.symm
def f_Pa_tails_L100 (E : Int32 → Int32 → Int32 → ST → Rz) (S : Int32 → Int32 → ST → Rz) (F : Int32 → Int32 → ST → Rz) (start : Int32) (depth : Int32) (calls : Int32) : Nat → Int32 → ST → Rz
  | 0, _, _ => none
  | fu_15 + 1, x7, sx_15 => (if 1000 < x7 then (some (.inr (0, sx_15))) else (bnd (f_Cu_nextArgument sx_15 x7) (fun r_18 st_18 => (if r_18 = 0 then (some (.inr (0, st_18))) else (bnd (E 0 (depth + 1) 1 st_18) (fun _ st_21 => (f_Pa_tails_L100 E S F start depth calls fu_15 (x7 + 1) st_21)))))))
def f_Pa_tails_L6 (E : Int32 → Int32 → Int32 → ST → Rz) (S : Int32 → Int32 → ST → Rz) (F : Int32 → Int32 → ST → Rz) (start : Int32) (depth : Int32) (calls : Int32) : Nat → Int32 → Int32 → ST → Rz
  | 0, _, _, _ => none
  | fu_1 + 1, x4, x5, sx_1 => (if 1000 < x5 then (some (.inr (0, sx_1))) else (if x4 = 0 then (some (.inr (0, sx_1))) else (bnd (f_Cu_accept sx_1 66) (fun r_8 st_8 => (if r_8 = 0 then (bnd (f_Cu_accept st_8 62) (fun r_10 st_10 => (if r_10 = 0 then (if calls = 0 then (f_Pa_tails_L6 E S F start depth calls fu_1 0 (x5 + 1) st_10) else (bnd (f_Cu_accept st_10 60) (fun r_13 st_13 => (if r_13 = 0 then (f_Pa_tails_L6 E S F start depth calls fu_1 0 (x5 + 1) st_13) else (bnd (f_Pa_tails_L100 E S F start depth calls 5000 0 st_13) (fun _ sx_15 => (bnd (p_wrap sx_15 start 38 0 (sAt sx_1)) (fun _ st_17 => (f_Pa_tails_L6 E S F start depth calls fu_1 x4 (x5 + 1) st_17))))))))) else (bnd (E (-1) (depth + 1) 1 st_10) (fun _ st_22 => (bnd (f_Cu_expect st_22 63) (fun _ st_23 => (bnd (p_wrap st_23 start 37 0 (sAt sx_1)) (fun _ st_24 => (f_Pa_tails_L6 E S F start depth calls fu_1 x4 (x5 + 1) st_24)))))))))) else (bnd (f_Pa_member st_8 start (sAt sx_1)) (fun _ st_25 => (f_Pa_tails_L6 E S F start depth calls fu_1 x4 (x5 + 1) st_25))))))))
def f_Pa_tails (E : Int32 → Int32 → Int32 → ST → Rz) (S : Int32 → Int32 → ST → Rz) (F : Int32 → Int32 → ST → Rz) (st : ST) (start : Int32) (depth : Int32) (calls : Int32) : Rz := (bnd (f_Pa_tails_L6 E S F start depth calls 5000 1 0 st) (fun _ sx_1 => (if calls = 0 then (some (.inr (0, sx_1))) else (bnd (f_Pa_postfix sx_1 start) (fun _ st_4 => (some (.inr (0, st_4))))))))
set_option maxRecDepth 100000 in
set_option maxHeartbeats 4000000 in
theorem m_Pa_tails (l : Launch) (hlt : l.stackTraces = false) (dC : Nat → ClassId) (dI : Nat → Nat → Nat) (cI cZ : ClassId) (sa rk hp h a1 a2 a3 a4 ht hq n1 n2 : Nat) (fr0 lo0 : Nat) (E : Int32 → Int32 → Int32 → ST → Rz) (S : Int32 → Int32 → ST → Rz) (F : Int32 → Int32 → ST → Rz) (hRE : ∀ (hc : Nat) (ad : AD) (st : ST), okSt st → ∀ (sz : Nat) (level depth inn : Int32), E level depth inn st ≠ none → cPv l y_Pa_expression c_Pa_expression 6 fr0 lo0 (dC, dI) cI cZ sa rk hp hc h a1 a2 a3 a4 ht hq n1 n2 ad st sz [.ref hp, .int level, .int depth, .int inn] (E level depth inn st)) (hRS : ∀ (hc : Nat) (ad : AD) (st : ST), okSt st → ∀ (sz : Nat) (depth first : Int32), S depth first st ≠ none → cPv l y_Pa_statement c_Pa_statement 4 fr0 lo0 (dC, dI) cI cZ sa rk hp hc h a1 a2 a3 a4 ht hq n1 n2 ad st sz [.ref hp, .int depth, .int first] (S depth first st)) (hRF : ∀ (hc : Nat) (ad : AD) (st : ST), okSt st → ∀ (sz : Nat) (form depth : Int32), F form depth st ≠ none → cPv l y_Pa_function c_Pa_function 10 fr0 lo0 (dC, dI) cI cZ sa rk hp hc h a1 a2 a3 a4 ht hq n1 n2 ad st sz [.ref hp, .int form, .int depth] (F form depth st)) (hc : Nat) (ad : AD) (st : ST) (hst : okSt st) (sz : Nat) (start : Int32) (depth : Int32) (calls : Int32) (hg : f_Pa_tails E S F st start depth calls ≠ none) : cPv l y_Pa_tails c_Pa_tails 8 (fr0 + 9) (lo0 + 347) (dC, dI) cI cZ sa rk hp hc h a1 a2 a3 a4 ht hq n1 n2 ad st sz [.ref hp, .int start, .int depth, .int calls] (f_Pa_tails E S F st start depth calls) := by
  refine vx_ofW (cc := c_Pa_tails) (maxL := 8) (ret := none) (by decide) rfl ?_
  intro p e s m args below meth c s₁ B hml hnt hv
  obtain ⟨rfl, hsz, hP, hK, hD0, hC, hZ⟩ := hv
  have hx := B.exec
  have hb := B.bytes
  have hr := B.returns
  have hts0 := atoms_spec (ws := wy y_Pa_tails c_Pa_tails 8 none) B.pre
  have hts := htsL hts0
  have hown : s.vm.findClass R_Pa = some m.cls := findClass_of_methodNamed B.named
  have hlocks := B.notSynchronized
  subst hsz
  have hD := hD0.self (sz := s.heap.size)
  generalize hAe : va_A (wQ cI cZ hp hc h a1 a2 a3 a4 ht hq n1 n2 (ad, st)) s.heap.size = A at hD hZ ⊢
  have hA : ∀ q : Nat, s.heap.size ≤ q → A q := fun q h => by rw [← hAe]; exact Or.inr h
  have hS : va_S A s.heap s.heap [] := va_S.rf
  have hcl : 0 + bC st ≤ bC st := Nat.le_of_eq (Nat.zero_add _)
  have hsl : 0 + bS st ≤ bS st := Nat.le_of_eq (Nat.zero_add _)
  have hl := lv_entry ([.ref hp, .int start, .int depth, .int calls]) (n := 8) (Nat.le_of_ble_eq_true rfl)
  rw [lg_entry_eq]
  generalize (lg_sl ([.ref hp, .int start, .int depth, .int calls]) ++ List.replicate (8 - (lg_sl ([.ref hp, .int start, .int depth, .int calls])).length) Slot.unset).toArray = ls at hl ⊢
  have hl : lv_has ls 8 [(0, .ref hp), (1, .int start), (2, .int depth), (3, .int calls)] := hl
  refine lv_iconst (v := 1) hx hb d_Pa_tails_0 (by decide) ?_
  refine lv_istore (lv' := [(4, .int 1), (0, .ref hp), (1, .int start), (2, .int depth), (3, .int calls)]) hx hb d_Pa_tails_1 hl (by decide) rfl (fun ls hl => ?_)
  refine lv_iconst (v := 0) hx hb d_Pa_tails_3 (by decide) ?_
  refine lv_istore (lv' := [(5, .int 0), (4, .int 1), (0, .ref hp), (1, .int start), (2, .int depth), (3, .int calls)]) hx hb d_Pa_tails_4 hl (by decide) rfl (fun ls hl => ?_)
  obtain ⟨x_1, hx_1⟩ : ∃ z, f_Pa_tails_L6 E S F start depth calls 5000 1 0 st = z := ⟨_, rfl⟩
  have hn_1 : x_1 ≠ none := (fun z => hg (by unfold f_Pa_tails; rw [bnd_n (hx_1.trans z)]))
  have hX_1 : ∀ q, x_1 = some (.inl q) → (f_Pa_tails E S F st start depth calls) = some (.inl q) := (fun q z => by unfold f_Pa_tails; rw [bnd_l (hx_1.trans z)])
  have lp_1 : ∀ (fu : Nat) (x4 x5 : Int32) (ax_1 : AD) (sx_1 : ST) (okx_1 : okSt sx_1) (H : Heap) (locs : List Loc) (ls : Array Slot) (cells slots : Nat), va_P (dC, dI) cls (wQ cI cZ hp hc h a1 a2 a3 a4 ht hq n1 n2 (ax_1, sx_1)) H → va_D A (wQ cI cZ hp hc h a1 a2 a3 a4 ht hq n1 n2 (ax_1, sx_1)) → va_S A s.heap H locs → lv_has ls 8 [(0, .ref hp), (1, .int start), (2, .int depth), (3, .int calls), (4, .int x4), (5, .int x5)] → cells + bC sx_1 ≤ bC st → slots + bS sx_1 ≤ bS st → x_1 = f_Pa_tails_L6 E S F start depth calls fu x4 x5 sx_1 → W p l e (headSpec (wy y_Pa_tails c_Pa_tails 8 none) { frames := (fr0 + 9), cells := bC st, slots := bS st, locals := (lo0 + 347) }).room s m [.ref hp, .int start, .int depth, .int calls].toArray below meth c H locs cells slots (vx_MQ below (va_Qv (poN (f_Pa_tails E S F st start depth calls) st 0) (wB (dC, dI) cI cZ A (wQ cI cZ hp hc h a1 a2 a3 a4 ht hq n1 n2)) A) (xP (dC, dI) cI cZ hp h a1 a2 a3 a4 ht hq n1 n2 (f_Pa_tails E S F st start depth calls) st A) [.ref hp, .int start, .int depth, .int calls].toArray s (mcO st (f_Pa_tails E S F st start depth calls)) (msO st (f_Pa_tails E S F st start depth calls)) A) (F0 m 6 ls []) := by
    intro fu
    induction fu with
    | zero => intro x4 x5 ax_1 sx_1 okx_1 H locs ls cells slots hP hD hS hl hcl hsl hL_1; exact absurd (hL_1.trans rfl) hn_1
    | succ fu_1 ih_1 =>
      intro x4 x5 ax_1 sx_1 okx_1 H locs ls cells slots hP hD hS hl hcl hsl hL_1
      rw [f_Pa_tails_L6] at hL_1
      refine lv_iload hx hb d_Pa_tails_6 (lv_at hl 5 rfl) ?_
      refine lv_sipush (v := 1000) hx hb d_Pa_tails_8 (by decide) ?_
      refine lv_icmp_gt (tgt := 157) hx hb d_Pa_tails_11 (by decide) (fun c_2 => ?_) (fun c_2 => ?_)
      · rw [if_pos c_2] at hL_1
        have we_1 : f_Pa_tails_L6 E S F start depth calls 5000 1 0 st = some (.inr (0, sx_1)) := hx_1.trans hL_1
        have hl := lv_sub hl (l' := [(0, .ref hp), (1, .int start), (2, .int depth), (3, .int calls)]) [0, 1, 2, 3] rfl
        refine lv_iload_n hx hb d_Pa_tails_157 rfl (lv_at hl 3 rfl) ?_
        refine lv_if_eq (tgt := 166) hx hb d_Pa_tails_158 (by decide) (fun c_3 => ?_) (fun c_3 => ?_)
        · exact mx_vret (stF := sx_1) hx hb hr hlocks hK hP hD hS hcl hsl (by unfold f_Pa_tails; rw [bnd_r we_1, if_pos c_3]) okx_1 d_Pa_tails_166
        · refine lv_aload_n hx hb d_Pa_tails_161 rfl (lv_at hl 0 rfl) ?_
          refine lv_iload_n hx hb d_Pa_tails_162 rfl (lv_at hl 1 rfl) ?_
          refine mx_Vv (As := [.int start]) (rest := []) ⟨hx, hb, hml, hown, hts0⟩ (m_Pa_postfix l hlt dC dI cI cZ sa rk hp hc h a1 a2 a3 a4 ht hq n1 n2 ax_1 sx_1 okx_1 _ start (fun z => hg (by unfold f_Pa_tails; rw [bnd_r we_1, if_neg c_3, bnd_n z]))) hP hD hK hS hA hC hZ hnt hlocks L_674 L_676 L_29 L_87 L_677 k_Pa_postfix ⟨(by show _ ≤ fr0 + 9; omega), (by show _ ≤ lo0 + 347; omega)⟩ rfl rfl hl.1 (Nat.le_of_ble_eq_true rfl) d_Pa_tails_163 rfl (fun q z => by unfold f_Pa_tails; rw [bnd_r we_1, if_neg c_3, bnd_l z]) hcl hsl (fun ad_4 st_4 H locs w_4 ok_4 e1_4 e2_4 hP hD hS => ?_)
          have hcl := cl_next hcl e1_4
          have hsl := cl_next hsl e2_4
          exact mx_vret (stF := st_4) hx hb hr hlocks hK hP hD hS hcl hsl (by unfold f_Pa_tails; rw [bnd_r we_1, if_neg c_3, bnd_r w_4]) ok_4 d_Pa_tails_166
      · rw [if_neg c_2] at hL_1
        refine lv_iload hx hb d_Pa_tails_14 (lv_at hl 4 rfl) ?_
        refine lv_if_eq (tgt := 157) hx hb d_Pa_tails_16 (by decide) (fun c_5 => ?_) (fun c_5 => ?_)
        · rw [if_pos c_5] at hL_1
          have we_1 : f_Pa_tails_L6 E S F start depth calls 5000 1 0 st = some (.inr (0, sx_1)) := hx_1.trans hL_1
          have hl := lv_sub hl (l' := [(0, .ref hp), (1, .int start), (2, .int depth), (3, .int calls)]) [0, 1, 2, 3] rfl
          refine lv_iload_n hx hb d_Pa_tails_157 rfl (lv_at hl 3 rfl) ?_
          refine lv_if_eq (tgt := 166) hx hb d_Pa_tails_158 (by decide) (fun c_6 => ?_) (fun c_6 => ?_)
          · exact mx_vret (stF := sx_1) hx hb hr hlocks hK hP hD hS hcl hsl (by unfold f_Pa_tails; rw [bnd_r we_1, if_pos c_6]) okx_1 d_Pa_tails_166
          · refine lv_aload_n hx hb d_Pa_tails_161 rfl (lv_at hl 0 rfl) ?_
            refine lv_iload_n hx hb d_Pa_tails_162 rfl (lv_at hl 1 rfl) ?_
            refine mx_Vv (As := [.int start]) (rest := []) ⟨hx, hb, hml, hown, hts0⟩ (m_Pa_postfix l hlt dC dI cI cZ sa rk hp hc h a1 a2 a3 a4 ht hq n1 n2 ax_1 sx_1 okx_1 _ start (fun z => hg (by unfold f_Pa_tails; rw [bnd_r we_1, if_neg c_6, bnd_n z]))) hP hD hK hS hA hC hZ hnt hlocks L_674 L_676 L_29 L_87 L_677 k_Pa_postfix ⟨(by show _ ≤ fr0 + 9; omega), (by show _ ≤ lo0 + 347; omega)⟩ rfl rfl hl.1 (Nat.le_of_ble_eq_true rfl) d_Pa_tails_163 rfl (fun q z => by unfold f_Pa_tails; rw [bnd_r we_1, if_neg c_6, bnd_l z]) hcl hsl (fun ad_7 st_7 H locs w_7 ok_7 e1_7 e2_7 hP hD hS => ?_)
            have hcl := cl_next hcl e1_7
            have hsl := cl_next hsl e2_7
            exact mx_vret (stF := st_7) hx hb hr hlocks hK hP hD hS hcl hsl (by unfold f_Pa_tails; rw [bnd_r we_1, if_neg c_6, bnd_r w_7]) ok_7 d_Pa_tails_166
        · rw [if_neg c_5] at hL_1
          refine lv_aload_n hx hb d_Pa_tails_19 rfl (lv_at hl 0 rfl) ?_
          refine va_get (D := (dC, dI)) (ci := 2) (v := .int (sAt sx_1)) (C := R_Pa) (T := T_Pa) (N := 7) hx hb hts u_Pa hown hK hP 0 rfl rfl 4 (by decide) (hts _ L_215) (fun x9 h9 => u_same (hts _ L_216) x9 h9) rfl d_Pa_tails_20 ?_
          refine lv_istore (lv' := [(6, .int (sAt sx_1)), (0, .ref hp), (1, .int start), (2, .int depth), (3, .int calls), (4, .int x4), (5, .int x5)]) hx hb d_Pa_tails_23 hl (by decide) rfl (fun ls hl => ?_)
          refine lv_aload_n hx hb d_Pa_tails_25 rfl (lv_at hl 1 rfl) ?_
          refine lv_bipush (v := 66) hx hb d_Pa_tails_26 (by decide) ?_
          refine mx_Ui (xm := ⟨"SyntaxTree$Parser", "accept", "(I)Z"⟩) (owner := R_Cu) (As := [.int 66]) (rest := []) ⟨hx, hb, hml, hown, hts0⟩ (m_Cu_accept l hlt dC dI cI cZ sa rk hp hc h a1 a2 a3 a4 ht hq n1 n2 ax_1 sx_1 okx_1 _ 66 (fun z => hn_1 (hL_1.trans (bnd_n z)))) hP hD hK hS hA hC hZ hnt hlocks L_556 L_557 L_559 L_547 L_86 L_550 rfl k_Cu_accept ⟨(by show _ ≤ fr0 + 9; omega), (by show _ ≤ lo0 + 347; omega)⟩ rfl rfl hl.1 (Nat.le_of_ble_eq_true rfl) d_Pa_tails_28 rfl (fun q z => hX_1 q (hL_1.trans (bnd_l z))) hcl hsl (fun r_8 ad_8 st_8 H locs w_8 ok_8 e1_8 e2_8 hP hD hS => ?_)
          have hcl := cl_next hcl e1_8
          have hsl := cl_next hsl e2_8
          rw [bnd_r w_8] at hL_1
          refine lv_if_eq (tgt := 44) hx hb d_Pa_tails_31 (by decide) (fun c_9 => ?_) (fun c_9 => ?_)
          · rw [if_pos c_9] at hL_1
            refine lv_aload_n hx hb d_Pa_tails_44 rfl (lv_at hl 1 rfl) ?_
            refine lv_bipush (v := 62) hx hb d_Pa_tails_45 (by decide) ?_
            refine mx_Ui (xm := ⟨"SyntaxTree$Parser", "accept", "(I)Z"⟩) (owner := R_Cu) (As := [.int 62]) (rest := []) ⟨hx, hb, hml, hown, hts0⟩ (m_Cu_accept l hlt dC dI cI cZ sa rk hp hc h a1 a2 a3 a4 ht hq n1 n2 ad_8 st_8 ok_8 _ 62 (fun z => hn_1 (hL_1.trans (bnd_n z)))) hP hD hK hS hA hC hZ hnt hlocks L_556 L_557 L_559 L_547 L_86 L_550 rfl k_Cu_accept ⟨(by show _ ≤ fr0 + 9; omega), (by show _ ≤ lo0 + 347; omega)⟩ rfl rfl hl.1 (Nat.le_of_ble_eq_true rfl) d_Pa_tails_47 rfl (fun q z => hX_1 q (hL_1.trans (bnd_l z))) hcl hsl (fun r_10 ad_10 st_10 H locs w_10 ok_10 e1_10 e2_10 hP hD hS => ?_)
            have hcl := cl_next hcl e1_10
            have hsl := cl_next hsl e2_10
            rw [bnd_r w_10] at hL_1
            refine lv_if_eq (tgt := 84) hx hb d_Pa_tails_50 (by decide) (fun c_11 => ?_) (fun c_11 => ?_)
            · rw [if_pos c_11] at hL_1
              refine lv_iload_n hx hb d_Pa_tails_84 rfl (lv_at hl 4 rfl) ?_
              refine lv_if_eq (tgt := 148) hx hb d_Pa_tails_85 (by decide) (fun c_12 => ?_) (fun c_12 => ?_)
              · rw [if_pos c_12] at hL_1
                refine lv_iconst (v := 0) hx hb d_Pa_tails_148 (by decide) ?_
                refine lv_istore (lv' := [(4, .int 0), (6, .int (sAt sx_1)), (0, .ref hp), (1, .int start), (2, .int depth), (3, .int calls), (5, .int x5)]) hx hb d_Pa_tails_149 hl (by decide) rfl (fun ls hl => ?_)
                refine lv_iinc (v := (x5 + 1)) (lv' := [(5, .int (x5 + 1)), (4, .int 0), (6, .int (sAt sx_1)), (0, .ref hp), (1, .int start), (2, .int depth), (3, .int calls)]) hx hb d_Pa_tails_151 hl (k := 6) rfl rfl (by decide) rfl (fun ls hl => ?_)
                refine lv_goto (tgt := 6) hx hb d_Pa_tails_154 (by decide) ?_
                exact ih_1 0 (x5 + 1) ad_10 st_10 ok_10 _ _ ls _ _ hP hD hS (lv_sub hl [3, 4, 5, 6, 1, 0] rfl) hcl hsl hL_1
              · rw [if_neg c_12] at hL_1
                refine lv_aload_n hx hb d_Pa_tails_88 rfl (lv_at hl 1 rfl) ?_
                refine lv_bipush (v := 60) hx hb d_Pa_tails_89 (by decide) ?_
                refine mx_Ui (xm := ⟨"SyntaxTree$Parser", "accept", "(I)Z"⟩) (owner := R_Cu) (As := [.int 60]) (rest := []) ⟨hx, hb, hml, hown, hts0⟩ (m_Cu_accept l hlt dC dI cI cZ sa rk hp hc h a1 a2 a3 a4 ht hq n1 n2 ad_10 st_10 ok_10 _ 60 (fun z => hn_1 (hL_1.trans (bnd_n z)))) hP hD hK hS hA hC hZ hnt hlocks L_556 L_557 L_559 L_547 L_86 L_550 rfl k_Cu_accept ⟨(by show _ ≤ fr0 + 9; omega), (by show _ ≤ lo0 + 347; omega)⟩ rfl rfl hl.1 (Nat.le_of_ble_eq_true rfl) d_Pa_tails_91 rfl (fun q z => hX_1 q (hL_1.trans (bnd_l z))) hcl hsl (fun r_13 ad_13 st_13 H locs w_13 ok_13 e1_13 e2_13 hP hD hS => ?_)
                have hcl := cl_next hcl e1_13
                have hsl := cl_next hsl e2_13
                rw [bnd_r w_13] at hL_1
                refine lv_if_eq (tgt := 148) hx hb d_Pa_tails_94 (by decide) (fun c_14 => ?_) (fun c_14 => ?_)
                · rw [if_pos c_14] at hL_1
                  refine lv_iconst (v := 0) hx hb d_Pa_tails_148 (by decide) ?_
                  refine lv_istore (lv' := [(4, .int 0), (6, .int (sAt sx_1)), (0, .ref hp), (1, .int start), (2, .int depth), (3, .int calls), (5, .int x5)]) hx hb d_Pa_tails_149 hl (by decide) rfl (fun ls hl => ?_)
                  refine lv_iinc (v := (x5 + 1)) (lv' := [(5, .int (x5 + 1)), (4, .int 0), (6, .int (sAt sx_1)), (0, .ref hp), (1, .int start), (2, .int depth), (3, .int calls)]) hx hb d_Pa_tails_151 hl (k := 6) rfl rfl (by decide) rfl (fun ls hl => ?_)
                  refine lv_goto (tgt := 6) hx hb d_Pa_tails_154 (by decide) ?_
                  exact ih_1 0 (x5 + 1) ad_13 st_13 ok_13 _ _ ls _ _ hP hD hS (lv_sub hl [3, 4, 5, 6, 1, 0] rfl) hcl hsl hL_1
                · rw [if_neg c_14] at hL_1
                  refine lv_iconst (v := 0) hx hb d_Pa_tails_97 (by decide) ?_
                  refine lv_istore (lv' := [(7, .int 0), (6, .int (sAt sx_1)), (0, .ref hp), (1, .int start), (2, .int depth), (3, .int calls), (4, .int x4), (5, .int x5)]) hx hb d_Pa_tails_98 hl (by decide) rfl (fun ls hl => ?_)
                  obtain ⟨x_15, hx_15⟩ : ∃ z, f_Pa_tails_L100 E S F start depth calls 5000 0 st_13 = z := ⟨_, rfl⟩
                  have hn_15 : x_15 ≠ none := (fun z => hn_1 (hL_1.trans (bnd_n (hx_15.trans z))))
                  have hX_15 : ∀ q, x_15 = some (.inl q) → (f_Pa_tails E S F st start depth calls) = some (.inl q) := (fun q z => hX_1 q (hL_1.trans (bnd_l (hx_15.trans z))))
                  have lp_15 : ∀ (fu : Nat) (x7 : Int32) (ax_15 : AD) (sx_15 : ST) (okx_15 : okSt sx_15) (H : Heap) (locs : List Loc) (ls : Array Slot) (cells slots : Nat), va_P (dC, dI) cls (wQ cI cZ hp hc h a1 a2 a3 a4 ht hq n1 n2 (ax_15, sx_15)) H → va_D A (wQ cI cZ hp hc h a1 a2 a3 a4 ht hq n1 n2 (ax_15, sx_15)) → va_S A s.heap H locs → lv_has ls 8 [(0, .ref hp), (1, .int start), (2, .int depth), (3, .int calls), (4, .int x4), (5, .int x5), (6, .int (sAt sx_1)), (7, .int x7)] → cells + bC sx_15 ≤ bC st → slots + bS sx_15 ≤ bS st → x_15 = f_Pa_tails_L100 E S F start depth calls fu x7 sx_15 → W p l e (headSpec (wy y_Pa_tails c_Pa_tails 8 none) { frames := (fr0 + 9), cells := bC st, slots := bS st, locals := (lo0 + 347) }).room s m [.ref hp, .int start, .int depth, .int calls].toArray below meth c H locs cells slots (vx_MQ below (va_Qv (poN (f_Pa_tails E S F st start depth calls) st 0) (wB (dC, dI) cI cZ A (wQ cI cZ hp hc h a1 a2 a3 a4 ht hq n1 n2)) A) (xP (dC, dI) cI cZ hp h a1 a2 a3 a4 ht hq n1 n2 (f_Pa_tails E S F st start depth calls) st A) [.ref hp, .int start, .int depth, .int calls].toArray s (mcO st (f_Pa_tails E S F st start depth calls)) (msO st (f_Pa_tails E S F st start depth calls)) A) (F0 m 100 ls []) := by
                    intro fu
                    induction fu with
                    | zero => intro x7 ax_15 sx_15 okx_15 H locs ls cells slots hP hD hS hl hcl hsl hL_15; exact absurd (hL_15.trans rfl) hn_15
                    | succ fu_15 ih_15 =>
                      intro x7 ax_15 sx_15 okx_15 H locs ls cells slots hP hD hS hl hcl hsl hL_15
                      rw [f_Pa_tails_L100] at hL_15
                      refine lv_iload hx hb d_Pa_tails_100 (lv_at hl 7 rfl) ?_
                      refine lv_sipush (v := 1000) hx hb d_Pa_tails_102 (by decide) ?_
                      refine lv_icmp_gt (tgt := 132) hx hb d_Pa_tails_105 (by decide) (fun c_16 => ?_) (fun c_16 => ?_)
                      · rw [if_pos c_16] at hL_15
                        have we_15 : f_Pa_tails_L100 E S F start depth calls 5000 0 st_13 = some (.inr (0, sx_15)) := hx_15.trans hL_15
                        have hl := lv_sub hl (l' := [(0, .ref hp), (1, .int start), (2, .int depth), (3, .int calls), (4, .int x4), (5, .int x5), (6, .int (sAt sx_1))]) [0, 1, 2, 3, 4, 5, 6] rfl
                        rw [bnd_r we_15] at hL_1
                        refine lv_aload_n hx hb d_Pa_tails_132 rfl (lv_at hl 0 rfl) ?_
                        refine va_get (D := (dC, dI)) (ci := 2) (v := .ref ht) (C := R_Pa) (T := T_Pa) (N := 7) hx hb hts u_Pa hown hK hP 0 rfl rfl 0 (by decide) (hts _ L_208) (fun _ h9 => h9) rfl d_Pa_tails_133 ?_
                        refine lv_iload_n hx hb d_Pa_tails_136 rfl (lv_at hl 1 rfl) ?_
                        refine lv_bipush (v := 38) hx hb d_Pa_tails_137 (by decide) ?_
                        refine lv_iconst (v := 0) hx hb d_Pa_tails_139 (by decide) ?_
                        refine lv_iload hx hb d_Pa_tails_140 (lv_at hl 6 rfl) ?_
                        have hn_17 : (p_wrap sx_15 start 38 0 (sAt sx_1)) ≠ none := (fun z => hn_1 (hL_1.trans (bnd_n z)))
                        refine pT_v (g := (p_wrap sx_15 start 38 0 (sAt sx_1))) (st := sx_15) (As := [.int start, .int 38, .int 0, .int (sAt sx_1)]) (rest := []) ⟨hx, hb, hml, hown, hts0⟩ (m_Tr_wrap l dC dI cI cZ sa rk ht ax_15 (sTr sx_15) okx_15.2.1 _ start 38 0 (sAt sx_1) (p_wrap_c hn_17).1 (p_wrap_c hn_17).2.1) hP hD hK hS hA hC hZ L_669 L_670 L_671 L_85 L_672 ⟨rfl, k_Tr_wrap⟩ ⟨(by show _ ≤ fr0 + 9; omega), (by show _ ≤ lo0 + 347; omega)⟩ rfl rfl hl.1 (Nat.le_of_ble_eq_true rfl) d_Pa_tails_142 rfl hcl hsl (p_wrap_c hn_17).2.2.1 (p_wrap_c hn_17).2.2.2 okx_15 (t_wrap_ok start 38 0 (sAt sx_1) okx_15.2.1 (p_wrap_c hn_17).1 (p_wrap_c hn_17).2.1) (p_wrap_e hn_17) (fun ad_17 st_17 H locs w_17 ok_17 e1_17 e2_17 hP hD hS => ?_)
                        have hcl := cl_next hcl e1_17
                        have hsl := cl_next hsl e2_17
                        rw [bnd_r w_17] at hL_1
                        refine lv_goto (tgt := 151) hx hb d_Pa_tails_145 (by decide) ?_
                        refine lv_iinc (v := (x5 + 1)) (lv' := [(5, .int (x5 + 1)), (0, .ref hp), (1, .int start), (2, .int depth), (3, .int calls), (4, .int x4), (6, .int (sAt sx_1))]) hx hb d_Pa_tails_151 hl (k := 5) rfl rfl (by decide) rfl (fun ls hl => ?_)
                        refine lv_goto (tgt := 6) hx hb d_Pa_tails_154 (by decide) ?_
                        exact ih_1 x4 (x5 + 1) ad_17 st_17 ok_17 _ _ ls _ _ hP hD hS (lv_sub hl [1, 2, 3, 4, 5, 0] rfl) hcl hsl hL_1
                      · rw [if_neg c_16] at hL_15
                        refine lv_aload_n hx hb d_Pa_tails_108 rfl (lv_at hl 0 rfl) ?_
                        refine lv_iload hx hb d_Pa_tails_109 (lv_at hl 7 rfl) ?_
                        refine mx_Ui (xm := ⟨"SyntaxTree$Parser", "nextArgument", "(I)Z"⟩) (owner := R_Cu) (As := [.int x7]) (rest := []) ⟨hx, hb, hml, hown, hts0⟩ (m_Cu_nextArgument l hlt dC dI cI cZ sa rk hp hc h a1 a2 a3 a4 ht hq n1 n2 ax_15 sx_15 okx_15 _ x7 (fun z => hn_15 (hL_15.trans (bnd_n z)))) hP hD hK hS hA hC hZ hnt hlocks L_540 L_541 L_543 L_544 L_86 L_545 rfl k_Cu_nextArgument ⟨(by show _ ≤ fr0 + 9; omega), (by show _ ≤ lo0 + 347; omega)⟩ rfl rfl hl.1 (Nat.le_of_ble_eq_true rfl) d_Pa_tails_111 rfl (fun q z => hX_15 q (hL_15.trans (bnd_l z))) hcl hsl (fun r_18 ad_18 st_18 H locs w_18 ok_18 e1_18 e2_18 hP hD hS => ?_)
                        have hcl := cl_next hcl e1_18
                        have hsl := cl_next hsl e2_18
                        rw [bnd_r w_18] at hL_15
                        refine lv_if_eq (tgt := 132) hx hb d_Pa_tails_114 (by decide) (fun c_19 => ?_) (fun c_19 => ?_)
                        · rw [if_pos c_19] at hL_15
                          have we_15 : f_Pa_tails_L100 E S F start depth calls 5000 0 st_13 = some (.inr (0, st_18)) := hx_15.trans hL_15
                          have hl := lv_sub hl (l' := [(0, .ref hp), (1, .int start), (2, .int depth), (3, .int calls), (4, .int x4), (5, .int x5), (6, .int (sAt sx_1))]) [0, 1, 2, 3, 4, 5, 6] rfl
                          rw [bnd_r we_15] at hL_1
                          refine lv_aload_n hx hb d_Pa_tails_132 rfl (lv_at hl 0 rfl) ?_
                          refine va_get (D := (dC, dI)) (ci := 2) (v := .ref ht) (C := R_Pa) (T := T_Pa) (N := 7) hx hb hts u_Pa hown hK hP 0 rfl rfl 0 (by decide) (hts _ L_208) (fun _ h9 => h9) rfl d_Pa_tails_133 ?_
                          refine lv_iload_n hx hb d_Pa_tails_136 rfl (lv_at hl 1 rfl) ?_
                          refine lv_bipush (v := 38) hx hb d_Pa_tails_137 (by decide) ?_
                          refine lv_iconst (v := 0) hx hb d_Pa_tails_139 (by decide) ?_
                          refine lv_iload hx hb d_Pa_tails_140 (lv_at hl 6 rfl) ?_
                          have hn_20 : (p_wrap st_18 start 38 0 (sAt sx_1)) ≠ none := (fun z => hn_1 (hL_1.trans (bnd_n z)))
                          refine pT_v (g := (p_wrap st_18 start 38 0 (sAt sx_1))) (st := st_18) (As := [.int start, .int 38, .int 0, .int (sAt sx_1)]) (rest := []) ⟨hx, hb, hml, hown, hts0⟩ (m_Tr_wrap l dC dI cI cZ sa rk ht ad_18 (sTr st_18) ok_18.2.1 _ start 38 0 (sAt sx_1) (p_wrap_c hn_20).1 (p_wrap_c hn_20).2.1) hP hD hK hS hA hC hZ L_669 L_670 L_671 L_85 L_672 ⟨rfl, k_Tr_wrap⟩ ⟨(by show _ ≤ fr0 + 9; omega), (by show _ ≤ lo0 + 347; omega)⟩ rfl rfl hl.1 (Nat.le_of_ble_eq_true rfl) d_Pa_tails_142 rfl hcl hsl (p_wrap_c hn_20).2.2.1 (p_wrap_c hn_20).2.2.2 ok_18 (t_wrap_ok start 38 0 (sAt sx_1) ok_18.2.1 (p_wrap_c hn_20).1 (p_wrap_c hn_20).2.1) (p_wrap_e hn_20) (fun ad_20 st_20 H locs w_20 ok_20 e1_20 e2_20 hP hD hS => ?_)
                          have hcl := cl_next hcl e1_20
                          have hsl := cl_next hsl e2_20
                          rw [bnd_r w_20] at hL_1
                          refine lv_goto (tgt := 151) hx hb d_Pa_tails_145 (by decide) ?_
                          refine lv_iinc (v := (x5 + 1)) (lv' := [(5, .int (x5 + 1)), (0, .ref hp), (1, .int start), (2, .int depth), (3, .int calls), (4, .int x4), (6, .int (sAt sx_1))]) hx hb d_Pa_tails_151 hl (k := 5) rfl rfl (by decide) rfl (fun ls hl => ?_)
                          refine lv_goto (tgt := 6) hx hb d_Pa_tails_154 (by decide) ?_
                          exact ih_1 x4 (x5 + 1) ad_20 st_20 ok_20 _ _ ls _ _ hP hD hS (lv_sub hl [1, 2, 3, 4, 5, 0] rfl) hcl hsl hL_1
                        · rw [if_neg c_19] at hL_15
                          refine lv_aload_n hx hb d_Pa_tails_117 rfl (lv_at hl 0 rfl) ?_
                          refine lv_iconst (v := 0) hx hb d_Pa_tails_118 (by decide) ?_
                          refine lv_iload_n hx hb d_Pa_tails_119 rfl (lv_at hl 2 rfl) ?_
                          refine lv_iconst (v := 1) hx hb d_Pa_tails_120 (by decide) ?_
                          refine lv_iadd hx hb d_Pa_tails_121 ?_
                          refine lv_iconst (v := 1) hx hb d_Pa_tails_122 (by decide) ?_
                          refine mx_Vv (As := [.int 0, .int (depth + 1), .int 1]) (rest := []) ⟨hx, hb, hml, hown, hts0⟩ (hRE hc ad_18 st_18 ok_18 _ 0 (depth + 1) 1 (fun z => hn_15 (hL_15.trans (bnd_n z)))) hP hD hK hS hA hC hZ hnt hlocks L_569 L_571 L_12 L_87 L_572 k_Pa_expression ⟨(by show _ ≤ fr0 + 9; omega), (by show _ ≤ lo0 + 347; omega)⟩ rfl rfl hl.1 (Nat.le_of_ble_eq_true rfl) d_Pa_tails_123 rfl (fun q z => hX_15 q (hL_15.trans (bnd_l z))) hcl hsl (fun ad_21 st_21 H locs w_21 ok_21 e1_21 e2_21 hP hD hS => ?_)
                          have hcl := cl_next hcl e1_21
                          have hsl := cl_next hsl e2_21
                          rw [bnd_r w_21] at hL_15
                          refine lv_iinc (v := (x7 + 1)) (lv' := [(7, .int (x7 + 1)), (0, .ref hp), (1, .int start), (2, .int depth), (3, .int calls), (4, .int x4), (5, .int x5), (6, .int (sAt sx_1))]) hx hb d_Pa_tails_126 hl (k := 7) rfl rfl (by decide) rfl (fun ls hl => ?_)
                          refine lv_goto (tgt := 100) hx hb d_Pa_tails_129 (by decide) ?_
                          exact ih_15 (x7 + 1) ad_21 st_21 ok_21 _ _ ls _ _ hP hD hS (lv_sub hl [1, 2, 3, 4, 5, 6, 7, 0] rfl) hcl hsl hL_15
                  exact lp_15 5000 0 ad_13 st_13 ok_13 _ _ ls _ _ hP hD hS (lv_sub hl [2, 3, 4, 5, 6, 7, 1, 0] rfl) hcl hsl hx_15.symm
            · rw [if_neg c_11] at hL_1
              refine lv_aload_n hx hb d_Pa_tails_53 rfl (lv_at hl 1 rfl) ?_
              refine lv_iconst (v := (-1)) hx hb d_Pa_tails_54 (by decide) ?_
              refine lv_iload_n hx hb d_Pa_tails_55 rfl (lv_at hl 3 rfl) ?_
              refine lv_iconst (v := 1) hx hb d_Pa_tails_56 (by decide) ?_
              refine lv_iadd hx hb d_Pa_tails_57 ?_
              refine lv_iconst (v := 1) hx hb d_Pa_tails_58 (by decide) ?_
              refine mx_Vv (As := [.int (-1), .int (depth + 1), .int 1]) (rest := []) ⟨hx, hb, hml, hown, hts0⟩ (hRE hc ad_10 st_10 ok_10 _ (-1) (depth + 1) 1 (fun z => hn_1 (hL_1.trans (bnd_n z)))) hP hD hK hS hA hC hZ hnt hlocks L_569 L_571 L_12 L_87 L_572 k_Pa_expression ⟨(by show _ ≤ fr0 + 9; omega), (by show _ ≤ lo0 + 347; omega)⟩ rfl rfl hl.1 (Nat.le_of_ble_eq_true rfl) d_Pa_tails_59 rfl (fun q z => hX_1 q (hL_1.trans (bnd_l z))) hcl hsl (fun ad_22 st_22 H locs w_22 ok_22 e1_22 e2_22 hP hD hS => ?_)
              have hcl := cl_next hcl e1_22
              have hsl := cl_next hsl e2_22
              rw [bnd_r w_22] at hL_1
              refine lv_aload_n hx hb d_Pa_tails_62 rfl (lv_at hl 1 rfl) ?_
              refine lv_bipush (v := 63) hx hb d_Pa_tails_63 (by decide) ?_
              refine mx_Uv (xm := ⟨"SyntaxTree$Parser", "expect", "(I)V"⟩) (owner := R_Cu) (As := [.int 63]) (rest := []) ⟨hx, hb, hml, hown, hts0⟩ (m_Cu_expect l hlt dC dI cI cZ sa rk hp hc h a1 a2 a3 a4 ht hq n1 n2 ad_22 st_22 ok_22 _ 63 (fun z => hn_1 (hL_1.trans (bnd_n z)))) hP hD hK hS hA hC hZ hnt hlocks L_510 L_511 L_513 L_514 L_86 L_515 rfl k_Cu_expect ⟨(by show _ ≤ fr0 + 9; omega), (by show _ ≤ lo0 + 347; omega)⟩ rfl rfl hl.1 (Nat.le_of_ble_eq_true rfl) d_Pa_tails_65 rfl (fun q z => hX_1 q (hL_1.trans (bnd_l z))) hcl hsl (fun ad_23 st_23 H locs w_23 ok_23 e1_23 e2_23 hP hD hS => ?_)
              have hcl := cl_next hcl e1_23
              have hsl := cl_next hsl e2_23
              rw [bnd_r w_23] at hL_1
              refine lv_aload_n hx hb d_Pa_tails_68 rfl (lv_at hl 1 rfl) ?_
              refine va_get (D := (dC, dI)) (ci := 2) (v := .ref ht) (C := R_Pa) (T := T_Pa) (N := 7) hx hb hts u_Pa hown hK hP 0 rfl rfl 0 (by decide) (hts _ L_208) (fun _ h9 => h9) rfl d_Pa_tails_69 ?_
              refine lv_iload_n hx hb d_Pa_tails_72 rfl (lv_at hl 2 rfl) ?_
              refine lv_bipush (v := 37) hx hb d_Pa_tails_73 (by decide) ?_
              refine lv_iconst (v := 0) hx hb d_Pa_tails_75 (by decide) ?_
              refine lv_iload hx hb d_Pa_tails_76 (lv_at hl 0 rfl) ?_
              have hn_24 : (p_wrap st_23 start 37 0 (sAt sx_1)) ≠ none := (fun z => hn_1 (hL_1.trans (bnd_n z)))
              refine pT_v (g := (p_wrap st_23 start 37 0 (sAt sx_1))) (st := st_23) (As := [.int start, .int 37, .int 0, .int (sAt sx_1)]) (rest := []) ⟨hx, hb, hml, hown, hts0⟩ (m_Tr_wrap l dC dI cI cZ sa rk ht ad_23 (sTr st_23) ok_23.2.1 _ start 37 0 (sAt sx_1) (p_wrap_c hn_24).1 (p_wrap_c hn_24).2.1) hP hD hK hS hA hC hZ L_669 L_670 L_671 L_85 L_672 ⟨rfl, k_Tr_wrap⟩ ⟨(by show _ ≤ fr0 + 9; omega), (by show _ ≤ lo0 + 347; omega)⟩ rfl rfl hl.1 (Nat.le_of_ble_eq_true rfl) d_Pa_tails_78 rfl hcl hsl (p_wrap_c hn_24).2.2.1 (p_wrap_c hn_24).2.2.2 ok_23 (t_wrap_ok start 37 0 (sAt sx_1) ok_23.2.1 (p_wrap_c hn_24).1 (p_wrap_c hn_24).2.1) (p_wrap_e hn_24) (fun ad_24 st_24 H locs w_24 ok_24 e1_24 e2_24 hP hD hS => ?_)
              have hcl := cl_next hcl e1_24
              have hsl := cl_next hsl e2_24
              rw [bnd_r w_24] at hL_1
              refine lv_goto (tgt := 151) hx hb d_Pa_tails_81 (by decide) ?_
              refine lv_iinc (v := (x5 + 1)) (lv' := [(5, .int (x5 + 1)), (6, .int (sAt sx_1)), (0, .ref hp), (1, .int start), (2, .int depth), (3, .int calls), (4, .int x4)]) hx hb d_Pa_tails_151 hl (k := 6) rfl rfl (by decide) rfl (fun ls hl => ?_)
              refine lv_goto (tgt := 6) hx hb d_Pa_tails_154 (by decide) ?_
              exact ih_1 x4 (x5 + 1) ad_24 st_24 ok_24 _ _ ls _ _ hP hD hS (lv_sub hl [2, 3, 4, 5, 6, 0] rfl) hcl hsl hL_1
          · rw [if_neg c_9] at hL_1
            refine lv_aload_n hx hb d_Pa_tails_34 rfl (lv_at hl 1 rfl) ?_
            refine lv_iload_n hx hb d_Pa_tails_35 rfl (lv_at hl 2 rfl) ?_
            refine lv_iload hx hb d_Pa_tails_36 (lv_at hl 0 rfl) ?_
            refine mx_Vv (As := [.int start, .int (sAt sx_1)]) (rest := []) ⟨hx, hb, hml, hown, hts0⟩ (m_Pa_member l hlt dC dI cI cZ sa rk hp hc h a1 a2 a3 a4 ht hq n1 n2 ad_8 st_8 ok_8 _ start (sAt sx_1) (fun z => hn_1 (hL_1.trans (bnd_n z)))) hP hD hK hS hA hC hZ hnt hlocks L_665 L_667 L_28 L_87 L_668 k_Pa_member ⟨(by show _ ≤ fr0 + 9; omega), (by show _ ≤ lo0 + 347; omega)⟩ rfl rfl hl.1 (Nat.le_of_ble_eq_true rfl) d_Pa_tails_38 rfl (fun q z => hX_1 q (hL_1.trans (bnd_l z))) hcl hsl (fun ad_25 st_25 H locs w_25 ok_25 e1_25 e2_25 hP hD hS => ?_)
            have hcl := cl_next hcl e1_25
            have hsl := cl_next hsl e2_25
            rw [bnd_r w_25] at hL_1
            refine lv_goto (tgt := 151) hx hb d_Pa_tails_41 (by decide) ?_
            refine lv_iinc (v := (x5 + 1)) (lv' := [(5, .int (x5 + 1)), (6, .int (sAt sx_1)), (0, .ref hp), (1, .int start), (2, .int depth), (3, .int calls), (4, .int x4)]) hx hb d_Pa_tails_151 hl (k := 6) rfl rfl (by decide) rfl (fun ls hl => ?_)
            refine lv_goto (tgt := 6) hx hb d_Pa_tails_154 (by decide) ?_
            exact ih_1 x4 (x5 + 1) ad_25 st_25 ok_25 _ _ ls _ _ hP hD hS (lv_sub hl [2, 3, 4, 5, 6, 0] rfl) hcl hsl hL_1
  exact lp_1 5000 1 0 ad st hst _ _ ls _ _ hP hD hS (lv_sub hl [2, 3, 4, 5, 1, 0] rfl) hcl hsl hx_1.symm
def f_Pa_binaries_L11 (E : Int32 → Int32 → Int32 → ST → Rz) (S : Int32 → Int32 → ST → Rz) (F : Int32 → Int32 → ST → Rz) (start : Int32) (lowest : Int32) (depth : Int32) (inn : Int32) : Nat → Int32 → Int32 → ST → Rz
  | 0, _, _, _ => none
  | fu_1 + 1, x5, x6, sx_1 => (if 1000 < x6 then (some (.inr (0, sx_1))) else (if (f_Pa_rank x5) < lowest then (some (.inr (0, sx_1))) else (bnd (E ((f_Pa_rank x5) + 1) (depth + 1) inn (setAt sx_1 ((sAt sx_1) + 1))) (fun _ st_4 => (bnd (p_wrap st_4 start 41 x5 (sAt sx_1)) (fun _ st_5 => (f_Pa_binaries_L11 E S F start lowest depth inn fu_1 (f_Cu_binaryOperator st_5 inn) (x6 + 1) st_5)))))))
def f_Pa_binaries (E : Int32 → Int32 → Int32 → ST → Rz) (S : Int32 → Int32 → ST → Rz) (F : Int32 → Int32 → ST → Rz) (st : ST) (start : Int32) (lowest : Int32) (depth : Int32) (inn : Int32) : Rz := (bnd (f_Pa_binaries_L11 E S F start lowest depth inn 5000 (f_Cu_binaryOperator st inn) 0 st) (fun _ sx_1 => (some (.inr (0, sx_1)))))
set_option maxRecDepth 100000 in
set_option maxHeartbeats 4000000 in
theorem m_Pa_binaries (l : Launch) (hlt : l.stackTraces = false) (dC : Nat → ClassId) (dI : Nat → Nat → Nat) (cI cZ : ClassId) (sa rk hp h a1 a2 a3 a4 ht hq n1 n2 : Nat) (fr0 lo0 : Nat) (E : Int32 → Int32 → Int32 → ST → Rz) (S : Int32 → Int32 → ST → Rz) (F : Int32 → Int32 → ST → Rz) (hRE : ∀ (hc : Nat) (ad : AD) (st : ST), okSt st → ∀ (sz : Nat) (level depth inn : Int32), E level depth inn st ≠ none → cPv l y_Pa_expression c_Pa_expression 6 fr0 lo0 (dC, dI) cI cZ sa rk hp hc h a1 a2 a3 a4 ht hq n1 n2 ad st sz [.ref hp, .int level, .int depth, .int inn] (E level depth inn st)) (hRS : ∀ (hc : Nat) (ad : AD) (st : ST), okSt st → ∀ (sz : Nat) (depth first : Int32), S depth first st ≠ none → cPv l y_Pa_statement c_Pa_statement 4 fr0 lo0 (dC, dI) cI cZ sa rk hp hc h a1 a2 a3 a4 ht hq n1 n2 ad st sz [.ref hp, .int depth, .int first] (S depth first st)) (hRF : ∀ (hc : Nat) (ad : AD) (st : ST), okSt st → ∀ (sz : Nat) (form depth : Int32), F form depth st ≠ none → cPv l y_Pa_function c_Pa_function 10 fr0 lo0 (dC, dI) cI cZ sa rk hp hc h a1 a2 a3 a4 ht hq n1 n2 ad st sz [.ref hp, .int form, .int depth] (F form depth st)) (hc : Nat) (ad : AD) (st : ST) (hst : okSt st) (sz : Nat) (start : Int32) (lowest : Int32) (depth : Int32) (inn : Int32) (hg : f_Pa_binaries E S F st start lowest depth inn ≠ none) : cPv l y_Pa_binaries c_Pa_binaries 8 (fr0 + 4) (lo0 + 325) (dC, dI) cI cZ sa rk hp hc h a1 a2 a3 a4 ht hq n1 n2 ad st sz [.ref hp, .int start, .int lowest, .int depth, .int inn] (f_Pa_binaries E S F st start lowest depth inn) := by
  refine vx_ofW (cc := c_Pa_binaries) (maxL := 8) (ret := none) (by decide) rfl ?_
  intro p e s m args below meth c s₁ B hml hnt hv
  obtain ⟨rfl, hsz, hP, hK, hD0, hC, hZ⟩ := hv
  have hx := B.exec
  have hb := B.bytes
  have hr := B.returns
  have hts0 := atoms_spec (ws := wy y_Pa_binaries c_Pa_binaries 8 none) B.pre
  have hts := htsL hts0
  have hown : s.vm.findClass R_Pa = some m.cls := findClass_of_methodNamed B.named
  have hlocks := B.notSynchronized
  subst hsz
  have hD := hD0.self (sz := s.heap.size)
  generalize hAe : va_A (wQ cI cZ hp hc h a1 a2 a3 a4 ht hq n1 n2 (ad, st)) s.heap.size = A at hD hZ ⊢
  have hA : ∀ q : Nat, s.heap.size ≤ q → A q := fun q h => by rw [← hAe]; exact Or.inr h
  have hS : va_S A s.heap s.heap [] := va_S.rf
  have hcl : 0 + bC st ≤ bC st := Nat.le_of_eq (Nat.zero_add _)
  have hsl : 0 + bS st ≤ bS st := Nat.le_of_eq (Nat.zero_add _)
  have hl := lv_entry ([.ref hp, .int start, .int lowest, .int depth, .int inn]) (n := 8) (Nat.le_of_ble_eq_true rfl)
  rw [lg_entry_eq]
  generalize (lg_sl ([.ref hp, .int start, .int lowest, .int depth, .int inn]) ++ List.replicate (8 - (lg_sl ([.ref hp, .int start, .int lowest, .int depth, .int inn])).length) Slot.unset).toArray = ls at hl ⊢
  have hl : lv_has ls 8 [(0, .ref hp), (1, .int start), (2, .int lowest), (3, .int depth), (4, .int inn)] := hl
  refine lv_aload_n hx hb d_Pa_binaries_0 rfl (lv_at hl 0 rfl) ?_
  refine lv_iload hx hb d_Pa_binaries_1 (lv_at hl 4 rfl) ?_
  refine rd_U (xm := ⟨"SyntaxTree$Parser", "binaryOperator", "(Z)I"⟩) (owner := R_Cu) (v := (f_Cu_binaryOperator st inn)) (As := [.int inn]) (rest := []) ⟨hx, hb, hml, hown, hts0⟩ (m_Cu_binaryOperator l dC dI cI cZ hp hc h a1 a2 a3 a4 ht ad.1 ad.2.1 ad.2.2.1 ad.2.2.2 hq n1 n2 st hst inn) hP hK [0, 1, 2, 3, 4, 5, 6, 7, 8, 9, 10, 11, 12, 13, 14] rfl [0, 1] rfl 0 2 rfl rfl L_687 L_688 L_690 L_691 L_86 L_692 rfl k_Cu_binaryOperator ⟨(by show _ ≤ fr0 + 4; omega), (by show _ ≤ lo0 + 325; omega)⟩ hl.1 ⟨Nat.le_trans (Nat.le_add_right _ _) hcl, Nat.le_trans (Nat.le_add_right _ _) hsl⟩ (Nat.le_of_ble_eq_true rfl) d_Pa_binaries_3 rfl ?_
  refine lv_istore (lv' := [(5, .int (f_Cu_binaryOperator st inn)), (0, .ref hp), (1, .int start), (2, .int lowest), (3, .int depth), (4, .int inn)]) hx hb d_Pa_binaries_6 hl (by decide) rfl (fun ls hl => ?_)
  refine lv_iconst (v := 0) hx hb d_Pa_binaries_8 (by decide) ?_
  refine lv_istore (lv' := [(6, .int 0), (5, .int (f_Cu_binaryOperator st inn)), (0, .ref hp), (1, .int start), (2, .int lowest), (3, .int depth), (4, .int inn)]) hx hb d_Pa_binaries_9 hl (by decide) rfl (fun ls hl => ?_)
  obtain ⟨x_1, hx_1⟩ : ∃ z, f_Pa_binaries_L11 E S F start lowest depth inn 5000 (f_Cu_binaryOperator st inn) 0 st = z := ⟨_, rfl⟩
  have hn_1 : x_1 ≠ none := (fun z => hg (by unfold f_Pa_binaries; rw [bnd_n (hx_1.trans z)]))
  have hX_1 : ∀ q, x_1 = some (.inl q) → (f_Pa_binaries E S F st start lowest depth inn) = some (.inl q) := (fun q z => by unfold f_Pa_binaries; rw [bnd_l (hx_1.trans z)])
  have lp_1 : ∀ (fu : Nat) (x5 x6 : Int32) (ax_1 : AD) (sx_1 : ST) (okx_1 : okSt sx_1) (H : Heap) (locs : List Loc) (ls : Array Slot) (cells slots : Nat), va_P (dC, dI) cls (wQ cI cZ hp hc h a1 a2 a3 a4 ht hq n1 n2 (ax_1, sx_1)) H → va_D A (wQ cI cZ hp hc h a1 a2 a3 a4 ht hq n1 n2 (ax_1, sx_1)) → va_S A s.heap H locs → lv_has ls 8 [(0, .ref hp), (1, .int start), (2, .int lowest), (3, .int depth), (4, .int inn), (5, .int x5), (6, .int x6)] → cells + bC sx_1 ≤ bC st → slots + bS sx_1 ≤ bS st → x_1 = f_Pa_binaries_L11 E S F start lowest depth inn fu x5 x6 sx_1 → W p l e (headSpec (wy y_Pa_binaries c_Pa_binaries 8 none) { frames := (fr0 + 4), cells := bC st, slots := bS st, locals := (lo0 + 325) }).room s m [.ref hp, .int start, .int lowest, .int depth, .int inn].toArray below meth c H locs cells slots (vx_MQ below (va_Qv (poN (f_Pa_binaries E S F st start lowest depth inn) st 0) (wB (dC, dI) cI cZ A (wQ cI cZ hp hc h a1 a2 a3 a4 ht hq n1 n2)) A) (xP (dC, dI) cI cZ hp h a1 a2 a3 a4 ht hq n1 n2 (f_Pa_binaries E S F st start lowest depth inn) st A) [.ref hp, .int start, .int lowest, .int depth, .int inn].toArray s (mcO st (f_Pa_binaries E S F st start lowest depth inn)) (msO st (f_Pa_binaries E S F st start lowest depth inn)) A) (F0 m 11 ls []) := by
    intro fu
    induction fu with
    | zero => intro x5 x6 ax_1 sx_1 okx_1 H locs ls cells slots hP hD hS hl hcl hsl hL_1; exact absurd (hL_1.trans rfl) hn_1
    | succ fu_1 ih_1 =>
      intro x5 x6 ax_1 sx_1 okx_1 H locs ls cells slots hP hD hS hl hcl hsl hL_1
      rw [f_Pa_binaries_L11] at hL_1
      refine lv_iload hx hb d_Pa_binaries_11 (lv_at hl 6 rfl) ?_
      refine lv_sipush (v := 1000) hx hb d_Pa_binaries_13 (by decide) ?_
      refine lv_icmp_gt (tgt := 88) hx hb d_Pa_binaries_16 (by decide) (fun c_2 => ?_) (fun c_2 => ?_)
      · rw [if_pos c_2] at hL_1
        have we_1 : f_Pa_binaries_L11 E S F start lowest depth inn 5000 (f_Cu_binaryOperator st inn) 0 st = some (.inr (0, sx_1)) := hx_1.trans hL_1
        have hl := lv_sub hl (l' := [(0, .ref hp), (1, .int start), (2, .int lowest), (3, .int depth), (4, .int inn)]) [0, 1, 2, 3, 4] rfl
        exact mx_vret (stF := sx_1) hx hb hr hlocks hK hP hD hS hcl hsl (by unfold f_Pa_binaries; rw [bnd_r we_1]) okx_1 d_Pa_binaries_88
      · rw [if_neg c_2] at hL_1
        refine lv_iload hx hb d_Pa_binaries_19 (lv_at hl 5 rfl) ?_
        refine rk_S (o := x5) (rest := []) ⟨hx, hb, hml, hown, hts0⟩ hS hZ L_694 L_695 L_87 L_696 ⟨(by show _ ≤ fr0 + 4; omega), (by show _ ≤ lo0 + 325; omega)⟩ hl.1 ⟨Nat.le_trans (Nat.le_add_right _ _) hcl, Nat.le_trans (Nat.le_add_right _ _) hsl⟩ (Nat.le_of_ble_eq_true rfl) d_Pa_binaries_21 rfl ?_
        refine lv_iload_n hx hb d_Pa_binaries_24 rfl (lv_at hl 2 rfl) ?_
        refine lv_icmp_lt (tgt := 88) hx hb d_Pa_binaries_25 (by decide) (fun c_3 => ?_) (fun c_3 => ?_)
        · rw [if_pos c_3] at hL_1
          have we_1 : f_Pa_binaries_L11 E S F start lowest depth inn 5000 (f_Cu_binaryOperator st inn) 0 st = some (.inr (0, sx_1)) := hx_1.trans hL_1
          have hl := lv_sub hl (l' := [(0, .ref hp), (1, .int start), (2, .int lowest), (3, .int depth), (4, .int inn)]) [0, 1, 2, 3, 4] rfl
          exact mx_vret (stF := sx_1) hx hb hr hlocks hK hP hD hS hcl hsl (by unfold f_Pa_binaries; rw [bnd_r we_1]) okx_1 d_Pa_binaries_88
        · rw [if_neg c_3] at hL_1
          refine lv_aload_n hx hb d_Pa_binaries_28 rfl (lv_at hl 0 rfl) ?_
          refine va_get (D := (dC, dI)) (ci := 2) (v := .int (sAt sx_1)) (C := R_Pa) (T := T_Pa) (N := 7) hx hb hts u_Pa hown hK hP 0 rfl rfl 4 (by decide) (hts _ L_215) (fun x9 h9 => u_same (hts _ L_216) x9 h9) rfl d_Pa_binaries_29 ?_
          refine lv_istore (lv' := [(7, .int (sAt sx_1)), (0, .ref hp), (1, .int start), (2, .int lowest), (3, .int depth), (4, .int inn), (5, .int x5), (6, .int x6)]) hx hb d_Pa_binaries_32 hl (by decide) rfl (fun ls hl => ?_)
          refine lv_aload_n hx hb d_Pa_binaries_34 rfl (lv_at hl 1 rfl) ?_
          refine lv_dup hx hb d_Pa_binaries_35 rfl ?_
          refine va_get (D := (dC, dI)) (ci := 2) (v := .int (sAt sx_1)) (C := R_Pa) (T := T_Pa) (N := 7) hx hb hts u_Pa hown hK hP 0 rfl rfl 4 (by decide) (hts _ L_215) (fun x9 h9 => u_same (hts _ L_216) x9 h9) rfl d_Pa_binaries_36 ?_
          refine lv_iconst (v := 1) hx hb d_Pa_binaries_39 (by decide) ?_
          refine lv_iadd hx hb d_Pa_binaries_40 ?_
          refine va_put (D := (dC, dI)) (ci := 2) (v := .int ((sAt sx_1) + 1)) (ty := .int) (C := R_Pa) (T := T_Pa) (N := 7) hx hb hts u_Pa ty_Pa tk_Pa nm_Pa hown hK hP hD hS 0 rfl rfl 4 (by decide) (hts _ L_215) (fun x9 h9 => u_same (hts _ L_216) x9 h9) rfl (by decide +kernel) rfl rfl (Nat.le_of_ble_eq_true rfl) d_Pa_binaries_41 (fun H locs hP hD hS => ?_)
          have hP : va_P (dC, dI) cls (wQ cI cZ hp hc h a1 a2 a3 a4 ht hq n1 n2 (ax_1, (setAt sx_1 ((sAt sx_1) + 1)))) H := hP
          have hD : va_D A (wQ cI cZ hp hc h a1 a2 a3 a4 ht hq n1 n2 (ax_1, (setAt sx_1 ((sAt sx_1) + 1)))) := hD
          refine lv_aload_n hx hb d_Pa_binaries_44 rfl (lv_at hl 1 rfl) ?_
          refine lv_iload hx hb d_Pa_binaries_45 (lv_at hl 6 rfl) ?_
          refine rk_S (o := x5) (rest := [.ref hp]) ⟨hx, hb, hml, hown, hts0⟩ hS hZ L_694 L_695 L_87 L_696 ⟨(by show _ ≤ fr0 + 4; omega), (by show _ ≤ lo0 + 325; omega)⟩ hl.1 ⟨Nat.le_trans (Nat.le_add_right _ _) hcl, Nat.le_trans (Nat.le_add_right _ _) hsl⟩ (Nat.le_of_ble_eq_true rfl) d_Pa_binaries_47 rfl ?_
          refine lv_iconst (v := 1) hx hb d_Pa_binaries_50 (by decide) ?_
          refine lv_iadd hx hb d_Pa_binaries_51 ?_
          refine lv_iload_n hx hb d_Pa_binaries_52 rfl (lv_at hl 4 rfl) ?_
          refine lv_iconst (v := 1) hx hb d_Pa_binaries_53 (by decide) ?_
          refine lv_iadd hx hb d_Pa_binaries_54 ?_
          refine lv_iload hx hb d_Pa_binaries_55 (lv_at hl 5 rfl) ?_
          refine mx_Vv (As := [.int ((f_Pa_rank x5) + 1), .int (depth + 1), .int inn]) (rest := []) ⟨hx, hb, hml, hown, hts0⟩ (hRE hc ax_1 (setAt sx_1 ((sAt sx_1) + 1)) (show okSt (setAt sx_1 ((sAt sx_1) + 1)) from ⟨okx_1.1, okx_1.2.1, okx_1.2.2.1, okx_1.2.2.2⟩) _ ((f_Pa_rank x5) + 1) (depth + 1) inn (fun z => hn_1 (hL_1.trans (bnd_n z)))) hP hD hK hS hA hC hZ hnt hlocks L_569 L_571 L_12 L_87 L_572 k_Pa_expression ⟨(by show _ ≤ fr0 + 4; omega), (by show _ ≤ lo0 + 325; omega)⟩ rfl rfl hl.1 (Nat.le_of_ble_eq_true rfl) d_Pa_binaries_57 rfl (fun q z => hX_1 q (hL_1.trans (bnd_l z))) hcl hsl (fun ad_4 st_4 H locs w_4 ok_4 e1_4 e2_4 hP hD hS => ?_)
          have hcl := cl_next hcl e1_4
          have hsl := cl_next hsl e2_4
          rw [bnd_r w_4] at hL_1
          refine lv_aload_n hx hb d_Pa_binaries_60 rfl (lv_at hl 1 rfl) ?_
          refine va_get (D := (dC, dI)) (ci := 2) (v := .ref ht) (C := R_Pa) (T := T_Pa) (N := 7) hx hb hts u_Pa hown hK hP 0 rfl rfl 0 (by decide) (hts _ L_208) (fun _ h9 => h9) rfl d_Pa_binaries_61 ?_
          refine lv_iload_n hx hb d_Pa_binaries_64 rfl (lv_at hl 2 rfl) ?_
          refine lv_bipush (v := 41) hx hb d_Pa_binaries_65 (by decide) ?_
          refine lv_iload hx hb d_Pa_binaries_67 (lv_at hl 6 rfl) ?_
          refine lv_iload hx hb d_Pa_binaries_69 (lv_at hl 0 rfl) ?_
          have hn_5 : (p_wrap st_4 start 41 x5 (sAt sx_1)) ≠ none := (fun z => hn_1 (hL_1.trans (bnd_n z)))
          refine pT_v (g := (p_wrap st_4 start 41 x5 (sAt sx_1))) (st := st_4) (As := [.int start, .int 41, .int x5, .int (sAt sx_1)]) (rest := []) ⟨hx, hb, hml, hown, hts0⟩ (m_Tr_wrap l dC dI cI cZ sa rk ht ad_4 (sTr st_4) ok_4.2.1 _ start 41 x5 (sAt sx_1) (p_wrap_c hn_5).1 (p_wrap_c hn_5).2.1) hP hD hK hS hA hC hZ L_669 L_670 L_671 L_85 L_672 ⟨rfl, k_Tr_wrap⟩ ⟨(by show _ ≤ fr0 + 4; omega), (by show _ ≤ lo0 + 325; omega)⟩ rfl rfl hl.1 (Nat.le_of_ble_eq_true rfl) d_Pa_binaries_71 rfl hcl hsl (p_wrap_c hn_5).2.2.1 (p_wrap_c hn_5).2.2.2 ok_4 (t_wrap_ok start 41 x5 (sAt sx_1) ok_4.2.1 (p_wrap_c hn_5).1 (p_wrap_c hn_5).2.1) (p_wrap_e hn_5) (fun ad_5 st_5 H locs w_5 ok_5 e1_5 e2_5 hP hD hS => ?_)
          have hcl := cl_next hcl e1_5
          have hsl := cl_next hsl e2_5
          rw [bnd_r w_5] at hL_1
          refine lv_aload_n hx hb d_Pa_binaries_74 rfl (lv_at hl 1 rfl) ?_
          refine lv_iload hx hb d_Pa_binaries_75 (lv_at hl 5 rfl) ?_
          refine rd_U (xm := ⟨"SyntaxTree$Parser", "binaryOperator", "(Z)I"⟩) (owner := R_Cu) (v := (f_Cu_binaryOperator st_5 inn)) (As := [.int inn]) (rest := []) ⟨hx, hb, hml, hown, hts0⟩ (m_Cu_binaryOperator l dC dI cI cZ hp hc h a1 a2 a3 a4 ht ad_5.1 ad_5.2.1 ad_5.2.2.1 ad_5.2.2.2 hq n1 n2 st_5 ok_5 inn) hP hK [0, 1, 2, 3, 4, 5, 6, 7, 8, 9, 10, 11, 12, 13, 14] rfl [0, 1] rfl 0 2 rfl rfl L_687 L_688 L_690 L_691 L_86 L_692 rfl k_Cu_binaryOperator ⟨(by show _ ≤ fr0 + 4; omega), (by show _ ≤ lo0 + 325; omega)⟩ hl.1 ⟨Nat.le_trans (Nat.le_add_right _ _) hcl, Nat.le_trans (Nat.le_add_right _ _) hsl⟩ (Nat.le_of_ble_eq_true rfl) d_Pa_binaries_77 rfl ?_
          refine lv_istore (lv' := [(5, .int (f_Cu_binaryOperator st_5 inn)), (7, .int (sAt sx_1)), (0, .ref hp), (1, .int start), (2, .int lowest), (3, .int depth), (4, .int inn), (6, .int x6)]) hx hb d_Pa_binaries_80 hl (by decide) rfl (fun ls hl => ?_)
          refine lv_iinc (v := (x6 + 1)) (lv' := [(6, .int (x6 + 1)), (5, .int (f_Cu_binaryOperator st_5 inn)), (7, .int (sAt sx_1)), (0, .ref hp), (1, .int start), (2, .int lowest), (3, .int depth), (4, .int inn)]) hx hb d_Pa_binaries_82 hl (k := 7) rfl rfl (by decide) rfl (fun ls hl => ?_)
          refine lv_goto (tgt := 11) hx hb d_Pa_binaries_85 (by decide) ?_
          exact ih_1 (f_Cu_binaryOperator st_5 inn) (x6 + 1) ad_5 st_5 ok_5 _ _ ls _ _ hP hD hS (lv_sub hl [3, 4, 5, 6, 7, 1, 0] rfl) hcl hsl hL_1
  exact lp_1 5000 (f_Cu_binaryOperator st inn) 0 ad st hst _ _ ls _ _ hP hD hS (lv_sub hl [2, 3, 4, 5, 6, 1, 0] rfl) hcl hsl hx_1.symm
def f_Pa_parameters_L43 (made : Int32) (form : Int32) : Nat → Int32 → ST → Rz
  | 0, _, _ => none
  | fu_4 + 1, x3, sx_4 => (if 1000 < x3 then (some (.inr (0, sx_4))) else (bnd (f_Cu_nextArgument sx_4 x3) (fun r_6 st_6 => (if r_6 = 0 then (some (.inr (0, st_6))) else (bnd (f_Pa_parameter st_6 made) (fun _ st_8 => (f_Pa_parameters_L43 made form fu_4 (x3 + 1) st_8)))))))
def f_Pa_parameters (st : ST) (made : Int32) (form : Int32) : Rz := (bnd (f_Cu_expect st 60) (fun _ st_1 => (if form = 48 then (bnd (f_Cu_expect st_1 61) (fun _ st_11 => (some (.inr (0, st_11))))) else (if form = 49 then (bnd (f_Pa_parameter st_1 made) (fun _ st_9 => (bnd (f_Cu_expect st_9 61) (fun _ st_10 => (some (.inr (0, st_10))))))) else (bnd (f_Pa_parameters_L43 made form 5000 0 st_1) (fun _ sx_4 => (some (.inr (0, sx_4)))))))))
set_option maxRecDepth 100000 in
set_option maxHeartbeats 4000000 in
theorem m_Pa_parameters (l : Launch) (hlt : l.stackTraces = false) (dC : Nat → ClassId) (dI : Nat → Nat → Nat) (cI cZ : ClassId) (sa rk hp hc h a1 a2 a3 a4 ht hq n1 n2 : Nat) (ad : AD) (st : ST) (hst : okSt st) (sz : Nat) (made : Int32) (form : Int32) (hg : f_Pa_parameters st made form ≠ none) : cPv l y_Pa_parameters c_Pa_parameters 4 9 346 (dC, dI) cI cZ sa rk hp hc h a1 a2 a3 a4 ht hq n1 n2 ad st sz [.ref hp, .int made, .int form] (f_Pa_parameters st made form) := by
  refine vx_ofW (cc := c_Pa_parameters) (maxL := 4) (ret := none) (by decide) rfl ?_
  intro p e s m args below meth c s₁ B hml hnt hv
  obtain ⟨rfl, hsz, hP, hK, hD0, hC, hZ⟩ := hv
  have hx := B.exec
  have hb := B.bytes
  have hr := B.returns
  have hts0 := atoms_spec (ws := wy y_Pa_parameters c_Pa_parameters 4 none) B.pre
  have hts := htsL hts0
  have hown : s.vm.findClass R_Pa = some m.cls := findClass_of_methodNamed B.named
  have hlocks := B.notSynchronized
  subst hsz
  have hD := hD0.self (sz := s.heap.size)
  generalize hAe : va_A (wQ cI cZ hp hc h a1 a2 a3 a4 ht hq n1 n2 (ad, st)) s.heap.size = A at hD hZ ⊢
  have hA : ∀ q : Nat, s.heap.size ≤ q → A q := fun q h => by rw [← hAe]; exact Or.inr h
  have hS : va_S A s.heap s.heap [] := va_S.rf
  have hcl : 0 + bC st ≤ bC st := Nat.le_of_eq (Nat.zero_add _)
  have hsl : 0 + bS st ≤ bS st := Nat.le_of_eq (Nat.zero_add _)
  have hl := lv_entry ([.ref hp, .int made, .int form]) (n := 4) (Nat.le_of_ble_eq_true rfl)
  rw [lg_entry_eq]
  generalize (lg_sl ([.ref hp, .int made, .int form]) ++ List.replicate (4 - (lg_sl ([.ref hp, .int made, .int form])).length) Slot.unset).toArray = ls at hl ⊢
  have hl : lv_has ls 4 [(0, .ref hp), (1, .int made), (2, .int form)] := hl
  refine lv_aload_n hx hb d_Pa_parameters_0 rfl (lv_at hl 0 rfl) ?_
  refine lv_bipush (v := 60) hx hb d_Pa_parameters_1 (by decide) ?_
  refine mx_Uv (xm := ⟨"SyntaxTree$Parser", "expect", "(I)V"⟩) (owner := R_Cu) (As := [.int 60]) (rest := []) ⟨hx, hb, hml, hown, hts0⟩ (m_Cu_expect l hlt dC dI cI cZ sa rk hp hc h a1 a2 a3 a4 ht hq n1 n2 ad st hst _ 60 (fun z => hg (by unfold f_Pa_parameters; rw [bnd_n z]))) hP hD hK hS hA hC hZ hnt hlocks L_510 L_511 L_513 L_514 L_86 L_515 rfl k_Cu_expect ⟨Nat.le_of_ble_eq_true rfl, Nat.le_of_ble_eq_true rfl⟩ rfl rfl hl.1 (Nat.le_of_ble_eq_true rfl) d_Pa_parameters_3 rfl (fun q z => by unfold f_Pa_parameters; rw [bnd_l z]) hcl hsl (fun ad_1 st_1 H locs w_1 ok_1 e1_1 e2_1 hP hD hS => ?_)
  have hcl := cl_next hcl e1_1
  have hsl := cl_next hsl e2_1
  refine lv_iload_n hx hb d_Pa_parameters_6 rfl (lv_at hl 2 rfl) ?_
  refine lv_bipush (v := 48) hx hb d_Pa_parameters_7 (by decide) ?_
  refine lv_icmp_ne (tgt := 21) hx hb d_Pa_parameters_9 (by decide) (fun c_2 => ?_) (fun c_2 => ?_)
  · refine lv_iload_n hx hb d_Pa_parameters_21 rfl (lv_at hl 2 rfl) ?_
    refine lv_bipush (v := 49) hx hb d_Pa_parameters_22 (by decide) ?_
    refine lv_icmp_ne (tgt := 41) hx hb d_Pa_parameters_24 (by decide) (fun c_3 => ?_) (fun c_3 => ?_)
    · refine lv_iconst (v := 0) hx hb d_Pa_parameters_41 (by decide) ?_
      refine lv_istore_n (lv' := [(3, .int 0), (0, .ref hp), (1, .int made), (2, .int form)]) hx hb d_Pa_parameters_42 rfl hl (by decide) rfl (fun ls hl => ?_)
      obtain ⟨x_4, hx_4⟩ : ∃ z, f_Pa_parameters_L43 made form 5000 0 st_1 = z := ⟨_, rfl⟩
      have hn_4 : x_4 ≠ none := (fun z => hg (by unfold f_Pa_parameters; rw [bnd_r w_1, if_neg c_2, if_neg c_3, bnd_n (hx_4.trans z)]))
      have hX_4 : ∀ q, x_4 = some (.inl q) → (f_Pa_parameters st made form) = some (.inl q) := (fun q z => by unfold f_Pa_parameters; rw [bnd_r w_1, if_neg c_2, if_neg c_3, bnd_l (hx_4.trans z)])
      have lp_4 : ∀ (fu : Nat) (x3 : Int32) (ax_4 : AD) (sx_4 : ST) (okx_4 : okSt sx_4) (H : Heap) (locs : List Loc) (ls : Array Slot) (cells slots : Nat), va_P (dC, dI) cls (wQ cI cZ hp hc h a1 a2 a3 a4 ht hq n1 n2 (ax_4, sx_4)) H → va_D A (wQ cI cZ hp hc h a1 a2 a3 a4 ht hq n1 n2 (ax_4, sx_4)) → va_S A s.heap H locs → lv_has ls 4 [(0, .ref hp), (1, .int made), (2, .int form), (3, .int x3)] → cells + bC sx_4 ≤ bC st → slots + bS sx_4 ≤ bS st → x_4 = f_Pa_parameters_L43 made form fu x3 sx_4 → W p l e (headSpec (wy y_Pa_parameters c_Pa_parameters 4 none) { frames := 9, cells := bC st, slots := bS st, locals := 346 }).room s m [.ref hp, .int made, .int form].toArray below meth c H locs cells slots (vx_MQ below (va_Qv (poN (f_Pa_parameters st made form) st 0) (wB (dC, dI) cI cZ A (wQ cI cZ hp hc h a1 a2 a3 a4 ht hq n1 n2)) A) (xP (dC, dI) cI cZ hp h a1 a2 a3 a4 ht hq n1 n2 (f_Pa_parameters st made form) st A) [.ref hp, .int made, .int form].toArray s (mcO st (f_Pa_parameters st made form)) (msO st (f_Pa_parameters st made form)) A) (F0 m 43 ls []) := by
        intro fu
        induction fu with
        | zero => intro x3 ax_4 sx_4 okx_4 H locs ls cells slots hP hD hS hl hcl hsl hL_4; exact absurd (hL_4.trans rfl) hn_4
        | succ fu_4 ih_4 =>
          intro x3 ax_4 sx_4 okx_4 H locs ls cells slots hP hD hS hl hcl hsl hL_4
          rw [f_Pa_parameters_L43] at hL_4
          refine lv_iload_n hx hb d_Pa_parameters_43 rfl (lv_at hl 3 rfl) ?_
          refine lv_sipush (v := 1000) hx hb d_Pa_parameters_44 (by decide) ?_
          refine lv_icmp_gt (tgt := 69) hx hb d_Pa_parameters_47 (by decide) (fun c_5 => ?_) (fun c_5 => ?_)
          · rw [if_pos c_5] at hL_4
            have we_4 : f_Pa_parameters_L43 made form 5000 0 st_1 = some (.inr (0, sx_4)) := hx_4.trans hL_4
            have hl := lv_sub hl (l' := [(0, .ref hp), (1, .int made), (2, .int form)]) [0, 1, 2] rfl
            exact mx_vret (stF := sx_4) hx hb hr hlocks hK hP hD hS hcl hsl (by unfold f_Pa_parameters; rw [bnd_r w_1, if_neg c_2, if_neg c_3, bnd_r we_4]) okx_4 d_Pa_parameters_69
          · rw [if_neg c_5] at hL_4
            refine lv_aload_n hx hb d_Pa_parameters_50 rfl (lv_at hl 0 rfl) ?_
            refine lv_iload_n hx hb d_Pa_parameters_51 rfl (lv_at hl 3 rfl) ?_
            refine mx_Ui (xm := ⟨"SyntaxTree$Parser", "nextArgument", "(I)Z"⟩) (owner := R_Cu) (As := [.int x3]) (rest := []) ⟨hx, hb, hml, hown, hts0⟩ (m_Cu_nextArgument l hlt dC dI cI cZ sa rk hp hc h a1 a2 a3 a4 ht hq n1 n2 ax_4 sx_4 okx_4 _ x3 (fun z => hn_4 (hL_4.trans (bnd_n z)))) hP hD hK hS hA hC hZ hnt hlocks L_540 L_541 L_543 L_544 L_86 L_545 rfl k_Cu_nextArgument ⟨Nat.le_of_ble_eq_true rfl, Nat.le_of_ble_eq_true rfl⟩ rfl rfl hl.1 (Nat.le_of_ble_eq_true rfl) d_Pa_parameters_52 rfl (fun q z => hX_4 q (hL_4.trans (bnd_l z))) hcl hsl (fun r_6 ad_6 st_6 H locs w_6 ok_6 e1_6 e2_6 hP hD hS => ?_)
            have hcl := cl_next hcl e1_6
            have hsl := cl_next hsl e2_6
            rw [bnd_r w_6] at hL_4
            refine lv_if_eq (tgt := 69) hx hb d_Pa_parameters_55 (by decide) (fun c_7 => ?_) (fun c_7 => ?_)
            · rw [if_pos c_7] at hL_4
              have we_4 : f_Pa_parameters_L43 made form 5000 0 st_1 = some (.inr (0, st_6)) := hx_4.trans hL_4
              have hl := lv_sub hl (l' := [(0, .ref hp), (1, .int made), (2, .int form)]) [0, 1, 2] rfl
              exact mx_vret (stF := st_6) hx hb hr hlocks hK hP hD hS hcl hsl (by unfold f_Pa_parameters; rw [bnd_r w_1, if_neg c_2, if_neg c_3, bnd_r we_4]) ok_6 d_Pa_parameters_69
            · rw [if_neg c_7] at hL_4
              refine lv_aload_n hx hb d_Pa_parameters_58 rfl (lv_at hl 0 rfl) ?_
              refine lv_iload_n hx hb d_Pa_parameters_59 rfl (lv_at hl 1 rfl) ?_
              refine mx_Vv (As := [.int made]) (rest := []) ⟨hx, hb, hml, hown, hts0⟩ (m_Pa_parameter l hlt dC dI cI cZ sa rk hp hc h a1 a2 a3 a4 ht hq n1 n2 ad_6 st_6 ok_6 _ made (fun z => hn_4 (hL_4.trans (bnd_n z)))) hP hD hK hS hA hC hZ hnt hlocks L_516 L_518 L_8 L_87 L_519 k_Pa_parameter ⟨Nat.le_of_ble_eq_true rfl, Nat.le_of_ble_eq_true rfl⟩ rfl rfl hl.1 (Nat.le_of_ble_eq_true rfl) d_Pa_parameters_60 rfl (fun q z => hX_4 q (hL_4.trans (bnd_l z))) hcl hsl (fun ad_8 st_8 H locs w_8 ok_8 e1_8 e2_8 hP hD hS => ?_)
              have hcl := cl_next hcl e1_8
              have hsl := cl_next hsl e2_8
              rw [bnd_r w_8] at hL_4
              refine lv_iinc (v := (x3 + 1)) (lv' := [(3, .int (x3 + 1)), (0, .ref hp), (1, .int made), (2, .int form)]) hx hb d_Pa_parameters_63 hl (k := 3) rfl rfl (by decide) rfl (fun ls hl => ?_)
              refine lv_goto (tgt := 43) hx hb d_Pa_parameters_66 (by decide) ?_
              exact ih_4 (x3 + 1) ad_8 st_8 ok_8 _ _ ls _ _ hP hD hS (lv_sub hl [1, 2, 3, 0] rfl) hcl hsl hL_4
      exact lp_4 5000 0 ad_1 st_1 ok_1 _ _ ls _ _ hP hD hS (lv_sub hl [1, 2, 3, 0] rfl) hcl hsl hx_4.symm
    · refine lv_aload_n hx hb d_Pa_parameters_27 rfl (lv_at hl 0 rfl) ?_
      refine lv_iload_n hx hb d_Pa_parameters_28 rfl (lv_at hl 1 rfl) ?_
      refine mx_Vv (As := [.int made]) (rest := []) ⟨hx, hb, hml, hown, hts0⟩ (m_Pa_parameter l hlt dC dI cI cZ sa rk hp hc h a1 a2 a3 a4 ht hq n1 n2 ad_1 st_1 ok_1 _ made (fun z => hg (by unfold f_Pa_parameters; rw [bnd_r w_1, if_neg c_2, if_pos c_3, bnd_n z]))) hP hD hK hS hA hC hZ hnt hlocks L_516 L_518 L_8 L_87 L_519 k_Pa_parameter ⟨Nat.le_of_ble_eq_true rfl, Nat.le_of_ble_eq_true rfl⟩ rfl rfl hl.1 (Nat.le_of_ble_eq_true rfl) d_Pa_parameters_29 rfl (fun q z => by unfold f_Pa_parameters; rw [bnd_r w_1, if_neg c_2, if_pos c_3, bnd_l z]) hcl hsl (fun ad_9 st_9 H locs w_9 ok_9 e1_9 e2_9 hP hD hS => ?_)
      have hcl := cl_next hcl e1_9
      have hsl := cl_next hsl e2_9
      refine lv_aload_n hx hb d_Pa_parameters_32 rfl (lv_at hl 0 rfl) ?_
      refine lv_bipush (v := 61) hx hb d_Pa_parameters_33 (by decide) ?_
      refine mx_Uv (xm := ⟨"SyntaxTree$Parser", "expect", "(I)V"⟩) (owner := R_Cu) (As := [.int 61]) (rest := []) ⟨hx, hb, hml, hown, hts0⟩ (m_Cu_expect l hlt dC dI cI cZ sa rk hp hc h a1 a2 a3 a4 ht hq n1 n2 ad_9 st_9 ok_9 _ 61 (fun z => hg (by unfold f_Pa_parameters; rw [bnd_r w_1, if_neg c_2, if_pos c_3, bnd_r w_9, bnd_n z]))) hP hD hK hS hA hC hZ hnt hlocks L_510 L_511 L_513 L_514 L_86 L_515 rfl k_Cu_expect ⟨Nat.le_of_ble_eq_true rfl, Nat.le_of_ble_eq_true rfl⟩ rfl rfl hl.1 (Nat.le_of_ble_eq_true rfl) d_Pa_parameters_35 rfl (fun q z => by unfold f_Pa_parameters; rw [bnd_r w_1, if_neg c_2, if_pos c_3, bnd_r w_9, bnd_l z]) hcl hsl (fun ad_10 st_10 H locs w_10 ok_10 e1_10 e2_10 hP hD hS => ?_)
      have hcl := cl_next hcl e1_10
      have hsl := cl_next hsl e2_10
      refine lv_goto (tgt := 69) hx hb d_Pa_parameters_38 (by decide) ?_
      exact mx_vret (stF := st_10) hx hb hr hlocks hK hP hD hS hcl hsl (by unfold f_Pa_parameters; rw [bnd_r w_1, if_neg c_2, if_pos c_3, bnd_r w_9, bnd_r w_10]) ok_10 d_Pa_parameters_69
  · refine lv_aload_n hx hb d_Pa_parameters_12 rfl (lv_at hl 0 rfl) ?_
    refine lv_bipush (v := 61) hx hb d_Pa_parameters_13 (by decide) ?_
    refine mx_Uv (xm := ⟨"SyntaxTree$Parser", "expect", "(I)V"⟩) (owner := R_Cu) (As := [.int 61]) (rest := []) ⟨hx, hb, hml, hown, hts0⟩ (m_Cu_expect l hlt dC dI cI cZ sa rk hp hc h a1 a2 a3 a4 ht hq n1 n2 ad_1 st_1 ok_1 _ 61 (fun z => hg (by unfold f_Pa_parameters; rw [bnd_r w_1, if_pos c_2, bnd_n z]))) hP hD hK hS hA hC hZ hnt hlocks L_510 L_511 L_513 L_514 L_86 L_515 rfl k_Cu_expect ⟨Nat.le_of_ble_eq_true rfl, Nat.le_of_ble_eq_true rfl⟩ rfl rfl hl.1 (Nat.le_of_ble_eq_true rfl) d_Pa_parameters_15 rfl (fun q z => by unfold f_Pa_parameters; rw [bnd_r w_1, if_pos c_2, bnd_l z]) hcl hsl (fun ad_11 st_11 H locs w_11 ok_11 e1_11 e2_11 hP hD hS => ?_)
    have hcl := cl_next hcl e1_11
    have hsl := cl_next hsl e2_11
    refine lv_goto (tgt := 69) hx hb d_Pa_parameters_18 (by decide) ?_
    exact mx_vret (stF := st_11) hx hb hr hlocks hK hP hD hS hcl hsl (by unfold f_Pa_parameters; rw [bnd_r w_1, if_pos c_2, bnd_r w_11]) ok_11 d_Pa_parameters_69
def f_Pa_switchStatement_L141 (E : Int32 → Int32 → Int32 → ST → Rz) (S : Int32 → Int32 → ST → Rz) (F : Int32 → Int32 → ST → Rz) (depth : Int32) : Nat → Int32 → ST → Rz
  | 0, _, _ => none
  | fu_16 + 1, x7, sx_16 => (if 1000 < x7 then (some (.inr (0, sx_16))) else (if (f_Pa_atClauseEnd sx_16) = 0 then (bnd (S (depth + 1) (f_La_count (sLb sx_16)) sx_16) (fun _ st_21 => (f_Pa_switchStatement_L141 E S F depth fu_16 (x7 + 1) st_21))) else (some (.inr (0, sx_16)))))
def f_Pa_switchStatement_L70 (E : Int32 → Int32 → Int32 → ST → Rz) (S : Int32 → Int32 → ST → Rz) (F : Int32 → Int32 → ST → Rz) (depth : Int32) : Nat → Int32 → Int32 → ST → Rz
  | 0, _, _, _ => none
  | fu_6 + 1, x3, x4, sx_6 => (if 1000 < x4 then (some (.inr (0, sx_6))) else (bnd (f_Cu_accept sx_6 65) (fun r_9 st_9 => (if r_9 = 0 then (bnd (f_Pa_openClause st_9 (f_Cu_atWord st_9 5) x3) (fun r_12 st_12 => (if x3 = 0 then (if (f_Cu_atWord st_9 5) = 0 then (bnd (E (-1) (depth + 1) 1 st_12) (fun _ st_31 => (bnd (f_Cu_expect st_31 70) (fun _ st_32 => (bnd (f_Pa_switchStatement_L141 E S F depth 5000 0 st_32) (fun _ sx_33 => (bnd (p_close sx_33 r_12) (fun _ st_35 => (f_Pa_switchStatement_L70 E S F depth fu_6 0 (x4 + 1) st_35))))))))) else (bnd (f_Cu_expect st_12 70) (fun _ st_39 => (bnd (f_Pa_switchStatement_L141 E S F depth 5000 0 st_39) (fun _ sx_40 => (bnd (p_close sx_40 r_12) (fun _ st_42 => (f_Pa_switchStatement_L70 E S F depth fu_6 1 (x4 + 1) st_42)))))))) else (if (f_Cu_atWord st_9 5) = 0 then (bnd (E (-1) (depth + 1) 1 st_12) (fun _ st_22 => (bnd (f_Cu_expect st_22 70) (fun _ st_23 => (bnd (f_Pa_switchStatement_L141 E S F depth 5000 0 st_23) (fun _ sx_24 => (bnd (p_close sx_24 r_12) (fun _ st_26 => (f_Pa_switchStatement_L70 E S F depth fu_6 1 (x4 + 1) st_26))))))))) else (bnd (f_Cu_expect st_12 70) (fun _ st_15 => (bnd (f_Pa_switchStatement_L141 E S F depth 5000 0 st_15) (fun _ sx_16 => (bnd (p_close sx_16 r_12) (fun _ st_18 => (f_Pa_switchStatement_L70 E S F depth fu_6 1 (x4 + 1) st_18))))))))))) else (some (.inr (0, st_9)))))))
def f_Pa_switchStatement (E : Int32 → Int32 → Int32 → ST → Rz) (S : Int32 → Int32 → ST → Rz) (F : Int32 → Int32 → ST → Rz) (st : ST) (depth : Int32) : Rz := (bnd (p_open st 15 0 (sAt st)) (fun r_1 st_1 => (bnd (f_Cu_expect (setAt st_1 ((sAt st_1) + 1)) 60) (fun _ st_2 => (bnd (E (-1) (depth + 1) 1 st_2) (fun _ st_3 => (bnd (f_Cu_expect st_3 61) (fun _ st_4 => (bnd (f_Cu_expect st_4 64) (fun _ st_5 => (bnd (f_Pa_switchStatement_L70 E S F depth 5000 0 0 (setCo st_5 ((coF st_5), (coL st_5), (coS st_5), (coP st_5), ((coW st_5) + 1)))) (fun _ sx_6 => (bnd (p_close (setCo sx_6 ((coF sx_6), (coL sx_6), (coS sx_6), (coP sx_6), ((coW sx_6) - 1))) r_1) (fun _ st_8 => (some (.inr (0, st_8)))))))))))))))))
set_option maxRecDepth 100000 in
set_option maxHeartbeats 4000000 in
theorem m_Pa_switchStatement (l : Launch) (hlt : l.stackTraces = false) (dC : Nat → ClassId) (dI : Nat → Nat → Nat) (cI cZ : ClassId) (sa rk hp h a1 a2 a3 a4 ht hq n1 n2 : Nat) (fr0 lo0 : Nat) (E : Int32 → Int32 → Int32 → ST → Rz) (S : Int32 → Int32 → ST → Rz) (F : Int32 → Int32 → ST → Rz) (hRE : ∀ (hc : Nat) (ad : AD) (st : ST), okSt st → ∀ (sz : Nat) (level depth inn : Int32), E level depth inn st ≠ none → cPv l y_Pa_expression c_Pa_expression 6 fr0 lo0 (dC, dI) cI cZ sa rk hp hc h a1 a2 a3 a4 ht hq n1 n2 ad st sz [.ref hp, .int level, .int depth, .int inn] (E level depth inn st)) (hRS : ∀ (hc : Nat) (ad : AD) (st : ST), okSt st → ∀ (sz : Nat) (depth first : Int32), S depth first st ≠ none → cPv l y_Pa_statement c_Pa_statement 4 fr0 lo0 (dC, dI) cI cZ sa rk hp hc h a1 a2 a3 a4 ht hq n1 n2 ad st sz [.ref hp, .int depth, .int first] (S depth first st)) (hRF : ∀ (hc : Nat) (ad : AD) (st : ST), okSt st → ∀ (sz : Nat) (form depth : Int32), F form depth st ≠ none → cPv l y_Pa_function c_Pa_function 10 fr0 lo0 (dC, dI) cI cZ sa rk hp hc h a1 a2 a3 a4 ht hq n1 n2 ad st sz [.ref hp, .int form, .int depth] (F form depth st)) (hc : Nat) (ad : AD) (st : ST) (hst : okSt st) (sz : Nat) (depth : Int32) (hg : f_Pa_switchStatement E S F st depth ≠ none) : cPv l y_Pa_switchStatement c_Pa_switchStatement 8 (fr0 + 9) (lo0 + 346) (dC, dI) cI cZ sa rk hp hc h a1 a2 a3 a4 ht hq n1 n2 ad st sz [.ref hp, .int depth] (f_Pa_switchStatement E S F st depth) := by
  refine vx_ofW (cc := c_Pa_switchStatement) (maxL := 8) (ret := none) (by decide) rfl ?_
  intro p e s m args below meth c s₁ B hml hnt hv
  obtain ⟨rfl, hsz, hP, hK, hD0, hC, hZ⟩ := hv
  have hx := B.exec
  have hb := B.bytes
  have hr := B.returns
  have hts0 := atoms_spec (ws := wy y_Pa_switchStatement c_Pa_switchStatement 8 none) B.pre
  have hts := htsL hts0
  have hown : s.vm.findClass R_Pa = some m.cls := findClass_of_methodNamed B.named
  have hlocks := B.notSynchronized
  subst hsz
  have hD := hD0.self (sz := s.heap.size)
  generalize hAe : va_A (wQ cI cZ hp hc h a1 a2 a3 a4 ht hq n1 n2 (ad, st)) s.heap.size = A at hD hZ ⊢
  have hA : ∀ q : Nat, s.heap.size ≤ q → A q := fun q h => by rw [← hAe]; exact Or.inr h
  have hS : va_S A s.heap s.heap [] := va_S.rf
  have hcl : 0 + bC st ≤ bC st := Nat.le_of_eq (Nat.zero_add _)
  have hsl : 0 + bS st ≤ bS st := Nat.le_of_eq (Nat.zero_add _)
  have hl := lv_entry ([.ref hp, .int depth]) (n := 8) (Nat.le_of_ble_eq_true rfl)
  rw [lg_entry_eq]
  generalize (lg_sl ([.ref hp, .int depth]) ++ List.replicate (8 - (lg_sl ([.ref hp, .int depth])).length) Slot.unset).toArray = ls at hl ⊢
  have hl : lv_has ls 8 [(0, .ref hp), (1, .int depth)] := hl
  refine lv_aload_n hx hb d_Pa_switchStatement_0 rfl (lv_at hl 0 rfl) ?_
  refine va_get (D := (dC, dI)) (ci := 2) (v := .ref ht) (C := R_Pa) (T := T_Pa) (N := 7) hx hb hts u_Pa hown hK hP 0 rfl rfl 0 (by decide) (hts _ L_208) (fun _ h9 => h9) rfl d_Pa_switchStatement_1 ?_
  refine lv_bipush (v := 15) hx hb d_Pa_switchStatement_4 (by decide) ?_
  refine lv_iconst (v := 0) hx hb d_Pa_switchStatement_6 (by decide) ?_
  refine lv_aload_n hx hb d_Pa_switchStatement_7 rfl (lv_at hl 0 rfl) ?_
  refine va_get (D := (dC, dI)) (ci := 2) (v := .int (sAt st)) (C := R_Pa) (T := T_Pa) (N := 7) hx hb hts u_Pa hown hK hP 0 rfl rfl 4 (by decide) (hts _ L_215) (fun x9 h9 => u_same (hts _ L_216) x9 h9) rfl d_Pa_switchStatement_8 ?_
  have hn_1 : (p_open st 15 0 (sAt st)) ≠ none := (fun z => hg (by unfold f_Pa_switchStatement; rw [bnd_n z]))
  refine pT_i (g := (p_open st 15 0 (sAt st))) (st := st) (As := [.int 15, .int 0, .int (sAt st)]) (rest := []) ⟨hx, hb, hml, hown, hts0⟩ (m_Tr_open l dC dI cI cZ sa rk ht ad (sTr st) hst.2.1 _ 15 0 (sAt st) (p_open_c hn_1).1 (p_open_c hn_1).2.1) hP hD hK hS hA hC hZ L_416 L_417 L_418 L_85 L_419 ⟨rfl, k_Tr_open⟩ ⟨(by show _ ≤ fr0 + 9; omega), (by show _ ≤ lo0 + 346; omega)⟩ rfl rfl hl.1 (Nat.le_of_ble_eq_true rfl) d_Pa_switchStatement_11 rfl hcl hsl (p_open_c hn_1).2.2.1 (p_open_c hn_1).2.2.2 hst (t_open_ok 15 0 (sAt st) hst.2.1 (p_open_c hn_1).1 (p_open_c hn_1).2.1) (p_open_e hn_1) (fun r_1 ad_1 st_1 H locs w_1 ok_1 e1_1 e2_1 hP hD hS => ?_)
  have hcl := cl_next hcl e1_1
  have hsl := cl_next hsl e2_1
  refine lv_istore_n (lv' := [(2, .int r_1), (0, .ref hp), (1, .int depth)]) hx hb d_Pa_switchStatement_14 rfl hl (by decide) rfl (fun ls hl => ?_)
  refine lv_aload_n hx hb d_Pa_switchStatement_15 rfl (lv_at hl 1 rfl) ?_
  refine lv_dup hx hb d_Pa_switchStatement_16 rfl ?_
  refine va_get (D := (dC, dI)) (ci := 2) (v := .int (sAt st_1)) (C := R_Pa) (T := T_Pa) (N := 7) hx hb hts u_Pa hown hK hP 0 rfl rfl 4 (by decide) (hts _ L_215) (fun x9 h9 => u_same (hts _ L_216) x9 h9) rfl d_Pa_switchStatement_17 ?_
  refine lv_iconst (v := 1) hx hb d_Pa_switchStatement_20 (by decide) ?_
  refine lv_iadd hx hb d_Pa_switchStatement_21 ?_
  refine va_put (D := (dC, dI)) (ci := 2) (v := .int ((sAt st_1) + 1)) (ty := .int) (C := R_Pa) (T := T_Pa) (N := 7) hx hb hts u_Pa ty_Pa tk_Pa nm_Pa hown hK hP hD hS 0 rfl rfl 4 (by decide) (hts _ L_215) (fun x9 h9 => u_same (hts _ L_216) x9 h9) rfl (by decide +kernel) rfl rfl (Nat.le_of_ble_eq_true rfl) d_Pa_switchStatement_22 (fun H locs hP hD hS => ?_)
  have hP : va_P (dC, dI) cls (wQ cI cZ hp hc h a1 a2 a3 a4 ht hq n1 n2 (ad_1, (setAt st_1 ((sAt st_1) + 1)))) H := hP
  have hD : va_D A (wQ cI cZ hp hc h a1 a2 a3 a4 ht hq n1 n2 (ad_1, (setAt st_1 ((sAt st_1) + 1)))) := hD
  refine lv_aload_n hx hb d_Pa_switchStatement_25 rfl (lv_at hl 1 rfl) ?_
  refine lv_bipush (v := 60) hx hb d_Pa_switchStatement_26 (by decide) ?_
  refine mx_Uv (xm := ⟨"SyntaxTree$Parser", "expect", "(I)V"⟩) (owner := R_Cu) (As := [.int 60]) (rest := []) ⟨hx, hb, hml, hown, hts0⟩ (m_Cu_expect l hlt dC dI cI cZ sa rk hp hc h a1 a2 a3 a4 ht hq n1 n2 ad_1 (setAt st_1 ((sAt st_1) + 1)) (show okSt (setAt st_1 ((sAt st_1) + 1)) from ⟨ok_1.1, ok_1.2.1, ok_1.2.2.1, ok_1.2.2.2⟩) _ 60 (fun z => hg (by unfold f_Pa_switchStatement; rw [bnd_r w_1, bnd_n z]))) hP hD hK hS hA hC hZ hnt hlocks L_510 L_511 L_513 L_514 L_86 L_515 rfl k_Cu_expect ⟨(by show _ ≤ fr0 + 9; omega), (by show _ ≤ lo0 + 346; omega)⟩ rfl rfl hl.1 (Nat.le_of_ble_eq_true rfl) d_Pa_switchStatement_28 rfl (fun q z => by unfold f_Pa_switchStatement; rw [bnd_r w_1, bnd_l z]) hcl hsl (fun ad_2 st_2 H locs w_2 ok_2 e1_2 e2_2 hP hD hS => ?_)
  have hcl := cl_next hcl e1_2
  have hsl := cl_next hsl e2_2
  refine lv_aload_n hx hb d_Pa_switchStatement_31 rfl (lv_at hl 1 rfl) ?_
  refine lv_iconst (v := (-1)) hx hb d_Pa_switchStatement_32 (by decide) ?_
  refine lv_iload_n hx hb d_Pa_switchStatement_33 rfl (lv_at hl 2 rfl) ?_
  refine lv_iconst (v := 1) hx hb d_Pa_switchStatement_34 (by decide) ?_
  refine lv_iadd hx hb d_Pa_switchStatement_35 ?_
  refine lv_iconst (v := 1) hx hb d_Pa_switchStatement_36 (by decide) ?_
  refine mx_Vv (As := [.int (-1), .int (depth + 1), .int 1]) (rest := []) ⟨hx, hb, hml, hown, hts0⟩ (hRE hc ad_2 st_2 ok_2 _ (-1) (depth + 1) 1 (fun z => hg (by unfold f_Pa_switchStatement; rw [bnd_r w_1, bnd_r w_2, bnd_n z]))) hP hD hK hS hA hC hZ hnt hlocks L_569 L_571 L_12 L_87 L_572 k_Pa_expression ⟨(by show _ ≤ fr0 + 9; omega), (by show _ ≤ lo0 + 346; omega)⟩ rfl rfl hl.1 (Nat.le_of_ble_eq_true rfl) d_Pa_switchStatement_37 rfl (fun q z => by unfold f_Pa_switchStatement; rw [bnd_r w_1, bnd_r w_2, bnd_l z]) hcl hsl (fun ad_3 st_3 H locs w_3 ok_3 e1_3 e2_3 hP hD hS => ?_)
  have hcl := cl_next hcl e1_3
  have hsl := cl_next hsl e2_3
  refine lv_aload_n hx hb d_Pa_switchStatement_40 rfl (lv_at hl 1 rfl) ?_
  refine lv_bipush (v := 61) hx hb d_Pa_switchStatement_41 (by decide) ?_
  refine mx_Uv (xm := ⟨"SyntaxTree$Parser", "expect", "(I)V"⟩) (owner := R_Cu) (As := [.int 61]) (rest := []) ⟨hx, hb, hml, hown, hts0⟩ (m_Cu_expect l hlt dC dI cI cZ sa rk hp hc h a1 a2 a3 a4 ht hq n1 n2 ad_3 st_3 ok_3 _ 61 (fun z => hg (by unfold f_Pa_switchStatement; rw [bnd_r w_1, bnd_r w_2, bnd_r w_3, bnd_n z]))) hP hD hK hS hA hC hZ hnt hlocks L_510 L_511 L_513 L_514 L_86 L_515 rfl k_Cu_expect ⟨(by show _ ≤ fr0 + 9; omega), (by show _ ≤ lo0 + 346; omega)⟩ rfl rfl hl.1 (Nat.le_of_ble_eq_true rfl) d_Pa_switchStatement_43 rfl (fun q z => by unfold f_Pa_switchStatement; rw [bnd_r w_1, bnd_r w_2, bnd_r w_3, bnd_l z]) hcl hsl (fun ad_4 st_4 H locs w_4 ok_4 e1_4 e2_4 hP hD hS => ?_)
  have hcl := cl_next hcl e1_4
  have hsl := cl_next hsl e2_4
  refine lv_aload_n hx hb d_Pa_switchStatement_46 rfl (lv_at hl 1 rfl) ?_
  refine lv_bipush (v := 64) hx hb d_Pa_switchStatement_47 (by decide) ?_
  refine mx_Uv (xm := ⟨"SyntaxTree$Parser", "expect", "(I)V"⟩) (owner := R_Cu) (As := [.int 64]) (rest := []) ⟨hx, hb, hml, hown, hts0⟩ (m_Cu_expect l hlt dC dI cI cZ sa rk hp hc h a1 a2 a3 a4 ht hq n1 n2 ad_4 st_4 ok_4 _ 64 (fun z => hg (by unfold f_Pa_switchStatement; rw [bnd_r w_1, bnd_r w_2, bnd_r w_3, bnd_r w_4, bnd_n z]))) hP hD hK hS hA hC hZ hnt hlocks L_510 L_511 L_513 L_514 L_86 L_515 rfl k_Cu_expect ⟨(by show _ ≤ fr0 + 9; omega), (by show _ ≤ lo0 + 346; omega)⟩ rfl rfl hl.1 (Nat.le_of_ble_eq_true rfl) d_Pa_switchStatement_49 rfl (fun q z => by unfold f_Pa_switchStatement; rw [bnd_r w_1, bnd_r w_2, bnd_r w_3, bnd_r w_4, bnd_l z]) hcl hsl (fun ad_5 st_5 H locs w_5 ok_5 e1_5 e2_5 hP hD hS => ?_)
  have hcl := cl_next hcl e1_5
  have hsl := cl_next hsl e2_5
  refine lv_aload_n hx hb d_Pa_switchStatement_52 rfl (lv_at hl 1 rfl) ?_
  refine va_get (D := (dC, dI)) (ci := 2) (v := .ref hc) (C := R_Pa) (T := T_Pa) (N := 7) hx hb hts u_Pa hown hK hP 0 rfl rfl 6 (by decide) (hts _ L_221) (fun x9 h9 => u_same (hts _ L_222) x9 h9) rfl d_Pa_switchStatement_53 ?_
  refine lv_dup hx hb d_Pa_switchStatement_56 rfl ?_
  refine va_get (D := (dC, dI)) (ci := 0) (v := .int (coW st_5)) (C := R_Co) (T := T_Co) (N := 5) hx hb hts u_Co hown hK hP 1 rfl rfl 4 (by decide) (hts _ L_179) (fun _ h9 => h9) rfl d_Pa_switchStatement_57 ?_
  refine lv_iconst (v := 1) hx hb d_Pa_switchStatement_60 (by decide) ?_
  refine lv_iadd hx hb d_Pa_switchStatement_61 ?_
  refine va_put (D := (dC, dI)) (ci := 0) (v := .int ((coW st_5) + 1)) (ty := .int) (C := R_Co) (T := T_Co) (N := 5) hx hb hts u_Co ty_Co tk_Co nm_Co hown hK hP hD hS 1 rfl rfl 4 (by decide) (hts _ L_179) (fun _ h9 => h9) rfl (by decide +kernel) rfl rfl (Nat.le_of_ble_eq_true rfl) d_Pa_switchStatement_62 (fun H locs hP hD hS => ?_)
  have hP : va_P (dC, dI) cls (wQ cI cZ hp hc h a1 a2 a3 a4 ht hq n1 n2 (ad_5, (setCo st_5 ((coF st_5), (coL st_5), (coS st_5), (coP st_5), ((coW st_5) + 1))))) H := hP
  have hD : va_D A (wQ cI cZ hp hc h a1 a2 a3 a4 ht hq n1 n2 (ad_5, (setCo st_5 ((coF st_5), (coL st_5), (coS st_5), (coP st_5), ((coW st_5) + 1))))) := hD
  refine lv_iconst (v := 0) hx hb d_Pa_switchStatement_65 (by decide) ?_
  refine lv_istore_n (lv' := [(3, .int 0), (2, .int r_1), (0, .ref hp), (1, .int depth)]) hx hb d_Pa_switchStatement_66 rfl hl (by decide) rfl (fun ls hl => ?_)
  refine lv_iconst (v := 0) hx hb d_Pa_switchStatement_67 (by decide) ?_
  refine lv_istore (lv' := [(4, .int 0), (3, .int 0), (2, .int r_1), (0, .ref hp), (1, .int depth)]) hx hb d_Pa_switchStatement_68 hl (by decide) rfl (fun ls hl => ?_)
  obtain ⟨x_6, hx_6⟩ : ∃ z, f_Pa_switchStatement_L70 E S F depth 5000 0 0 (setCo st_5 ((coF st_5), (coL st_5), (coS st_5), (coP st_5), ((coW st_5) + 1))) = z := ⟨_, rfl⟩
  have hn_6 : x_6 ≠ none := (fun z => hg (by unfold f_Pa_switchStatement; rw [bnd_r w_1, bnd_r w_2, bnd_r w_3, bnd_r w_4, bnd_r w_5, bnd_n (hx_6.trans z)]))
  have hX_6 : ∀ q, x_6 = some (.inl q) → (f_Pa_switchStatement E S F st depth) = some (.inl q) := (fun q z => by unfold f_Pa_switchStatement; rw [bnd_r w_1, bnd_r w_2, bnd_r w_3, bnd_r w_4, bnd_r w_5, bnd_l (hx_6.trans z)])
  have lp_6 : ∀ (fu : Nat) (x3 x4 : Int32) (ax_6 : AD) (sx_6 : ST) (okx_6 : okSt sx_6) (H : Heap) (locs : List Loc) (ls : Array Slot) (cells slots : Nat), va_P (dC, dI) cls (wQ cI cZ hp hc h a1 a2 a3 a4 ht hq n1 n2 (ax_6, sx_6)) H → va_D A (wQ cI cZ hp hc h a1 a2 a3 a4 ht hq n1 n2 (ax_6, sx_6)) → va_S A s.heap H locs → lv_has ls 8 [(0, .ref hp), (1, .int depth), (2, .int r_1), (3, .int x3), (4, .int x4)] → cells + bC sx_6 ≤ bC st → slots + bS sx_6 ≤ bS st → x_6 = f_Pa_switchStatement_L70 E S F depth fu x3 x4 sx_6 → W p l e (headSpec (wy y_Pa_switchStatement c_Pa_switchStatement 8 none) { frames := (fr0 + 9), cells := bC st, slots := bS st, locals := (lo0 + 346) }).room s m [.ref hp, .int depth].toArray below meth c H locs cells slots (vx_MQ below (va_Qv (poN (f_Pa_switchStatement E S F st depth) st 0) (wB (dC, dI) cI cZ A (wQ cI cZ hp hc h a1 a2 a3 a4 ht hq n1 n2)) A) (xP (dC, dI) cI cZ hp h a1 a2 a3 a4 ht hq n1 n2 (f_Pa_switchStatement E S F st depth) st A) [.ref hp, .int depth].toArray s (mcO st (f_Pa_switchStatement E S F st depth)) (msO st (f_Pa_switchStatement E S F st depth)) A) (F0 m 70 ls []) := by
    intro fu
    induction fu with
    | zero => intro x3 x4 ax_6 sx_6 okx_6 H locs ls cells slots hP hD hS hl hcl hsl hL_6; exact absurd (hL_6.trans rfl) hn_6
    | succ fu_6 ih_6 =>
      intro x3 x4 ax_6 sx_6 okx_6 H locs ls cells slots hP hD hS hl hcl hsl hL_6
      rw [f_Pa_switchStatement_L70] at hL_6
      refine lv_iload hx hb d_Pa_switchStatement_70 (lv_at hl 4 rfl) ?_
      refine lv_sipush (v := 1000) hx hb d_Pa_switchStatement_72 (by decide) ?_
      refine lv_icmp_gt (tgt := 191) hx hb d_Pa_switchStatement_75 (by decide) (fun c_7 => ?_) (fun c_7 => ?_)
      · rw [if_pos c_7] at hL_6
        have we_6 : f_Pa_switchStatement_L70 E S F depth 5000 0 0 (setCo st_5 ((coF st_5), (coL st_5), (coS st_5), (coP st_5), ((coW st_5) + 1))) = some (.inr (0, sx_6)) := hx_6.trans hL_6
        have hl := lv_sub hl (l' := [(0, .ref hp), (1, .int depth), (2, .int r_1)]) [0, 1, 2] rfl
        refine lv_aload_n hx hb d_Pa_switchStatement_191 rfl (lv_at hl 0 rfl) ?_
        refine va_get (D := (dC, dI)) (ci := 2) (v := .ref hc) (C := R_Pa) (T := T_Pa) (N := 7) hx hb hts u_Pa hown hK hP 0 rfl rfl 6 (by decide) (hts _ L_221) (fun x9 h9 => u_same (hts _ L_222) x9 h9) rfl d_Pa_switchStatement_192 ?_
        refine lv_dup hx hb d_Pa_switchStatement_195 rfl ?_
        refine va_get (D := (dC, dI)) (ci := 0) (v := .int (coW sx_6)) (C := R_Co) (T := T_Co) (N := 5) hx hb hts u_Co hown hK hP 1 rfl rfl 4 (by decide) (hts _ L_179) (fun _ h9 => h9) rfl d_Pa_switchStatement_196 ?_
        refine lv_iconst (v := 1) hx hb d_Pa_switchStatement_199 (by decide) ?_
        refine lv_isub hx hb d_Pa_switchStatement_200 ?_
        refine va_put (D := (dC, dI)) (ci := 0) (v := .int ((coW sx_6) - 1)) (ty := .int) (C := R_Co) (T := T_Co) (N := 5) hx hb hts u_Co ty_Co tk_Co nm_Co hown hK hP hD hS 1 rfl rfl 4 (by decide) (hts _ L_179) (fun _ h9 => h9) rfl (by decide +kernel) rfl rfl (Nat.le_of_ble_eq_true rfl) d_Pa_switchStatement_201 (fun H locs hP hD hS => ?_)
        have hP : va_P (dC, dI) cls (wQ cI cZ hp hc h a1 a2 a3 a4 ht hq n1 n2 (ax_6, (setCo sx_6 ((coF sx_6), (coL sx_6), (coS sx_6), (coP sx_6), ((coW sx_6) - 1))))) H := hP
        have hD : va_D A (wQ cI cZ hp hc h a1 a2 a3 a4 ht hq n1 n2 (ax_6, (setCo sx_6 ((coF sx_6), (coL sx_6), (coS sx_6), (coP sx_6), ((coW sx_6) - 1))))) := hD
        refine lv_aload_n hx hb d_Pa_switchStatement_204 rfl (lv_at hl 0 rfl) ?_
        refine va_get (D := (dC, dI)) (ci := 2) (v := .ref ht) (C := R_Pa) (T := T_Pa) (N := 7) hx hb hts u_Pa hown hK hP 0 rfl rfl 0 (by decide) (hts _ L_208) (fun _ h9 => h9) rfl d_Pa_switchStatement_205 ?_
        refine lv_iload_n hx hb d_Pa_switchStatement_208 rfl (lv_at hl 2 rfl) ?_
        refine pT_v (g := (p_close (setCo sx_6 ((coF sx_6), (coL sx_6), (coS sx_6), (coP sx_6), ((coW sx_6) - 1))) r_1)) (st := (setCo sx_6 ((coF sx_6), (coL sx_6), (coS sx_6), (coP sx_6), ((coW sx_6) - 1)))) (As := [.int r_1]) (rest := []) ⟨hx, hb, hml, hown, hts0⟩ (m_Tr_close l dC dI cI cZ sa rk ht ax_6 (sTr sx_6) okx_6.2.1 _ r_1) hP hD hK hS hA hC hZ L_582 L_583 L_584 L_85 L_585 ⟨rfl, k_Tr_close⟩ ⟨(by show _ ≤ fr0 + 9; omega), (by show _ ≤ lo0 + 346; omega)⟩ rfl rfl hl.1 (Nat.le_of_ble_eq_true rfl) d_Pa_switchStatement_209 rfl hcl hsl (Nat.zero_le _) (Nat.zero_le _) (show okSt (setCo sx_6 ((coF sx_6), (coL sx_6), (coS sx_6), (coP sx_6), ((coW sx_6) - 1))) from ⟨okx_6.1, okx_6.2.1, okx_6.2.2.1, okx_6.2.2.2⟩) (t_close_ok r_1 okx_6.2.1) rfl (fun ad_8 st_8 H locs w_8 ok_8 e1_8 e2_8 hP hD hS => ?_)
        have hcl := cl_next hcl e1_8
        have hsl := cl_next hsl e2_8
        exact mx_vret (stF := st_8) hx hb hr hlocks hK hP hD hS hcl hsl (by unfold f_Pa_switchStatement; rw [bnd_r w_1, bnd_r w_2, bnd_r w_3, bnd_r w_4, bnd_r w_5, bnd_r we_6, bnd_r w_8]) ok_8 d_Pa_switchStatement_212
      · rw [if_neg c_7] at hL_6
        refine lv_aload_n hx hb d_Pa_switchStatement_78 rfl (lv_at hl 0 rfl) ?_
        refine lv_bipush (v := 65) hx hb d_Pa_switchStatement_79 (by decide) ?_
        refine mx_Ui (xm := ⟨"SyntaxTree$Parser", "accept", "(I)Z"⟩) (owner := R_Cu) (As := [.int 65]) (rest := []) ⟨hx, hb, hml, hown, hts0⟩ (m_Cu_accept l hlt dC dI cI cZ sa rk hp hc h a1 a2 a3 a4 ht hq n1 n2 ax_6 sx_6 okx_6 _ 65 (fun z => hn_6 (hL_6.trans (bnd_n z)))) hP hD hK hS hA hC hZ hnt hlocks L_556 L_557 L_559 L_547 L_86 L_550 rfl k_Cu_accept ⟨(by show _ ≤ fr0 + 9; omega), (by show _ ≤ lo0 + 346; omega)⟩ rfl rfl hl.1 (Nat.le_of_ble_eq_true rfl) d_Pa_switchStatement_81 rfl (fun q z => hX_6 q (hL_6.trans (bnd_l z))) hcl hsl (fun r_9 ad_9 st_9 H locs w_9 ok_9 e1_9 e2_9 hP hD hS => ?_)
        have hcl := cl_next hcl e1_9
        have hsl := cl_next hsl e2_9
        rw [bnd_r w_9] at hL_6
        refine lv_if_ne (tgt := 191) hx hb d_Pa_switchStatement_84 (by decide) (fun c_10 => ?_) (fun c_10 => ?_)
        · rw [if_neg c_10] at hL_6
          have we_6 : f_Pa_switchStatement_L70 E S F depth 5000 0 0 (setCo st_5 ((coF st_5), (coL st_5), (coS st_5), (coP st_5), ((coW st_5) + 1))) = some (.inr (0, st_9)) := hx_6.trans hL_6
          have hl := lv_sub hl (l' := [(0, .ref hp), (1, .int depth), (2, .int r_1)]) [0, 1, 2] rfl
          refine lv_aload_n hx hb d_Pa_switchStatement_191 rfl (lv_at hl 0 rfl) ?_
          refine va_get (D := (dC, dI)) (ci := 2) (v := .ref hc) (C := R_Pa) (T := T_Pa) (N := 7) hx hb hts u_Pa hown hK hP 0 rfl rfl 6 (by decide) (hts _ L_221) (fun x9 h9 => u_same (hts _ L_222) x9 h9) rfl d_Pa_switchStatement_192 ?_
          refine lv_dup hx hb d_Pa_switchStatement_195 rfl ?_
          refine va_get (D := (dC, dI)) (ci := 0) (v := .int (coW st_9)) (C := R_Co) (T := T_Co) (N := 5) hx hb hts u_Co hown hK hP 1 rfl rfl 4 (by decide) (hts _ L_179) (fun _ h9 => h9) rfl d_Pa_switchStatement_196 ?_
          refine lv_iconst (v := 1) hx hb d_Pa_switchStatement_199 (by decide) ?_
          refine lv_isub hx hb d_Pa_switchStatement_200 ?_
          refine va_put (D := (dC, dI)) (ci := 0) (v := .int ((coW st_9) - 1)) (ty := .int) (C := R_Co) (T := T_Co) (N := 5) hx hb hts u_Co ty_Co tk_Co nm_Co hown hK hP hD hS 1 rfl rfl 4 (by decide) (hts _ L_179) (fun _ h9 => h9) rfl (by decide +kernel) rfl rfl (Nat.le_of_ble_eq_true rfl) d_Pa_switchStatement_201 (fun H locs hP hD hS => ?_)
          have hP : va_P (dC, dI) cls (wQ cI cZ hp hc h a1 a2 a3 a4 ht hq n1 n2 (ad_9, (setCo st_9 ((coF st_9), (coL st_9), (coS st_9), (coP st_9), ((coW st_9) - 1))))) H := hP
          have hD : va_D A (wQ cI cZ hp hc h a1 a2 a3 a4 ht hq n1 n2 (ad_9, (setCo st_9 ((coF st_9), (coL st_9), (coS st_9), (coP st_9), ((coW st_9) - 1))))) := hD
          refine lv_aload_n hx hb d_Pa_switchStatement_204 rfl (lv_at hl 0 rfl) ?_
          refine va_get (D := (dC, dI)) (ci := 2) (v := .ref ht) (C := R_Pa) (T := T_Pa) (N := 7) hx hb hts u_Pa hown hK hP 0 rfl rfl 0 (by decide) (hts _ L_208) (fun _ h9 => h9) rfl d_Pa_switchStatement_205 ?_
          refine lv_iload_n hx hb d_Pa_switchStatement_208 rfl (lv_at hl 2 rfl) ?_
          refine pT_v (g := (p_close (setCo st_9 ((coF st_9), (coL st_9), (coS st_9), (coP st_9), ((coW st_9) - 1))) r_1)) (st := (setCo st_9 ((coF st_9), (coL st_9), (coS st_9), (coP st_9), ((coW st_9) - 1)))) (As := [.int r_1]) (rest := []) ⟨hx, hb, hml, hown, hts0⟩ (m_Tr_close l dC dI cI cZ sa rk ht ad_9 (sTr st_9) ok_9.2.1 _ r_1) hP hD hK hS hA hC hZ L_582 L_583 L_584 L_85 L_585 ⟨rfl, k_Tr_close⟩ ⟨(by show _ ≤ fr0 + 9; omega), (by show _ ≤ lo0 + 346; omega)⟩ rfl rfl hl.1 (Nat.le_of_ble_eq_true rfl) d_Pa_switchStatement_209 rfl hcl hsl (Nat.zero_le _) (Nat.zero_le _) (show okSt (setCo st_9 ((coF st_9), (coL st_9), (coS st_9), (coP st_9), ((coW st_9) - 1))) from ⟨ok_9.1, ok_9.2.1, ok_9.2.2.1, ok_9.2.2.2⟩) (t_close_ok r_1 ok_9.2.1) rfl (fun ad_11 st_11 H locs w_11 ok_11 e1_11 e2_11 hP hD hS => ?_)
          have hcl := cl_next hcl e1_11
          have hsl := cl_next hsl e2_11
          exact mx_vret (stF := st_11) hx hb hr hlocks hK hP hD hS hcl hsl (by unfold f_Pa_switchStatement; rw [bnd_r w_1, bnd_r w_2, bnd_r w_3, bnd_r w_4, bnd_r w_5, bnd_r we_6, bnd_r w_11]) ok_11 d_Pa_switchStatement_212
        · rw [if_pos c_10] at hL_6
          refine lv_aload_n hx hb d_Pa_switchStatement_87 rfl (lv_at hl 0 rfl) ?_
          refine lv_iconst (v := 5) hx hb d_Pa_switchStatement_88 (by decide) ?_
          refine rd_U (xm := ⟨"SyntaxTree$Parser", "atWord", "(I)Z"⟩) (owner := R_Cu) (v := (f_Cu_atWord st_9 5)) (As := [.int 5]) (rest := []) ⟨hx, hb, hml, hown, hts0⟩ (m_Cu_atWord l dC dI cI cZ hp hc h a1 a2 a3 a4 ht ad_9.1 ad_9.2.1 ad_9.2.2.1 ad_9.2.2.2 hq n1 n2 st_9 ok_9 5) hP hK [0, 1, 2, 3, 4, 5, 6, 7, 8, 9, 10, 11, 12, 13, 14] rfl [0, 1] rfl 0 2 rfl rfl L_439 L_440 L_442 L_443 L_86 L_444 rfl k_Cu_atWord ⟨(by show _ ≤ fr0 + 9; omega), (by show _ ≤ lo0 + 346; omega)⟩ hl.1 ⟨Nat.le_trans (Nat.le_add_right _ _) hcl, Nat.le_trans (Nat.le_add_right _ _) hsl⟩ (Nat.le_of_ble_eq_true rfl) d_Pa_switchStatement_89 rfl ?_
          refine lv_istore (lv' := [(5, .int (f_Cu_atWord st_9 5)), (0, .ref hp), (1, .int depth), (2, .int r_1), (3, .int x3), (4, .int x4)]) hx hb d_Pa_switchStatement_92 hl (by decide) rfl (fun ls hl => ?_)
          refine lv_aload_n hx hb d_Pa_switchStatement_94 rfl (lv_at hl 1 rfl) ?_
          refine lv_iload hx hb d_Pa_switchStatement_95 (lv_at hl 0 rfl) ?_
          refine lv_iload_n hx hb d_Pa_switchStatement_97 rfl (lv_at hl 4 rfl) ?_
          refine mx_Vi (As := [.int (f_Cu_atWord st_9 5), .int x3]) (rest := []) ⟨hx, hb, hml, hown, hts0⟩ (m_Pa_openClause l hlt dC dI cI cZ sa rk hp hc h a1 a2 a3 a4 ht hq n1 n2 ad_9 st_9 ok_9 _ (f_Cu_atWord st_9 5) x3 (fun z => hn_6 (hL_6.trans (bnd_n z)))) hP hD hK hS hA hC hZ hnt hlocks L_799 L_801 L_45 L_87 L_802 k_Pa_openClause ⟨(by show _ ≤ fr0 + 9; omega), (by show _ ≤ lo0 + 346; omega)⟩ rfl rfl hl.1 (Nat.le_of_ble_eq_true rfl) d_Pa_switchStatement_98 rfl (fun q z => hX_6 q (hL_6.trans (bnd_l z))) hcl hsl (fun r_12 ad_12 st_12 H locs w_12 ok_12 e1_12 e2_12 hP hD hS => ?_)
          have hcl := cl_next hcl e1_12
          have hsl := cl_next hsl e2_12
          rw [bnd_r w_12] at hL_6
          refine lv_istore (lv' := [(6, .int r_12), (5, .int (f_Cu_atWord st_9 5)), (0, .ref hp), (1, .int depth), (2, .int r_1), (3, .int x3), (4, .int x4)]) hx hb d_Pa_switchStatement_101 hl (by decide) rfl (fun ls hl => ?_)
          refine lv_iload_n hx hb d_Pa_switchStatement_103 rfl (lv_at hl 5 rfl) ?_
          refine lv_if_ne (tgt := 112) hx hb d_Pa_switchStatement_104 (by decide) (fun c_13 => ?_) (fun c_13 => ?_)
          · rw [if_neg c_13] at hL_6
            refine lv_iconst (v := 1) hx hb d_Pa_switchStatement_112 (by decide) ?_
            refine lv_goto (tgt := 117) hx hb d_Pa_switchStatement_113 (by decide) ?_
            refine lv_istore_n (lv' := [(3, .int 1), (6, .int r_12), (5, .int (f_Cu_atWord st_9 5)), (0, .ref hp), (1, .int depth), (2, .int r_1), (4, .int x4)]) hx hb d_Pa_switchStatement_117 rfl hl (by decide) rfl (fun ls hl => ?_)
            refine lv_iload hx hb d_Pa_switchStatement_118 (lv_at hl 2 rfl) ?_
            refine lv_if_ne (tgt := 132) hx hb d_Pa_switchStatement_120 (by decide) (fun c_14 => ?_) (fun c_14 => ?_)
            · rw [if_neg c_14] at hL_6
              refine lv_aload_n hx hb d_Pa_switchStatement_132 rfl (lv_at hl 3 rfl) ?_
              refine lv_bipush (v := 70) hx hb d_Pa_switchStatement_133 (by decide) ?_
              refine mx_Uv (xm := ⟨"SyntaxTree$Parser", "expect", "(I)V"⟩) (owner := R_Cu) (As := [.int 70]) (rest := []) ⟨hx, hb, hml, hown, hts0⟩ (m_Cu_expect l hlt dC dI cI cZ sa rk hp hc h a1 a2 a3 a4 ht hq n1 n2 ad_12 st_12 ok_12 _ 70 (fun z => hn_6 (hL_6.trans (bnd_n z)))) hP hD hK hS hA hC hZ hnt hlocks L_510 L_511 L_513 L_514 L_86 L_515 rfl k_Cu_expect ⟨(by show _ ≤ fr0 + 9; omega), (by show _ ≤ lo0 + 346; omega)⟩ rfl rfl hl.1 (Nat.le_of_ble_eq_true rfl) d_Pa_switchStatement_135 rfl (fun q z => hX_6 q (hL_6.trans (bnd_l z))) hcl hsl (fun ad_15 st_15 H locs w_15 ok_15 e1_15 e2_15 hP hD hS => ?_)
              have hcl := cl_next hcl e1_15
              have hsl := cl_next hsl e2_15
              rw [bnd_r w_15] at hL_6
              refine lv_iconst (v := 0) hx hb d_Pa_switchStatement_138 (by decide) ?_
              refine lv_istore (lv' := [(7, .int 0), (3, .int 1), (6, .int r_12), (5, .int (f_Cu_atWord st_9 5)), (0, .ref hp), (1, .int depth), (2, .int r_1), (4, .int x4)]) hx hb d_Pa_switchStatement_139 hl (by decide) rfl (fun ls hl => ?_)
              obtain ⟨x_16, hx_16⟩ : ∃ z, f_Pa_switchStatement_L141 E S F depth 5000 0 st_15 = z := ⟨_, rfl⟩
              have hn_16 : x_16 ≠ none := (fun z => hn_6 (hL_6.trans (bnd_n (hx_16.trans z))))
              have hX_16 : ∀ q, x_16 = some (.inl q) → (f_Pa_switchStatement E S F st depth) = some (.inl q) := (fun q z => hX_6 q (hL_6.trans (bnd_l (hx_16.trans z))))
              have lp_16 : ∀ (fu : Nat) (x7 : Int32) (ax_16 : AD) (sx_16 : ST) (okx_16 : okSt sx_16) (H : Heap) (locs : List Loc) (ls : Array Slot) (cells slots : Nat), va_P (dC, dI) cls (wQ cI cZ hp hc h a1 a2 a3 a4 ht hq n1 n2 (ax_16, sx_16)) H → va_D A (wQ cI cZ hp hc h a1 a2 a3 a4 ht hq n1 n2 (ax_16, sx_16)) → va_S A s.heap H locs → lv_has ls 8 [(0, .ref hp), (1, .int depth), (2, .int r_1), (3, .int 1), (4, .int x4), (5, .int (f_Cu_atWord st_9 5)), (6, .int r_12), (7, .int x7)] → cells + bC sx_16 ≤ bC st → slots + bS sx_16 ≤ bS st → x_16 = f_Pa_switchStatement_L141 E S F depth fu x7 sx_16 → W p l e (headSpec (wy y_Pa_switchStatement c_Pa_switchStatement 8 none) { frames := (fr0 + 9), cells := bC st, slots := bS st, locals := (lo0 + 346) }).room s m [.ref hp, .int depth].toArray below meth c H locs cells slots (vx_MQ below (va_Qv (poN (f_Pa_switchStatement E S F st depth) st 0) (wB (dC, dI) cI cZ A (wQ cI cZ hp hc h a1 a2 a3 a4 ht hq n1 n2)) A) (xP (dC, dI) cI cZ hp h a1 a2 a3 a4 ht hq n1 n2 (f_Pa_switchStatement E S F st depth) st A) [.ref hp, .int depth].toArray s (mcO st (f_Pa_switchStatement E S F st depth)) (msO st (f_Pa_switchStatement E S F st depth)) A) (F0 m 141 ls []) := by
                intro fu
                induction fu with
                | zero => intro x7 ax_16 sx_16 okx_16 H locs ls cells slots hP hD hS hl hcl hsl hL_16; exact absurd (hL_16.trans rfl) hn_16
                | succ fu_16 ih_16 =>
                  intro x7 ax_16 sx_16 okx_16 H locs ls cells slots hP hD hS hl hcl hsl hL_16
                  rw [f_Pa_switchStatement_L141] at hL_16
                  refine lv_iload hx hb d_Pa_switchStatement_141 (lv_at hl 7 rfl) ?_
                  refine lv_sipush (v := 1000) hx hb d_Pa_switchStatement_143 (by decide) ?_
                  refine lv_icmp_gt (tgt := 176) hx hb d_Pa_switchStatement_146 (by decide) (fun c_17 => ?_) (fun c_17 => ?_)
                  · rw [if_pos c_17] at hL_16
                    have we_16 : f_Pa_switchStatement_L141 E S F depth 5000 0 st_15 = some (.inr (0, sx_16)) := hx_16.trans hL_16
                    have hl := lv_sub hl (l' := [(0, .ref hp), (1, .int depth), (2, .int r_1), (3, .int 1), (4, .int x4), (5, .int (f_Cu_atWord st_9 5)), (6, .int r_12)]) [0, 1, 2, 3, 4, 5, 6] rfl
                    rw [bnd_r we_16] at hL_6
                    refine lv_aload_n hx hb d_Pa_switchStatement_176 rfl (lv_at hl 0 rfl) ?_
                    refine va_get (D := (dC, dI)) (ci := 2) (v := .ref ht) (C := R_Pa) (T := T_Pa) (N := 7) hx hb hts u_Pa hown hK hP 0 rfl rfl 0 (by decide) (hts _ L_208) (fun _ h9 => h9) rfl d_Pa_switchStatement_177 ?_
                    refine lv_iload hx hb d_Pa_switchStatement_180 (lv_at hl 6 rfl) ?_
                    refine pT_v (g := (p_close sx_16 r_12)) (st := sx_16) (As := [.int r_12]) (rest := []) ⟨hx, hb, hml, hown, hts0⟩ (m_Tr_close l dC dI cI cZ sa rk ht ax_16 (sTr sx_16) okx_16.2.1 _ r_12) hP hD hK hS hA hC hZ L_582 L_583 L_584 L_85 L_585 ⟨rfl, k_Tr_close⟩ ⟨(by show _ ≤ fr0 + 9; omega), (by show _ ≤ lo0 + 346; omega)⟩ rfl rfl hl.1 (Nat.le_of_ble_eq_true rfl) d_Pa_switchStatement_182 rfl hcl hsl (Nat.zero_le _) (Nat.zero_le _) okx_16 (t_close_ok r_12 okx_16.2.1) rfl (fun ad_18 st_18 H locs w_18 ok_18 e1_18 e2_18 hP hD hS => ?_)
                    have hcl := cl_next hcl e1_18
                    have hsl := cl_next hsl e2_18
                    rw [bnd_r w_18] at hL_6
                    refine lv_iinc (v := (x4 + 1)) (lv' := [(4, .int (x4 + 1)), (0, .ref hp), (1, .int depth), (2, .int r_1), (3, .int 1), (5, .int (f_Cu_atWord st_9 5)), (6, .int r_12)]) hx hb d_Pa_switchStatement_185 hl (k := 4) rfl rfl (by decide) rfl (fun ls hl => ?_)
                    refine lv_goto (tgt := 70) hx hb d_Pa_switchStatement_188 (by decide) ?_
                    exact ih_6 1 (x4 + 1) ad_18 st_18 ok_18 _ _ ls _ _ hP hD hS (lv_sub hl [1, 2, 3, 4, 0] rfl) hcl hsl hL_6
                  · rw [if_neg c_17] at hL_16
                    refine lv_aload_n hx hb d_Pa_switchStatement_149 rfl (lv_at hl 0 rfl) ?_
                    refine rd_V (v := (f_Pa_atClauseEnd sx_16)) (As := []) (rest := []) ⟨hx, hb, hml, hown, hts0⟩ (m_Pa_atClauseEnd l dC dI cI cZ hp hc h a1 a2 a3 a4 ht ax_16.1 ax_16.2.1 ax_16.2.2.1 ax_16.2.2.2 hq n1 n2 sx_16 okx_16 ) hP hK [0, 1, 2, 3, 4, 5, 6, 7, 8, 9, 10, 11, 12, 13, 14] rfl [0, 1] rfl 0 2 rfl rfl L_803 L_805 L_46 L_87 L_806 ⟨rfl, k_Pa_atClauseEnd⟩ ⟨(by show _ ≤ fr0 + 9; omega), (by show _ ≤ lo0 + 346; omega)⟩ hl.1 ⟨Nat.le_trans (Nat.le_add_right _ _) hcl, Nat.le_trans (Nat.le_add_right _ _) hsl⟩ (Nat.le_of_ble_eq_true rfl) d_Pa_switchStatement_150 rfl ?_
                    refine lv_if_ne (tgt := 176) hx hb d_Pa_switchStatement_153 (by decide) (fun c_19 => ?_) (fun c_19 => ?_)
                    · rw [if_neg c_19] at hL_16
                      have we_16 : f_Pa_switchStatement_L141 E S F depth 5000 0 st_15 = some (.inr (0, sx_16)) := hx_16.trans hL_16
                      have hl := lv_sub hl (l' := [(0, .ref hp), (1, .int depth), (2, .int r_1), (3, .int 1), (4, .int x4), (5, .int (f_Cu_atWord st_9 5)), (6, .int r_12)]) [0, 1, 2, 3, 4, 5, 6] rfl
                      rw [bnd_r we_16] at hL_6
                      refine lv_aload_n hx hb d_Pa_switchStatement_176 rfl (lv_at hl 0 rfl) ?_
                      refine va_get (D := (dC, dI)) (ci := 2) (v := .ref ht) (C := R_Pa) (T := T_Pa) (N := 7) hx hb hts u_Pa hown hK hP 0 rfl rfl 0 (by decide) (hts _ L_208) (fun _ h9 => h9) rfl d_Pa_switchStatement_177 ?_
                      refine lv_iload hx hb d_Pa_switchStatement_180 (lv_at hl 6 rfl) ?_
                      refine pT_v (g := (p_close sx_16 r_12)) (st := sx_16) (As := [.int r_12]) (rest := []) ⟨hx, hb, hml, hown, hts0⟩ (m_Tr_close l dC dI cI cZ sa rk ht ax_16 (sTr sx_16) okx_16.2.1 _ r_12) hP hD hK hS hA hC hZ L_582 L_583 L_584 L_85 L_585 ⟨rfl, k_Tr_close⟩ ⟨(by show _ ≤ fr0 + 9; omega), (by show _ ≤ lo0 + 346; omega)⟩ rfl rfl hl.1 (Nat.le_of_ble_eq_true rfl) d_Pa_switchStatement_182 rfl hcl hsl (Nat.zero_le _) (Nat.zero_le _) okx_16 (t_close_ok r_12 okx_16.2.1) rfl (fun ad_20 st_20 H locs w_20 ok_20 e1_20 e2_20 hP hD hS => ?_)
                      have hcl := cl_next hcl e1_20
                      have hsl := cl_next hsl e2_20
                      rw [bnd_r w_20] at hL_6
                      refine lv_iinc (v := (x4 + 1)) (lv' := [(4, .int (x4 + 1)), (0, .ref hp), (1, .int depth), (2, .int r_1), (3, .int 1), (5, .int (f_Cu_atWord st_9 5)), (6, .int r_12)]) hx hb d_Pa_switchStatement_185 hl (k := 4) rfl rfl (by decide) rfl (fun ls hl => ?_)
                      refine lv_goto (tgt := 70) hx hb d_Pa_switchStatement_188 (by decide) ?_
                      exact ih_6 1 (x4 + 1) ad_20 st_20 ok_20 _ _ ls _ _ hP hD hS (lv_sub hl [1, 2, 3, 4, 0] rfl) hcl hsl hL_6
                    · rw [if_pos c_19] at hL_16
                      refine lv_aload_n hx hb d_Pa_switchStatement_156 rfl (lv_at hl 0 rfl) ?_
                      refine lv_iload_n hx hb d_Pa_switchStatement_157 rfl (lv_at hl 1 rfl) ?_
                      refine lv_iconst (v := 1) hx hb d_Pa_switchStatement_158 (by decide) ?_
                      refine lv_iadd hx hb d_Pa_switchStatement_159 ?_
                      refine lv_aload_n hx hb d_Pa_switchStatement_160 rfl (lv_at hl 0 rfl) ?_
                      refine va_get (D := (dC, dI)) (ci := 2) (v := .ref hq) (C := R_Pa) (T := T_Pa) (N := 7) hx hb hts u_Pa hown hK hP 0 rfl rfl 1 (by decide) (hts _ L_209) (fun _ h9 => h9) rfl d_Pa_switchStatement_161 ?_
                      refine rd_V (v := (f_La_count (sLb sx_16))) (As := []) (rest := [.int (depth + 1), .ref hp]) ⟨hx, hb, hml, hown, hts0⟩ (m_La_count l dC dI cI cZ hq n1 n2 (sLb sx_16) okx_16.2.2.1 ) hP hK [12, 13, 14] rfl [0, 1] rfl 0 1 rfl rfl L_552 L_553 L_554 L_89 L_555 ⟨rfl, k_La_count⟩ ⟨(by show _ ≤ fr0 + 9; omega), (by show _ ≤ lo0 + 346; omega)⟩ hl.1 ⟨Nat.le_trans (Nat.le_add_right _ _) hcl, Nat.le_trans (Nat.le_add_right _ _) hsl⟩ (Nat.le_of_ble_eq_true rfl) d_Pa_switchStatement_164 rfl ?_
                      refine mx_Vv (As := [.int (depth + 1), .int (f_La_count (sLb sx_16))]) (rest := []) ⟨hx, hb, hml, hown, hts0⟩ (hRS hc ax_16 sx_16 okx_16 _ (depth + 1) (f_La_count (sLb sx_16)) (fun z => hn_16 (hL_16.trans (bnd_n z)))) hP hD hK hS hA hC hZ hnt hlocks L_560 L_562 L_10 L_87 L_563 k_Pa_statement ⟨(by show _ ≤ fr0 + 9; omega), (by show _ ≤ lo0 + 346; omega)⟩ rfl rfl hl.1 (Nat.le_of_ble_eq_true rfl) d_Pa_switchStatement_167 rfl (fun q z => hX_16 q (hL_16.trans (bnd_l z))) hcl hsl (fun ad_21 st_21 H locs w_21 ok_21 e1_21 e2_21 hP hD hS => ?_)
                      have hcl := cl_next hcl e1_21
                      have hsl := cl_next hsl e2_21
                      rw [bnd_r w_21] at hL_16
                      refine lv_iinc (v := (x7 + 1)) (lv' := [(7, .int (x7 + 1)), (0, .ref hp), (1, .int depth), (2, .int r_1), (3, .int 1), (4, .int x4), (5, .int (f_Cu_atWord st_9 5)), (6, .int r_12)]) hx hb d_Pa_switchStatement_170 hl (k := 7) rfl rfl (by decide) rfl (fun ls hl => ?_)
                      refine lv_goto (tgt := 141) hx hb d_Pa_switchStatement_173 (by decide) ?_
                      exact ih_16 (x7 + 1) ad_21 st_21 ok_21 _ _ ls _ _ hP hD hS (lv_sub hl [1, 2, 3, 4, 5, 6, 7, 0] rfl) hcl hsl hL_16
              exact lp_16 5000 0 ad_15 st_15 ok_15 _ _ ls _ _ hP hD hS (lv_sub hl [4, 5, 6, 1, 7, 3, 2, 0] rfl) hcl hsl hx_16.symm
            · rw [if_pos c_14] at hL_6
              refine lv_aload_n hx hb d_Pa_switchStatement_123 rfl (lv_at hl 3 rfl) ?_
              refine lv_iconst (v := (-1)) hx hb d_Pa_switchStatement_124 (by decide) ?_
              refine lv_iload_n hx hb d_Pa_switchStatement_125 rfl (lv_at hl 4 rfl) ?_
              refine lv_iconst (v := 1) hx hb d_Pa_switchStatement_126 (by decide) ?_
              refine lv_iadd hx hb d_Pa_switchStatement_127 ?_
              refine lv_iconst (v := 1) hx hb d_Pa_switchStatement_128 (by decide) ?_
              refine mx_Vv (As := [.int (-1), .int (depth + 1), .int 1]) (rest := []) ⟨hx, hb, hml, hown, hts0⟩ (hRE hc ad_12 st_12 ok_12 _ (-1) (depth + 1) 1 (fun z => hn_6 (hL_6.trans (bnd_n z)))) hP hD hK hS hA hC hZ hnt hlocks L_569 L_571 L_12 L_87 L_572 k_Pa_expression ⟨(by show _ ≤ fr0 + 9; omega), (by show _ ≤ lo0 + 346; omega)⟩ rfl rfl hl.1 (Nat.le_of_ble_eq_true rfl) d_Pa_switchStatement_129 rfl (fun q z => hX_6 q (hL_6.trans (bnd_l z))) hcl hsl (fun ad_22 st_22 H locs w_22 ok_22 e1_22 e2_22 hP hD hS => ?_)
              have hcl := cl_next hcl e1_22
              have hsl := cl_next hsl e2_22
              rw [bnd_r w_22] at hL_6
              refine lv_aload_n hx hb d_Pa_switchStatement_132 rfl (lv_at hl 3 rfl) ?_
              refine lv_bipush (v := 70) hx hb d_Pa_switchStatement_133 (by decide) ?_
              refine mx_Uv (xm := ⟨"SyntaxTree$Parser", "expect", "(I)V"⟩) (owner := R_Cu) (As := [.int 70]) (rest := []) ⟨hx, hb, hml, hown, hts0⟩ (m_Cu_expect l hlt dC dI cI cZ sa rk hp hc h a1 a2 a3 a4 ht hq n1 n2 ad_22 st_22 ok_22 _ 70 (fun z => hn_6 (hL_6.trans (bnd_n z)))) hP hD hK hS hA hC hZ hnt hlocks L_510 L_511 L_513 L_514 L_86 L_515 rfl k_Cu_expect ⟨(by show _ ≤ fr0 + 9; omega), (by show _ ≤ lo0 + 346; omega)⟩ rfl rfl hl.1 (Nat.le_of_ble_eq_true rfl) d_Pa_switchStatement_135 rfl (fun q z => hX_6 q (hL_6.trans (bnd_l z))) hcl hsl (fun ad_23 st_23 H locs w_23 ok_23 e1_23 e2_23 hP hD hS => ?_)
              have hcl := cl_next hcl e1_23
              have hsl := cl_next hsl e2_23
              rw [bnd_r w_23] at hL_6
              refine lv_iconst (v := 0) hx hb d_Pa_switchStatement_138 (by decide) ?_
              refine lv_istore (lv' := [(7, .int 0), (3, .int 1), (6, .int r_12), (5, .int (f_Cu_atWord st_9 5)), (0, .ref hp), (1, .int depth), (2, .int r_1), (4, .int x4)]) hx hb d_Pa_switchStatement_139 hl (by decide) rfl (fun ls hl => ?_)
              obtain ⟨x_24, hx_24⟩ : ∃ z, f_Pa_switchStatement_L141 E S F depth 5000 0 st_23 = z := ⟨_, rfl⟩
              have hn_24 : x_24 ≠ none := (fun z => hn_6 (hL_6.trans (bnd_n (hx_24.trans z))))
              have hX_24 : ∀ q, x_24 = some (.inl q) → (f_Pa_switchStatement E S F st depth) = some (.inl q) := (fun q z => hX_6 q (hL_6.trans (bnd_l (hx_24.trans z))))
              have lp_24 : ∀ (fu : Nat) (x7 : Int32) (ax_24 : AD) (sx_24 : ST) (okx_24 : okSt sx_24) (H : Heap) (locs : List Loc) (ls : Array Slot) (cells slots : Nat), va_P (dC, dI) cls (wQ cI cZ hp hc h a1 a2 a3 a4 ht hq n1 n2 (ax_24, sx_24)) H → va_D A (wQ cI cZ hp hc h a1 a2 a3 a4 ht hq n1 n2 (ax_24, sx_24)) → va_S A s.heap H locs → lv_has ls 8 [(0, .ref hp), (1, .int depth), (2, .int r_1), (3, .int 1), (4, .int x4), (5, .int (f_Cu_atWord st_9 5)), (6, .int r_12), (7, .int x7)] → cells + bC sx_24 ≤ bC st → slots + bS sx_24 ≤ bS st → x_24 = f_Pa_switchStatement_L141 E S F depth fu x7 sx_24 → W p l e (headSpec (wy y_Pa_switchStatement c_Pa_switchStatement 8 none) { frames := (fr0 + 9), cells := bC st, slots := bS st, locals := (lo0 + 346) }).room s m [.ref hp, .int depth].toArray below meth c H locs cells slots (vx_MQ below (va_Qv (poN (f_Pa_switchStatement E S F st depth) st 0) (wB (dC, dI) cI cZ A (wQ cI cZ hp hc h a1 a2 a3 a4 ht hq n1 n2)) A) (xP (dC, dI) cI cZ hp h a1 a2 a3 a4 ht hq n1 n2 (f_Pa_switchStatement E S F st depth) st A) [.ref hp, .int depth].toArray s (mcO st (f_Pa_switchStatement E S F st depth)) (msO st (f_Pa_switchStatement E S F st depth)) A) (F0 m 141 ls []) := by
                intro fu
                induction fu with
                | zero => intro x7 ax_24 sx_24 okx_24 H locs ls cells slots hP hD hS hl hcl hsl hL_24; exact absurd (hL_24.trans rfl) hn_24
                | succ fu_24 ih_24 =>
                  intro x7 ax_24 sx_24 okx_24 H locs ls cells slots hP hD hS hl hcl hsl hL_24
                  rw [f_Pa_switchStatement_L141] at hL_24
                  refine lv_iload hx hb d_Pa_switchStatement_141 (lv_at hl 7 rfl) ?_
                  refine lv_sipush (v := 1000) hx hb d_Pa_switchStatement_143 (by decide) ?_
                  refine lv_icmp_gt (tgt := 176) hx hb d_Pa_switchStatement_146 (by decide) (fun c_25 => ?_) (fun c_25 => ?_)
                  · rw [if_pos c_25] at hL_24
                    have we_24 : f_Pa_switchStatement_L141 E S F depth 5000 0 st_23 = some (.inr (0, sx_24)) := hx_24.trans hL_24
                    have hl := lv_sub hl (l' := [(0, .ref hp), (1, .int depth), (2, .int r_1), (3, .int 1), (4, .int x4), (5, .int (f_Cu_atWord st_9 5)), (6, .int r_12)]) [0, 1, 2, 3, 4, 5, 6] rfl
                    rw [bnd_r we_24] at hL_6
                    refine lv_aload_n hx hb d_Pa_switchStatement_176 rfl (lv_at hl 0 rfl) ?_
                    refine va_get (D := (dC, dI)) (ci := 2) (v := .ref ht) (C := R_Pa) (T := T_Pa) (N := 7) hx hb hts u_Pa hown hK hP 0 rfl rfl 0 (by decide) (hts _ L_208) (fun _ h9 => h9) rfl d_Pa_switchStatement_177 ?_
                    refine lv_iload hx hb d_Pa_switchStatement_180 (lv_at hl 6 rfl) ?_
                    refine pT_v (g := (p_close sx_24 r_12)) (st := sx_24) (As := [.int r_12]) (rest := []) ⟨hx, hb, hml, hown, hts0⟩ (m_Tr_close l dC dI cI cZ sa rk ht ax_24 (sTr sx_24) okx_24.2.1 _ r_12) hP hD hK hS hA hC hZ L_582 L_583 L_584 L_85 L_585 ⟨rfl, k_Tr_close⟩ ⟨(by show _ ≤ fr0 + 9; omega), (by show _ ≤ lo0 + 346; omega)⟩ rfl rfl hl.1 (Nat.le_of_ble_eq_true rfl) d_Pa_switchStatement_182 rfl hcl hsl (Nat.zero_le _) (Nat.zero_le _) okx_24 (t_close_ok r_12 okx_24.2.1) rfl (fun ad_26 st_26 H locs w_26 ok_26 e1_26 e2_26 hP hD hS => ?_)
                    have hcl := cl_next hcl e1_26
                    have hsl := cl_next hsl e2_26
                    rw [bnd_r w_26] at hL_6
                    refine lv_iinc (v := (x4 + 1)) (lv' := [(4, .int (x4 + 1)), (0, .ref hp), (1, .int depth), (2, .int r_1), (3, .int 1), (5, .int (f_Cu_atWord st_9 5)), (6, .int r_12)]) hx hb d_Pa_switchStatement_185 hl (k := 4) rfl rfl (by decide) rfl (fun ls hl => ?_)
                    refine lv_goto (tgt := 70) hx hb d_Pa_switchStatement_188 (by decide) ?_
                    exact ih_6 1 (x4 + 1) ad_26 st_26 ok_26 _ _ ls _ _ hP hD hS (lv_sub hl [1, 2, 3, 4, 0] rfl) hcl hsl hL_6
                  · rw [if_neg c_25] at hL_24
                    refine lv_aload_n hx hb d_Pa_switchStatement_149 rfl (lv_at hl 0 rfl) ?_
                    refine rd_V (v := (f_Pa_atClauseEnd sx_24)) (As := []) (rest := []) ⟨hx, hb, hml, hown, hts0⟩ (m_Pa_atClauseEnd l dC dI cI cZ hp hc h a1 a2 a3 a4 ht ax_24.1 ax_24.2.1 ax_24.2.2.1 ax_24.2.2.2 hq n1 n2 sx_24 okx_24 ) hP hK [0, 1, 2, 3, 4, 5, 6, 7, 8, 9, 10, 11, 12, 13, 14] rfl [0, 1] rfl 0 2 rfl rfl L_803 L_805 L_46 L_87 L_806 ⟨rfl, k_Pa_atClauseEnd⟩ ⟨(by show _ ≤ fr0 + 9; omega), (by show _ ≤ lo0 + 346; omega)⟩ hl.1 ⟨Nat.le_trans (Nat.le_add_right _ _) hcl, Nat.le_trans (Nat.le_add_right _ _) hsl⟩ (Nat.le_of_ble_eq_true rfl) d_Pa_switchStatement_150 rfl ?_
                    refine lv_if_ne (tgt := 176) hx hb d_Pa_switchStatement_153 (by decide) (fun c_27 => ?_) (fun c_27 => ?_)
                    · rw [if_neg c_27] at hL_24
                      have we_24 : f_Pa_switchStatement_L141 E S F depth 5000 0 st_23 = some (.inr (0, sx_24)) := hx_24.trans hL_24
                      have hl := lv_sub hl (l' := [(0, .ref hp), (1, .int depth), (2, .int r_1), (3, .int 1), (4, .int x4), (5, .int (f_Cu_atWord st_9 5)), (6, .int r_12)]) [0, 1, 2, 3, 4, 5, 6] rfl
                      rw [bnd_r we_24] at hL_6
                      refine lv_aload_n hx hb d_Pa_switchStatement_176 rfl (lv_at hl 0 rfl) ?_
                      refine va_get (D := (dC, dI)) (ci := 2) (v := .ref ht) (C := R_Pa) (T := T_Pa) (N := 7) hx hb hts u_Pa hown hK hP 0 rfl rfl 0 (by decide) (hts _ L_208) (fun _ h9 => h9) rfl d_Pa_switchStatement_177 ?_
                      refine lv_iload hx hb d_Pa_switchStatement_180 (lv_at hl 6 rfl) ?_
                      refine pT_v (g := (p_close sx_24 r_12)) (st := sx_24) (As := [.int r_12]) (rest := []) ⟨hx, hb, hml, hown, hts0⟩ (m_Tr_close l dC dI cI cZ sa rk ht ax_24 (sTr sx_24) okx_24.2.1 _ r_12) hP hD hK hS hA hC hZ L_582 L_583 L_584 L_85 L_585 ⟨rfl, k_Tr_close⟩ ⟨(by show _ ≤ fr0 + 9; omega), (by show _ ≤ lo0 + 346; omega)⟩ rfl rfl hl.1 (Nat.le_of_ble_eq_true rfl) d_Pa_switchStatement_182 rfl hcl hsl (Nat.zero_le _) (Nat.zero_le _) okx_24 (t_close_ok r_12 okx_24.2.1) rfl (fun ad_28 st_28 H locs w_28 ok_28 e1_28 e2_28 hP hD hS => ?_)
                      have hcl := cl_next hcl e1_28
                      have hsl := cl_next hsl e2_28
                      rw [bnd_r w_28] at hL_6
                      refine lv_iinc (v := (x4 + 1)) (lv' := [(4, .int (x4 + 1)), (0, .ref hp), (1, .int depth), (2, .int r_1), (3, .int 1), (5, .int (f_Cu_atWord st_9 5)), (6, .int r_12)]) hx hb d_Pa_switchStatement_185 hl (k := 4) rfl rfl (by decide) rfl (fun ls hl => ?_)
                      refine lv_goto (tgt := 70) hx hb d_Pa_switchStatement_188 (by decide) ?_
                      exact ih_6 1 (x4 + 1) ad_28 st_28 ok_28 _ _ ls _ _ hP hD hS (lv_sub hl [1, 2, 3, 4, 0] rfl) hcl hsl hL_6
                    · rw [if_pos c_27] at hL_24
                      refine lv_aload_n hx hb d_Pa_switchStatement_156 rfl (lv_at hl 0 rfl) ?_
                      refine lv_iload_n hx hb d_Pa_switchStatement_157 rfl (lv_at hl 1 rfl) ?_
                      refine lv_iconst (v := 1) hx hb d_Pa_switchStatement_158 (by decide) ?_
                      refine lv_iadd hx hb d_Pa_switchStatement_159 ?_
                      refine lv_aload_n hx hb d_Pa_switchStatement_160 rfl (lv_at hl 0 rfl) ?_
                      refine va_get (D := (dC, dI)) (ci := 2) (v := .ref hq) (C := R_Pa) (T := T_Pa) (N := 7) hx hb hts u_Pa hown hK hP 0 rfl rfl 1 (by decide) (hts _ L_209) (fun _ h9 => h9) rfl d_Pa_switchStatement_161 ?_
                      refine rd_V (v := (f_La_count (sLb sx_24))) (As := []) (rest := [.int (depth + 1), .ref hp]) ⟨hx, hb, hml, hown, hts0⟩ (m_La_count l dC dI cI cZ hq n1 n2 (sLb sx_24) okx_24.2.2.1 ) hP hK [12, 13, 14] rfl [0, 1] rfl 0 1 rfl rfl L_552 L_553 L_554 L_89 L_555 ⟨rfl, k_La_count⟩ ⟨(by show _ ≤ fr0 + 9; omega), (by show _ ≤ lo0 + 346; omega)⟩ hl.1 ⟨Nat.le_trans (Nat.le_add_right _ _) hcl, Nat.le_trans (Nat.le_add_right _ _) hsl⟩ (Nat.le_of_ble_eq_true rfl) d_Pa_switchStatement_164 rfl ?_
                      refine mx_Vv (As := [.int (depth + 1), .int (f_La_count (sLb sx_24))]) (rest := []) ⟨hx, hb, hml, hown, hts0⟩ (hRS hc ax_24 sx_24 okx_24 _ (depth + 1) (f_La_count (sLb sx_24)) (fun z => hn_24 (hL_24.trans (bnd_n z)))) hP hD hK hS hA hC hZ hnt hlocks L_560 L_562 L_10 L_87 L_563 k_Pa_statement ⟨(by show _ ≤ fr0 + 9; omega), (by show _ ≤ lo0 + 346; omega)⟩ rfl rfl hl.1 (Nat.le_of_ble_eq_true rfl) d_Pa_switchStatement_167 rfl (fun q z => hX_24 q (hL_24.trans (bnd_l z))) hcl hsl (fun ad_29 st_29 H locs w_29 ok_29 e1_29 e2_29 hP hD hS => ?_)
                      have hcl := cl_next hcl e1_29
                      have hsl := cl_next hsl e2_29
                      rw [bnd_r w_29] at hL_24
                      refine lv_iinc (v := (x7 + 1)) (lv' := [(7, .int (x7 + 1)), (0, .ref hp), (1, .int depth), (2, .int r_1), (3, .int 1), (4, .int x4), (5, .int (f_Cu_atWord st_9 5)), (6, .int r_12)]) hx hb d_Pa_switchStatement_170 hl (k := 7) rfl rfl (by decide) rfl (fun ls hl => ?_)
                      refine lv_goto (tgt := 141) hx hb d_Pa_switchStatement_173 (by decide) ?_
                      exact ih_24 (x7 + 1) ad_29 st_29 ok_29 _ _ ls _ _ hP hD hS (lv_sub hl [1, 2, 3, 4, 5, 6, 7, 0] rfl) hcl hsl hL_24
              exact lp_24 5000 0 ad_23 st_23 ok_23 _ _ ls _ _ hP hD hS (lv_sub hl [4, 5, 6, 1, 7, 3, 2, 0] rfl) hcl hsl hx_24.symm
          · rw [if_pos c_13] at hL_6
            refine lv_iload hx hb d_Pa_switchStatement_107 (lv_at hl 1 rfl) ?_
            refine lv_if_eq (tgt := 116) hx hb d_Pa_switchStatement_109 (by decide) (fun c_30 => ?_) (fun c_30 => ?_)
            · rw [if_pos c_30] at hL_6
              refine lv_iconst (v := 0) hx hb d_Pa_switchStatement_116 (by decide) ?_
              refine lv_istore_n (lv' := [(3, .int 0), (6, .int r_12), (5, .int (f_Cu_atWord st_9 5)), (0, .ref hp), (1, .int depth), (2, .int r_1), (4, .int x4)]) hx hb d_Pa_switchStatement_117 rfl hl (by decide) rfl (fun ls hl => ?_)
              refine lv_iload hx hb d_Pa_switchStatement_118 (lv_at hl 2 rfl) ?_
              refine lv_if_ne (tgt := 132) hx hb d_Pa_switchStatement_120 (by decide) (fun q9 => absurd c_30 q9) (fun _ => ?_)
              refine lv_aload_n hx hb d_Pa_switchStatement_123 rfl (lv_at hl 3 rfl) ?_
              refine lv_iconst (v := (-1)) hx hb d_Pa_switchStatement_124 (by decide) ?_
              refine lv_iload_n hx hb d_Pa_switchStatement_125 rfl (lv_at hl 4 rfl) ?_
              refine lv_iconst (v := 1) hx hb d_Pa_switchStatement_126 (by decide) ?_
              refine lv_iadd hx hb d_Pa_switchStatement_127 ?_
              refine lv_iconst (v := 1) hx hb d_Pa_switchStatement_128 (by decide) ?_
              refine mx_Vv (As := [.int (-1), .int (depth + 1), .int 1]) (rest := []) ⟨hx, hb, hml, hown, hts0⟩ (hRE hc ad_12 st_12 ok_12 _ (-1) (depth + 1) 1 (fun z => hn_6 (hL_6.trans (bnd_n z)))) hP hD hK hS hA hC hZ hnt hlocks L_569 L_571 L_12 L_87 L_572 k_Pa_expression ⟨(by show _ ≤ fr0 + 9; omega), (by show _ ≤ lo0 + 346; omega)⟩ rfl rfl hl.1 (Nat.le_of_ble_eq_true rfl) d_Pa_switchStatement_129 rfl (fun q z => hX_6 q (hL_6.trans (bnd_l z))) hcl hsl (fun ad_31 st_31 H locs w_31 ok_31 e1_31 e2_31 hP hD hS => ?_)
              have hcl := cl_next hcl e1_31
              have hsl := cl_next hsl e2_31
              rw [bnd_r w_31] at hL_6
              refine lv_aload_n hx hb d_Pa_switchStatement_132 rfl (lv_at hl 3 rfl) ?_
              refine lv_bipush (v := 70) hx hb d_Pa_switchStatement_133 (by decide) ?_
              refine mx_Uv (xm := ⟨"SyntaxTree$Parser", "expect", "(I)V"⟩) (owner := R_Cu) (As := [.int 70]) (rest := []) ⟨hx, hb, hml, hown, hts0⟩ (m_Cu_expect l hlt dC dI cI cZ sa rk hp hc h a1 a2 a3 a4 ht hq n1 n2 ad_31 st_31 ok_31 _ 70 (fun z => hn_6 (hL_6.trans (bnd_n z)))) hP hD hK hS hA hC hZ hnt hlocks L_510 L_511 L_513 L_514 L_86 L_515 rfl k_Cu_expect ⟨(by show _ ≤ fr0 + 9; omega), (by show _ ≤ lo0 + 346; omega)⟩ rfl rfl hl.1 (Nat.le_of_ble_eq_true rfl) d_Pa_switchStatement_135 rfl (fun q z => hX_6 q (hL_6.trans (bnd_l z))) hcl hsl (fun ad_32 st_32 H locs w_32 ok_32 e1_32 e2_32 hP hD hS => ?_)
              have hcl := cl_next hcl e1_32
              have hsl := cl_next hsl e2_32
              rw [bnd_r w_32] at hL_6
              refine lv_iconst (v := 0) hx hb d_Pa_switchStatement_138 (by decide) ?_
              refine lv_istore (lv' := [(7, .int 0), (3, .int 0), (6, .int r_12), (5, .int (f_Cu_atWord st_9 5)), (0, .ref hp), (1, .int depth), (2, .int r_1), (4, .int x4)]) hx hb d_Pa_switchStatement_139 hl (by decide) rfl (fun ls hl => ?_)
              obtain ⟨x_33, hx_33⟩ : ∃ z, f_Pa_switchStatement_L141 E S F depth 5000 0 st_32 = z := ⟨_, rfl⟩
              have hn_33 : x_33 ≠ none := (fun z => hn_6 (hL_6.trans (bnd_n (hx_33.trans z))))
              have hX_33 : ∀ q, x_33 = some (.inl q) → (f_Pa_switchStatement E S F st depth) = some (.inl q) := (fun q z => hX_6 q (hL_6.trans (bnd_l (hx_33.trans z))))
              have lp_33 : ∀ (fu : Nat) (x7 : Int32) (ax_33 : AD) (sx_33 : ST) (okx_33 : okSt sx_33) (H : Heap) (locs : List Loc) (ls : Array Slot) (cells slots : Nat), va_P (dC, dI) cls (wQ cI cZ hp hc h a1 a2 a3 a4 ht hq n1 n2 (ax_33, sx_33)) H → va_D A (wQ cI cZ hp hc h a1 a2 a3 a4 ht hq n1 n2 (ax_33, sx_33)) → va_S A s.heap H locs → lv_has ls 8 [(0, .ref hp), (1, .int depth), (2, .int r_1), (3, .int 0), (4, .int x4), (5, .int (f_Cu_atWord st_9 5)), (6, .int r_12), (7, .int x7)] → cells + bC sx_33 ≤ bC st → slots + bS sx_33 ≤ bS st → x_33 = f_Pa_switchStatement_L141 E S F depth fu x7 sx_33 → W p l e (headSpec (wy y_Pa_switchStatement c_Pa_switchStatement 8 none) { frames := (fr0 + 9), cells := bC st, slots := bS st, locals := (lo0 + 346) }).room s m [.ref hp, .int depth].toArray below meth c H locs cells slots (vx_MQ below (va_Qv (poN (f_Pa_switchStatement E S F st depth) st 0) (wB (dC, dI) cI cZ A (wQ cI cZ hp hc h a1 a2 a3 a4 ht hq n1 n2)) A) (xP (dC, dI) cI cZ hp h a1 a2 a3 a4 ht hq n1 n2 (f_Pa_switchStatement E S F st depth) st A) [.ref hp, .int depth].toArray s (mcO st (f_Pa_switchStatement E S F st depth)) (msO st (f_Pa_switchStatement E S F st depth)) A) (F0 m 141 ls []) := by
                intro fu
                induction fu with
                | zero => intro x7 ax_33 sx_33 okx_33 H locs ls cells slots hP hD hS hl hcl hsl hL_33; exact absurd (hL_33.trans rfl) hn_33
                | succ fu_33 ih_33 =>
                  intro x7 ax_33 sx_33 okx_33 H locs ls cells slots hP hD hS hl hcl hsl hL_33
                  rw [f_Pa_switchStatement_L141] at hL_33
                  refine lv_iload hx hb d_Pa_switchStatement_141 (lv_at hl 7 rfl) ?_
                  refine lv_sipush (v := 1000) hx hb d_Pa_switchStatement_143 (by decide) ?_
                  refine lv_icmp_gt (tgt := 176) hx hb d_Pa_switchStatement_146 (by decide) (fun c_34 => ?_) (fun c_34 => ?_)
                  · rw [if_pos c_34] at hL_33
                    have we_33 : f_Pa_switchStatement_L141 E S F depth 5000 0 st_32 = some (.inr (0, sx_33)) := hx_33.trans hL_33
                    have hl := lv_sub hl (l' := [(0, .ref hp), (1, .int depth), (2, .int r_1), (3, .int 0), (4, .int x4), (5, .int (f_Cu_atWord st_9 5)), (6, .int r_12)]) [0, 1, 2, 3, 4, 5, 6] rfl
                    rw [bnd_r we_33] at hL_6
                    refine lv_aload_n hx hb d_Pa_switchStatement_176 rfl (lv_at hl 0 rfl) ?_
                    refine va_get (D := (dC, dI)) (ci := 2) (v := .ref ht) (C := R_Pa) (T := T_Pa) (N := 7) hx hb hts u_Pa hown hK hP 0 rfl rfl 0 (by decide) (hts _ L_208) (fun _ h9 => h9) rfl d_Pa_switchStatement_177 ?_
                    refine lv_iload hx hb d_Pa_switchStatement_180 (lv_at hl 6 rfl) ?_
                    refine pT_v (g := (p_close sx_33 r_12)) (st := sx_33) (As := [.int r_12]) (rest := []) ⟨hx, hb, hml, hown, hts0⟩ (m_Tr_close l dC dI cI cZ sa rk ht ax_33 (sTr sx_33) okx_33.2.1 _ r_12) hP hD hK hS hA hC hZ L_582 L_583 L_584 L_85 L_585 ⟨rfl, k_Tr_close⟩ ⟨(by show _ ≤ fr0 + 9; omega), (by show _ ≤ lo0 + 346; omega)⟩ rfl rfl hl.1 (Nat.le_of_ble_eq_true rfl) d_Pa_switchStatement_182 rfl hcl hsl (Nat.zero_le _) (Nat.zero_le _) okx_33 (t_close_ok r_12 okx_33.2.1) rfl (fun ad_35 st_35 H locs w_35 ok_35 e1_35 e2_35 hP hD hS => ?_)
                    have hcl := cl_next hcl e1_35
                    have hsl := cl_next hsl e2_35
                    rw [bnd_r w_35] at hL_6
                    refine lv_iinc (v := (x4 + 1)) (lv' := [(4, .int (x4 + 1)), (0, .ref hp), (1, .int depth), (2, .int r_1), (3, .int 0), (5, .int (f_Cu_atWord st_9 5)), (6, .int r_12)]) hx hb d_Pa_switchStatement_185 hl (k := 4) rfl rfl (by decide) rfl (fun ls hl => ?_)
                    refine lv_goto (tgt := 70) hx hb d_Pa_switchStatement_188 (by decide) ?_
                    exact ih_6 0 (x4 + 1) ad_35 st_35 ok_35 _ _ ls _ _ hP hD hS (lv_sub hl [1, 2, 3, 4, 0] rfl) hcl hsl hL_6
                  · rw [if_neg c_34] at hL_33
                    refine lv_aload_n hx hb d_Pa_switchStatement_149 rfl (lv_at hl 0 rfl) ?_
                    refine rd_V (v := (f_Pa_atClauseEnd sx_33)) (As := []) (rest := []) ⟨hx, hb, hml, hown, hts0⟩ (m_Pa_atClauseEnd l dC dI cI cZ hp hc h a1 a2 a3 a4 ht ax_33.1 ax_33.2.1 ax_33.2.2.1 ax_33.2.2.2 hq n1 n2 sx_33 okx_33 ) hP hK [0, 1, 2, 3, 4, 5, 6, 7, 8, 9, 10, 11, 12, 13, 14] rfl [0, 1] rfl 0 2 rfl rfl L_803 L_805 L_46 L_87 L_806 ⟨rfl, k_Pa_atClauseEnd⟩ ⟨(by show _ ≤ fr0 + 9; omega), (by show _ ≤ lo0 + 346; omega)⟩ hl.1 ⟨Nat.le_trans (Nat.le_add_right _ _) hcl, Nat.le_trans (Nat.le_add_right _ _) hsl⟩ (Nat.le_of_ble_eq_true rfl) d_Pa_switchStatement_150 rfl ?_
                    refine lv_if_ne (tgt := 176) hx hb d_Pa_switchStatement_153 (by decide) (fun c_36 => ?_) (fun c_36 => ?_)
                    · rw [if_neg c_36] at hL_33
                      have we_33 : f_Pa_switchStatement_L141 E S F depth 5000 0 st_32 = some (.inr (0, sx_33)) := hx_33.trans hL_33
                      have hl := lv_sub hl (l' := [(0, .ref hp), (1, .int depth), (2, .int r_1), (3, .int 0), (4, .int x4), (5, .int (f_Cu_atWord st_9 5)), (6, .int r_12)]) [0, 1, 2, 3, 4, 5, 6] rfl
                      rw [bnd_r we_33] at hL_6
                      refine lv_aload_n hx hb d_Pa_switchStatement_176 rfl (lv_at hl 0 rfl) ?_
                      refine va_get (D := (dC, dI)) (ci := 2) (v := .ref ht) (C := R_Pa) (T := T_Pa) (N := 7) hx hb hts u_Pa hown hK hP 0 rfl rfl 0 (by decide) (hts _ L_208) (fun _ h9 => h9) rfl d_Pa_switchStatement_177 ?_
                      refine lv_iload hx hb d_Pa_switchStatement_180 (lv_at hl 6 rfl) ?_
                      refine pT_v (g := (p_close sx_33 r_12)) (st := sx_33) (As := [.int r_12]) (rest := []) ⟨hx, hb, hml, hown, hts0⟩ (m_Tr_close l dC dI cI cZ sa rk ht ax_33 (sTr sx_33) okx_33.2.1 _ r_12) hP hD hK hS hA hC hZ L_582 L_583 L_584 L_85 L_585 ⟨rfl, k_Tr_close⟩ ⟨(by show _ ≤ fr0 + 9; omega), (by show _ ≤ lo0 + 346; omega)⟩ rfl rfl hl.1 (Nat.le_of_ble_eq_true rfl) d_Pa_switchStatement_182 rfl hcl hsl (Nat.zero_le _) (Nat.zero_le _) okx_33 (t_close_ok r_12 okx_33.2.1) rfl (fun ad_37 st_37 H locs w_37 ok_37 e1_37 e2_37 hP hD hS => ?_)
                      have hcl := cl_next hcl e1_37
                      have hsl := cl_next hsl e2_37
                      rw [bnd_r w_37] at hL_6
                      refine lv_iinc (v := (x4 + 1)) (lv' := [(4, .int (x4 + 1)), (0, .ref hp), (1, .int depth), (2, .int r_1), (3, .int 0), (5, .int (f_Cu_atWord st_9 5)), (6, .int r_12)]) hx hb d_Pa_switchStatement_185 hl (k := 4) rfl rfl (by decide) rfl (fun ls hl => ?_)
                      refine lv_goto (tgt := 70) hx hb d_Pa_switchStatement_188 (by decide) ?_
                      exact ih_6 0 (x4 + 1) ad_37 st_37 ok_37 _ _ ls _ _ hP hD hS (lv_sub hl [1, 2, 3, 4, 0] rfl) hcl hsl hL_6
                    · rw [if_pos c_36] at hL_33
                      refine lv_aload_n hx hb d_Pa_switchStatement_156 rfl (lv_at hl 0 rfl) ?_
                      refine lv_iload_n hx hb d_Pa_switchStatement_157 rfl (lv_at hl 1 rfl) ?_
                      refine lv_iconst (v := 1) hx hb d_Pa_switchStatement_158 (by decide) ?_
                      refine lv_iadd hx hb d_Pa_switchStatement_159 ?_
                      refine lv_aload_n hx hb d_Pa_switchStatement_160 rfl (lv_at hl 0 rfl) ?_
                      refine va_get (D := (dC, dI)) (ci := 2) (v := .ref hq) (C := R_Pa) (T := T_Pa) (N := 7) hx hb hts u_Pa hown hK hP 0 rfl rfl 1 (by decide) (hts _ L_209) (fun _ h9 => h9) rfl d_Pa_switchStatement_161 ?_
                      refine rd_V (v := (f_La_count (sLb sx_33))) (As := []) (rest := [.int (depth + 1), .ref hp]) ⟨hx, hb, hml, hown, hts0⟩ (m_La_count l dC dI cI cZ hq n1 n2 (sLb sx_33) okx_33.2.2.1 ) hP hK [12, 13, 14] rfl [0, 1] rfl 0 1 rfl rfl L_552 L_553 L_554 L_89 L_555 ⟨rfl, k_La_count⟩ ⟨(by show _ ≤ fr0 + 9; omega), (by show _ ≤ lo0 + 346; omega)⟩ hl.1 ⟨Nat.le_trans (Nat.le_add_right _ _) hcl, Nat.le_trans (Nat.le_add_right _ _) hsl⟩ (Nat.le_of_ble_eq_true rfl) d_Pa_switchStatement_164 rfl ?_
                      refine mx_Vv (As := [.int (depth + 1), .int (f_La_count (sLb sx_33))]) (rest := []) ⟨hx, hb, hml, hown, hts0⟩ (hRS hc ax_33 sx_33 okx_33 _ (depth + 1) (f_La_count (sLb sx_33)) (fun z => hn_33 (hL_33.trans (bnd_n z)))) hP hD hK hS hA hC hZ hnt hlocks L_560 L_562 L_10 L_87 L_563 k_Pa_statement ⟨(by show _ ≤ fr0 + 9; omega), (by show _ ≤ lo0 + 346; omega)⟩ rfl rfl hl.1 (Nat.le_of_ble_eq_true rfl) d_Pa_switchStatement_167 rfl (fun q z => hX_33 q (hL_33.trans (bnd_l z))) hcl hsl (fun ad_38 st_38 H locs w_38 ok_38 e1_38 e2_38 hP hD hS => ?_)
                      have hcl := cl_next hcl e1_38
                      have hsl := cl_next hsl e2_38
                      rw [bnd_r w_38] at hL_33
                      refine lv_iinc (v := (x7 + 1)) (lv' := [(7, .int (x7 + 1)), (0, .ref hp), (1, .int depth), (2, .int r_1), (3, .int 0), (4, .int x4), (5, .int (f_Cu_atWord st_9 5)), (6, .int r_12)]) hx hb d_Pa_switchStatement_170 hl (k := 7) rfl rfl (by decide) rfl (fun ls hl => ?_)
                      refine lv_goto (tgt := 141) hx hb d_Pa_switchStatement_173 (by decide) ?_
                      exact ih_33 (x7 + 1) ad_38 st_38 ok_38 _ _ ls _ _ hP hD hS (lv_sub hl [1, 2, 3, 4, 5, 6, 7, 0] rfl) hcl hsl hL_33
              exact lp_33 5000 0 ad_32 st_32 ok_32 _ _ ls _ _ hP hD hS (lv_sub hl [4, 5, 6, 1, 7, 3, 2, 0] rfl) hcl hsl hx_33.symm
            · rw [if_neg c_30] at hL_6
              refine lv_iconst (v := 1) hx hb d_Pa_switchStatement_112 (by decide) ?_
              refine lv_goto (tgt := 117) hx hb d_Pa_switchStatement_113 (by decide) ?_
              refine lv_istore_n (lv' := [(3, .int 1), (6, .int r_12), (5, .int (f_Cu_atWord st_9 5)), (0, .ref hp), (1, .int depth), (2, .int r_1), (4, .int x4)]) hx hb d_Pa_switchStatement_117 rfl hl (by decide) rfl (fun ls hl => ?_)
              refine lv_iload hx hb d_Pa_switchStatement_118 (lv_at hl 2 rfl) ?_
              refine lv_if_ne (tgt := 132) hx hb d_Pa_switchStatement_120 (by decide) (fun _ => ?_) (fun q9 => absurd q9 c_30)
              refine lv_aload_n hx hb d_Pa_switchStatement_132 rfl (lv_at hl 3 rfl) ?_
              refine lv_bipush (v := 70) hx hb d_Pa_switchStatement_133 (by decide) ?_
              refine mx_Uv (xm := ⟨"SyntaxTree$Parser", "expect", "(I)V"⟩) (owner := R_Cu) (As := [.int 70]) (rest := []) ⟨hx, hb, hml, hown, hts0⟩ (m_Cu_expect l hlt dC dI cI cZ sa rk hp hc h a1 a2 a3 a4 ht hq n1 n2 ad_12 st_12 ok_12 _ 70 (fun z => hn_6 (hL_6.trans (bnd_n z)))) hP hD hK hS hA hC hZ hnt hlocks L_510 L_511 L_513 L_514 L_86 L_515 rfl k_Cu_expect ⟨(by show _ ≤ fr0 + 9; omega), (by show _ ≤ lo0 + 346; omega)⟩ rfl rfl hl.1 (Nat.le_of_ble_eq_true rfl) d_Pa_switchStatement_135 rfl (fun q z => hX_6 q (hL_6.trans (bnd_l z))) hcl hsl (fun ad_39 st_39 H locs w_39 ok_39 e1_39 e2_39 hP hD hS => ?_)
              have hcl := cl_next hcl e1_39
              have hsl := cl_next hsl e2_39
              rw [bnd_r w_39] at hL_6
              refine lv_iconst (v := 0) hx hb d_Pa_switchStatement_138 (by decide) ?_
              refine lv_istore (lv' := [(7, .int 0), (3, .int 1), (6, .int r_12), (5, .int (f_Cu_atWord st_9 5)), (0, .ref hp), (1, .int depth), (2, .int r_1), (4, .int x4)]) hx hb d_Pa_switchStatement_139 hl (by decide) rfl (fun ls hl => ?_)
              obtain ⟨x_40, hx_40⟩ : ∃ z, f_Pa_switchStatement_L141 E S F depth 5000 0 st_39 = z := ⟨_, rfl⟩
              have hn_40 : x_40 ≠ none := (fun z => hn_6 (hL_6.trans (bnd_n (hx_40.trans z))))
              have hX_40 : ∀ q, x_40 = some (.inl q) → (f_Pa_switchStatement E S F st depth) = some (.inl q) := (fun q z => hX_6 q (hL_6.trans (bnd_l (hx_40.trans z))))
              have lp_40 : ∀ (fu : Nat) (x7 : Int32) (ax_40 : AD) (sx_40 : ST) (okx_40 : okSt sx_40) (H : Heap) (locs : List Loc) (ls : Array Slot) (cells slots : Nat), va_P (dC, dI) cls (wQ cI cZ hp hc h a1 a2 a3 a4 ht hq n1 n2 (ax_40, sx_40)) H → va_D A (wQ cI cZ hp hc h a1 a2 a3 a4 ht hq n1 n2 (ax_40, sx_40)) → va_S A s.heap H locs → lv_has ls 8 [(0, .ref hp), (1, .int depth), (2, .int r_1), (3, .int 1), (4, .int x4), (5, .int (f_Cu_atWord st_9 5)), (6, .int r_12), (7, .int x7)] → cells + bC sx_40 ≤ bC st → slots + bS sx_40 ≤ bS st → x_40 = f_Pa_switchStatement_L141 E S F depth fu x7 sx_40 → W p l e (headSpec (wy y_Pa_switchStatement c_Pa_switchStatement 8 none) { frames := (fr0 + 9), cells := bC st, slots := bS st, locals := (lo0 + 346) }).room s m [.ref hp, .int depth].toArray below meth c H locs cells slots (vx_MQ below (va_Qv (poN (f_Pa_switchStatement E S F st depth) st 0) (wB (dC, dI) cI cZ A (wQ cI cZ hp hc h a1 a2 a3 a4 ht hq n1 n2)) A) (xP (dC, dI) cI cZ hp h a1 a2 a3 a4 ht hq n1 n2 (f_Pa_switchStatement E S F st depth) st A) [.ref hp, .int depth].toArray s (mcO st (f_Pa_switchStatement E S F st depth)) (msO st (f_Pa_switchStatement E S F st depth)) A) (F0 m 141 ls []) := by
                intro fu
                induction fu with
                | zero => intro x7 ax_40 sx_40 okx_40 H locs ls cells slots hP hD hS hl hcl hsl hL_40; exact absurd (hL_40.trans rfl) hn_40
                | succ fu_40 ih_40 =>
                  intro x7 ax_40 sx_40 okx_40 H locs ls cells slots hP hD hS hl hcl hsl hL_40
                  rw [f_Pa_switchStatement_L141] at hL_40
                  refine lv_iload hx hb d_Pa_switchStatement_141 (lv_at hl 7 rfl) ?_
                  refine lv_sipush (v := 1000) hx hb d_Pa_switchStatement_143 (by decide) ?_
                  refine lv_icmp_gt (tgt := 176) hx hb d_Pa_switchStatement_146 (by decide) (fun c_41 => ?_) (fun c_41 => ?_)
                  · rw [if_pos c_41] at hL_40
                    have we_40 : f_Pa_switchStatement_L141 E S F depth 5000 0 st_39 = some (.inr (0, sx_40)) := hx_40.trans hL_40
                    have hl := lv_sub hl (l' := [(0, .ref hp), (1, .int depth), (2, .int r_1), (3, .int 1), (4, .int x4), (5, .int (f_Cu_atWord st_9 5)), (6, .int r_12)]) [0, 1, 2, 3, 4, 5, 6] rfl
                    rw [bnd_r we_40] at hL_6
                    refine lv_aload_n hx hb d_Pa_switchStatement_176 rfl (lv_at hl 0 rfl) ?_
                    refine va_get (D := (dC, dI)) (ci := 2) (v := .ref ht) (C := R_Pa) (T := T_Pa) (N := 7) hx hb hts u_Pa hown hK hP 0 rfl rfl 0 (by decide) (hts _ L_208) (fun _ h9 => h9) rfl d_Pa_switchStatement_177 ?_
                    refine lv_iload hx hb d_Pa_switchStatement_180 (lv_at hl 6 rfl) ?_
                    refine pT_v (g := (p_close sx_40 r_12)) (st := sx_40) (As := [.int r_12]) (rest := []) ⟨hx, hb, hml, hown, hts0⟩ (m_Tr_close l dC dI cI cZ sa rk ht ax_40 (sTr sx_40) okx_40.2.1 _ r_12) hP hD hK hS hA hC hZ L_582 L_583 L_584 L_85 L_585 ⟨rfl, k_Tr_close⟩ ⟨(by show _ ≤ fr0 + 9; omega), (by show _ ≤ lo0 + 346; omega)⟩ rfl rfl hl.1 (Nat.le_of_ble_eq_true rfl) d_Pa_switchStatement_182 rfl hcl hsl (Nat.zero_le _) (Nat.zero_le _) okx_40 (t_close_ok r_12 okx_40.2.1) rfl (fun ad_42 st_42 H locs w_42 ok_42 e1_42 e2_42 hP hD hS => ?_)
                    have hcl := cl_next hcl e1_42
                    have hsl := cl_next hsl e2_42
                    rw [bnd_r w_42] at hL_6
                    refine lv_iinc (v := (x4 + 1)) (lv' := [(4, .int (x4 + 1)), (0, .ref hp), (1, .int depth), (2, .int r_1), (3, .int 1), (5, .int (f_Cu_atWord st_9 5)), (6, .int r_12)]) hx hb d_Pa_switchStatement_185 hl (k := 4) rfl rfl (by decide) rfl (fun ls hl => ?_)
                    refine lv_goto (tgt := 70) hx hb d_Pa_switchStatement_188 (by decide) ?_
                    exact ih_6 1 (x4 + 1) ad_42 st_42 ok_42 _ _ ls _ _ hP hD hS (lv_sub hl [1, 2, 3, 4, 0] rfl) hcl hsl hL_6
                  · rw [if_neg c_41] at hL_40
                    refine lv_aload_n hx hb d_Pa_switchStatement_149 rfl (lv_at hl 0 rfl) ?_
                    refine rd_V (v := (f_Pa_atClauseEnd sx_40)) (As := []) (rest := []) ⟨hx, hb, hml, hown, hts0⟩ (m_Pa_atClauseEnd l dC dI cI cZ hp hc h a1 a2 a3 a4 ht ax_40.1 ax_40.2.1 ax_40.2.2.1 ax_40.2.2.2 hq n1 n2 sx_40 okx_40 ) hP hK [0, 1, 2, 3, 4, 5, 6, 7, 8, 9, 10, 11, 12, 13, 14] rfl [0, 1] rfl 0 2 rfl rfl L_803 L_805 L_46 L_87 L_806 ⟨rfl, k_Pa_atClauseEnd⟩ ⟨(by show _ ≤ fr0 + 9; omega), (by show _ ≤ lo0 + 346; omega)⟩ hl.1 ⟨Nat.le_trans (Nat.le_add_right _ _) hcl, Nat.le_trans (Nat.le_add_right _ _) hsl⟩ (Nat.le_of_ble_eq_true rfl) d_Pa_switchStatement_150 rfl ?_
                    refine lv_if_ne (tgt := 176) hx hb d_Pa_switchStatement_153 (by decide) (fun c_43 => ?_) (fun c_43 => ?_)
                    · rw [if_neg c_43] at hL_40
                      have we_40 : f_Pa_switchStatement_L141 E S F depth 5000 0 st_39 = some (.inr (0, sx_40)) := hx_40.trans hL_40
                      have hl := lv_sub hl (l' := [(0, .ref hp), (1, .int depth), (2, .int r_1), (3, .int 1), (4, .int x4), (5, .int (f_Cu_atWord st_9 5)), (6, .int r_12)]) [0, 1, 2, 3, 4, 5, 6] rfl
                      rw [bnd_r we_40] at hL_6
                      refine lv_aload_n hx hb d_Pa_switchStatement_176 rfl (lv_at hl 0 rfl) ?_
                      refine va_get (D := (dC, dI)) (ci := 2) (v := .ref ht) (C := R_Pa) (T := T_Pa) (N := 7) hx hb hts u_Pa hown hK hP 0 rfl rfl 0 (by decide) (hts _ L_208) (fun _ h9 => h9) rfl d_Pa_switchStatement_177 ?_
                      refine lv_iload hx hb d_Pa_switchStatement_180 (lv_at hl 6 rfl) ?_
                      refine pT_v (g := (p_close sx_40 r_12)) (st := sx_40) (As := [.int r_12]) (rest := []) ⟨hx, hb, hml, hown, hts0⟩ (m_Tr_close l dC dI cI cZ sa rk ht ax_40 (sTr sx_40) okx_40.2.1 _ r_12) hP hD hK hS hA hC hZ L_582 L_583 L_584 L_85 L_585 ⟨rfl, k_Tr_close⟩ ⟨(by show _ ≤ fr0 + 9; omega), (by show _ ≤ lo0 + 346; omega)⟩ rfl rfl hl.1 (Nat.le_of_ble_eq_true rfl) d_Pa_switchStatement_182 rfl hcl hsl (Nat.zero_le _) (Nat.zero_le _) okx_40 (t_close_ok r_12 okx_40.2.1) rfl (fun ad_44 st_44 H locs w_44 ok_44 e1_44 e2_44 hP hD hS => ?_)
                      have hcl := cl_next hcl e1_44
                      have hsl := cl_next hsl e2_44
                      rw [bnd_r w_44] at hL_6
                      refine lv_iinc (v := (x4 + 1)) (lv' := [(4, .int (x4 + 1)), (0, .ref hp), (1, .int depth), (2, .int r_1), (3, .int 1), (5, .int (f_Cu_atWord st_9 5)), (6, .int r_12)]) hx hb d_Pa_switchStatement_185 hl (k := 4) rfl rfl (by decide) rfl (fun ls hl => ?_)
                      refine lv_goto (tgt := 70) hx hb d_Pa_switchStatement_188 (by decide) ?_
                      exact ih_6 1 (x4 + 1) ad_44 st_44 ok_44 _ _ ls _ _ hP hD hS (lv_sub hl [1, 2, 3, 4, 0] rfl) hcl hsl hL_6
                    · rw [if_pos c_43] at hL_40
                      refine lv_aload_n hx hb d_Pa_switchStatement_156 rfl (lv_at hl 0 rfl) ?_
                      refine lv_iload_n hx hb d_Pa_switchStatement_157 rfl (lv_at hl 1 rfl) ?_
                      refine lv_iconst (v := 1) hx hb d_Pa_switchStatement_158 (by decide) ?_
                      refine lv_iadd hx hb d_Pa_switchStatement_159 ?_
                      refine lv_aload_n hx hb d_Pa_switchStatement_160 rfl (lv_at hl 0 rfl) ?_
                      refine va_get (D := (dC, dI)) (ci := 2) (v := .ref hq) (C := R_Pa) (T := T_Pa) (N := 7) hx hb hts u_Pa hown hK hP 0 rfl rfl 1 (by decide) (hts _ L_209) (fun _ h9 => h9) rfl d_Pa_switchStatement_161 ?_
                      refine rd_V (v := (f_La_count (sLb sx_40))) (As := []) (rest := [.int (depth + 1), .ref hp]) ⟨hx, hb, hml, hown, hts0⟩ (m_La_count l dC dI cI cZ hq n1 n2 (sLb sx_40) okx_40.2.2.1 ) hP hK [12, 13, 14] rfl [0, 1] rfl 0 1 rfl rfl L_552 L_553 L_554 L_89 L_555 ⟨rfl, k_La_count⟩ ⟨(by show _ ≤ fr0 + 9; omega), (by show _ ≤ lo0 + 346; omega)⟩ hl.1 ⟨Nat.le_trans (Nat.le_add_right _ _) hcl, Nat.le_trans (Nat.le_add_right _ _) hsl⟩ (Nat.le_of_ble_eq_true rfl) d_Pa_switchStatement_164 rfl ?_
                      refine mx_Vv (As := [.int (depth + 1), .int (f_La_count (sLb sx_40))]) (rest := []) ⟨hx, hb, hml, hown, hts0⟩ (hRS hc ax_40 sx_40 okx_40 _ (depth + 1) (f_La_count (sLb sx_40)) (fun z => hn_40 (hL_40.trans (bnd_n z)))) hP hD hK hS hA hC hZ hnt hlocks L_560 L_562 L_10 L_87 L_563 k_Pa_statement ⟨(by show _ ≤ fr0 + 9; omega), (by show _ ≤ lo0 + 346; omega)⟩ rfl rfl hl.1 (Nat.le_of_ble_eq_true rfl) d_Pa_switchStatement_167 rfl (fun q z => hX_40 q (hL_40.trans (bnd_l z))) hcl hsl (fun ad_45 st_45 H locs w_45 ok_45 e1_45 e2_45 hP hD hS => ?_)
                      have hcl := cl_next hcl e1_45
                      have hsl := cl_next hsl e2_45
                      rw [bnd_r w_45] at hL_40
                      refine lv_iinc (v := (x7 + 1)) (lv' := [(7, .int (x7 + 1)), (0, .ref hp), (1, .int depth), (2, .int r_1), (3, .int 1), (4, .int x4), (5, .int (f_Cu_atWord st_9 5)), (6, .int r_12)]) hx hb d_Pa_switchStatement_170 hl (k := 7) rfl rfl (by decide) rfl (fun ls hl => ?_)
                      refine lv_goto (tgt := 141) hx hb d_Pa_switchStatement_173 (by decide) ?_
                      exact ih_40 (x7 + 1) ad_45 st_45 ok_45 _ _ ls _ _ hP hD hS (lv_sub hl [1, 2, 3, 4, 5, 6, 7, 0] rfl) hcl hsl hL_40
              exact lp_40 5000 0 ad_39 st_39 ok_39 _ _ ls _ _ hP hD hS (lv_sub hl [4, 5, 6, 1, 7, 3, 2, 0] rfl) hcl hsl hx_40.symm
  exact lp_6 5000 0 0 ad_5 (setCo st_5 ((coF st_5), (coL st_5), (coS st_5), (coP st_5), ((coW st_5) + 1))) (show okSt (setCo st_5 ((coF st_5), (coL st_5), (coS st_5), (coP st_5), ((coW st_5) + 1))) from ⟨ok_5.1, ok_5.2.1, ok_5.2.2.1, ok_5.2.2.2⟩) _ _ ls _ _ hP hD hS (lv_sub hl [3, 4, 2, 1, 0] rfl) hcl hsl hx_6.symm
def f_Pa_makeStrict_L82 (made : Int32) (body : Int32) : Nat → Int32 → Int32 → ST → Rz
  | 0, _, _, _ => none
  | fu_4 + 1, x4, x5, sx_4 => (if x4 = 0 then (some (.inr (x4, sx_4))) else (if body ≤ x5 then (some (.inr (x4, sx_4))) else (if (f_Pa_mayBeBound sx_4 (f_Tr_where (sTr sx_4) x5)) = 0 then (f_Pa_makeStrict_L82 made body fu_4 0 (x5 + 1) sx_4) else (bnO (f_Pa_hasParameter sx_4 made x5 (f_Tr_value (sTr sx_4) x5)) (fun v_12 => (if v_12 = 0 then (f_Pa_makeStrict_L82 made body fu_4 1 (x5 + 1) sx_4) else (f_Pa_makeStrict_L82 made body fu_4 0 (x5 + 1) sx_4)))))))
def f_Pa_makeStrict (st : ST) (made : Int32) (body : Int32) : Rz := (if (coS st) = 0 then (if (f_Tr_kind (sTr st) made) = 24 then (if (f_Pa_mayBeBound (setCo st ((coF st), (coL st), 1, (coP st), (coW st))) ((f_Tr_where (sTr st) made) + 1)) = 0 then (bnd (f_Pa_makeStrict_L82 made body 5000 0 (made + 1) (setCo st ((coF st), (coL st), 1, (coP st), (coW st)))) (fun rv_4 sx_4 => (if rv_4 = 0 then (bnd (f_Cu_refuse sx_4 (f_Tr_where (sTr sx_4) body)) (fun _ st_7 => (some (.inr (0, st_7))))) else (some (.inr (0, sx_4)))))) else (bnd (f_Pa_makeStrict_L82 made body 5000 1 (made + 1) (setCo st ((coF st), (coL st), 1, (coP st), (coW st)))) (fun rv_14 sx_14 => (if rv_14 = 0 then (bnd (f_Cu_refuse sx_14 (f_Tr_where (sTr sx_14) body)) (fun _ st_17 => (some (.inr (0, st_17))))) else (some (.inr (0, sx_14))))))) else (if (f_Tr_value (sTr st) made) = 0 then (bnd (f_Pa_makeStrict_L82 made body 5000 1 (made + 1) (setCo st ((coF st), (coL st), 1, (coP st), (coW st)))) (fun rv_25 sx_25 => (if rv_25 = 0 then (bnd (f_Cu_refuse sx_25 (f_Tr_where (sTr sx_25) body)) (fun _ st_28 => (some (.inr (0, st_28))))) else (some (.inr (0, sx_25)))))) else (if (f_Pa_mayBeBound (setCo st ((coF st), (coL st), 1, (coP st), (coW st))) ((f_Tr_where (sTr st) made) + 1)) = 0 then (bnd (f_Pa_makeStrict_L82 made body 5000 0 (made + 1) (setCo st ((coF st), (coL st), 1, (coP st), (coW st)))) (fun rv_36 sx_36 => (if rv_36 = 0 then (bnd (f_Cu_refuse sx_36 (f_Tr_where (sTr sx_36) body)) (fun _ st_39 => (some (.inr (0, st_39))))) else (some (.inr (0, sx_36)))))) else (bnd (f_Pa_makeStrict_L82 made body 5000 1 (made + 1) (setCo st ((coF st), (coL st), 1, (coP st), (coW st)))) (fun rv_46 sx_46 => (if rv_46 = 0 then (bnd (f_Cu_refuse sx_46 (f_Tr_where (sTr sx_46) body)) (fun _ st_49 => (some (.inr (0, st_49))))) else (some (.inr (0, sx_46))))))))) else (some (.inr (0, st))))
set_option maxRecDepth 100000 in
set_option maxHeartbeats 4000000 in
theorem m_Pa_makeStrict (l : Launch) (hlt : l.stackTraces = false) (dC : Nat → ClassId) (dI : Nat → Nat → Nat) (cI cZ : ClassId) (sa rk hp hc h a1 a2 a3 a4 ht hq n1 n2 : Nat) (ad : AD) (st : ST) (hst : okSt st) (sz : Nat) (made : Int32) (body : Int32) (hg : f_Pa_makeStrict st made body ≠ none) : cPv l y_Pa_makeStrict c_Pa_makeStrict 6 7 103 (dC, dI) cI cZ sa rk hp hc h a1 a2 a3 a4 ht hq n1 n2 ad st sz [.ref hp, .int made, .int body] (f_Pa_makeStrict st made body) := by
  refine vx_ofW (cc := c_Pa_makeStrict) (maxL := 6) (ret := none) (by decide) rfl ?_
  intro p e s m args below meth c s₁ B hml hnt hv
  obtain ⟨rfl, hsz, hP, hK, hD0, hC, hZ⟩ := hv
  have hx := B.exec
  have hb := B.bytes
  have hr := B.returns
  have hts0 := atoms_spec (ws := wy y_Pa_makeStrict c_Pa_makeStrict 6 none) B.pre
  have hts := htsL hts0
  have hown : s.vm.findClass R_Pa = some m.cls := findClass_of_methodNamed B.named
  have hlocks := B.notSynchronized
  subst hsz
  have hD := hD0.self (sz := s.heap.size)
  generalize hAe : va_A (wQ cI cZ hp hc h a1 a2 a3 a4 ht hq n1 n2 (ad, st)) s.heap.size = A at hD hZ ⊢
  have hA : ∀ q : Nat, s.heap.size ≤ q → A q := fun q h => by rw [← hAe]; exact Or.inr h
  have hS : va_S A s.heap s.heap [] := va_S.rf
  have hcl : 0 + bC st ≤ bC st := Nat.le_of_eq (Nat.zero_add _)
  have hsl : 0 + bS st ≤ bS st := Nat.le_of_eq (Nat.zero_add _)
  have hl := lv_entry ([.ref hp, .int made, .int body]) (n := 6) (Nat.le_of_ble_eq_true rfl)
  rw [lg_entry_eq]
  generalize (lg_sl ([.ref hp, .int made, .int body]) ++ List.replicate (6 - (lg_sl ([.ref hp, .int made, .int body])).length) Slot.unset).toArray = ls at hl ⊢
  have hl : lv_has ls 6 [(0, .ref hp), (1, .int made), (2, .int body)] := hl
  refine lv_aload_n hx hb d_Pa_makeStrict_0 rfl (lv_at hl 0 rfl) ?_
  refine va_get (D := (dC, dI)) (ci := 2) (v := .ref hc) (C := R_Pa) (T := T_Pa) (N := 7) hx hb hts u_Pa hown hK hP 0 rfl rfl 6 (by decide) (hts _ L_221) (fun x9 h9 => u_same (hts _ L_222) x9 h9) rfl d_Pa_makeStrict_1 ?_
  refine va_get (D := (dC, dI)) (ci := 0) (v := .int (coS st)) (C := R_Co) (T := T_Co) (N := 5) hx hb hts u_Co hown hK hP 1 rfl rfl 2 (by decide) (hts _ L_174) (fun _ h9 => h9) rfl d_Pa_makeStrict_4 ?_
  refine lv_if_eq (tgt := 11) hx hb d_Pa_makeStrict_7 (by decide) (fun c_1 => ?_) (fun c_1 => ?_)
  · refine lv_aload_n hx hb d_Pa_makeStrict_11 rfl (lv_at hl 0 rfl) ?_
    refine va_get (D := (dC, dI)) (ci := 2) (v := .ref hc) (C := R_Pa) (T := T_Pa) (N := 7) hx hb hts u_Pa hown hK hP 0 rfl rfl 6 (by decide) (hts _ L_221) (fun x9 h9 => u_same (hts _ L_222) x9 h9) rfl d_Pa_makeStrict_12 ?_
    refine lv_iconst (v := 1) hx hb d_Pa_makeStrict_15 (by decide) ?_
    refine va_put (D := (dC, dI)) (ci := 0) (v := .int 1) (ty := .boolean) (C := R_Co) (T := T_Co) (N := 5) hx hb hts u_Co ty_Co tk_Co nm_Co hown hK hP hD hS 1 rfl rfl 2 (by decide) (hts _ L_174) (fun _ h9 => h9) rfl (by decide +kernel) rfl rfl (Nat.le_of_ble_eq_true rfl) d_Pa_makeStrict_16 (fun H locs hP hD hS => ?_)
    have hP : va_P (dC, dI) cls (wQ cI cZ hp hc h a1 a2 a3 a4 ht hq n1 n2 (ad, (setCo st ((coF st), (coL st), 1, (coP st), (coW st))))) H := hP
    have hD : va_D A (wQ cI cZ hp hc h a1 a2 a3 a4 ht hq n1 n2 (ad, (setCo st ((coF st), (coL st), 1, (coP st), (coW st))))) := hD
    refine lv_aload_n hx hb d_Pa_makeStrict_19 rfl (lv_at hl 0 rfl) ?_
    refine va_get (D := (dC, dI)) (ci := 2) (v := .ref ht) (C := R_Pa) (T := T_Pa) (N := 7) hx hb hts u_Pa hown hK hP 0 rfl rfl 0 (by decide) (hts _ L_208) (fun _ h9 => h9) rfl d_Pa_makeStrict_20 ?_
    refine lv_iload_n hx hb d_Pa_makeStrict_23 rfl (lv_at hl 1 rfl) ?_
    refine rd_V (v := (f_Tr_kind (sTr st) made)) (As := [.int made]) (rest := []) ⟨hx, hb, hml, hown, hts0⟩ (m_Tr_kind l dC dI cI cZ ht ad.1 ad.2.1 ad.2.2.1 ad.2.2.2 (sTr st) hst.2.1 made) hP hK [7, 8, 9, 10, 11] rfl [0, 1] rfl 0 4 rfl rfl L_528 L_529 L_530 L_85 L_531 ⟨rfl, k_Tr_kind⟩ ⟨Nat.le_of_ble_eq_true rfl, Nat.le_of_ble_eq_true rfl⟩ hl.1 ⟨Nat.le_trans (Nat.le_add_right _ _) hcl, Nat.le_trans (Nat.le_add_right _ _) hsl⟩ (Nat.le_of_ble_eq_true rfl) d_Pa_makeStrict_24 rfl ?_
    refine lv_bipush (v := 24) hx hb d_Pa_makeStrict_27 (by decide) ?_
    refine lv_icmp_eq (tgt := 43) hx hb d_Pa_makeStrict_29 (by decide) (fun c_2 => ?_) (fun c_2 => ?_)
    · refine lv_iconst (v := 1) hx hb d_Pa_makeStrict_43 (by decide) ?_
      refine lv_goto (tgt := 48) hx hb d_Pa_makeStrict_44 (by decide) ?_
      refine lv_istore_n (lv' := [(3, .int 1), (0, .ref hp), (1, .int made), (2, .int body)]) hx hb d_Pa_makeStrict_48 rfl hl (by decide) rfl (fun ls hl => ?_)
      refine lv_iload_n hx hb d_Pa_makeStrict_49 rfl (lv_at hl 0 rfl) ?_
      refine lv_if_eq (tgt := 70) hx hb d_Pa_makeStrict_50 (by decide) (fun q9 => absurd q9 (by decide)) (fun _ => ?_)
      refine lv_aload_n hx hb d_Pa_makeStrict_53 rfl (lv_at hl 1 rfl) ?_
      refine lv_aload_n hx hb d_Pa_makeStrict_54 rfl (lv_at hl 1 rfl) ?_
      refine va_get (D := (dC, dI)) (ci := 2) (v := .ref ht) (C := R_Pa) (T := T_Pa) (N := 7) hx hb hts u_Pa hown hK hP 0 rfl rfl 0 (by decide) (hts _ L_208) (fun _ h9 => h9) rfl d_Pa_makeStrict_55 ?_
      refine lv_iload_n hx hb d_Pa_makeStrict_58 rfl (lv_at hl 2 rfl) ?_
      refine rd_V (v := (f_Tr_where (sTr st) made)) (As := [.int made]) (rest := [.ref hp]) ⟨hx, hb, hml, hown, hts0⟩ (m_Tr_where l dC dI cI cZ ht ad.1 ad.2.1 ad.2.2.1 ad.2.2.2 (sTr st) hst.2.1 made) hP hK [7, 8, 9, 10, 11] rfl [0, 1] rfl 0 4 rfl rfl L_857 L_858 L_859 L_85 L_860 ⟨rfl, k_Tr_where⟩ ⟨Nat.le_of_ble_eq_true rfl, Nat.le_of_ble_eq_true rfl⟩ hl.1 ⟨Nat.le_trans (Nat.le_add_right _ _) hcl, Nat.le_trans (Nat.le_add_right _ _) hsl⟩ (Nat.le_of_ble_eq_true rfl) d_Pa_makeStrict_59 rfl ?_
      refine lv_iconst (v := 1) hx hb d_Pa_makeStrict_62 (by decide) ?_
      refine lv_iadd hx hb d_Pa_makeStrict_63 ?_
      refine rd_V (v := (f_Pa_mayBeBound (setCo st ((coF st), (coL st), 1, (coP st), (coW st))) ((f_Tr_where (sTr st) made) + 1))) (As := [.int ((f_Tr_where (sTr st) made) + 1)]) (rest := []) ⟨hx, hb, hml, hown, hts0⟩ (m_Pa_mayBeBound l dC dI cI cZ hp hc h a1 a2 a3 a4 ht ad.1 ad.2.1 ad.2.2.1 ad.2.2.2 hq n1 n2 (setCo st ((coF st), (coL st), 1, (coP st), (coW st))) (show okSt (setCo st ((coF st), (coL st), 1, (coP st), (coW st))) from ⟨hst.1, hst.2.1, hst.2.2.1, (Or.inr rfl)⟩) ((f_Tr_where (sTr st) made) + 1)) hP hK [0, 1, 2, 3, 4, 5, 6, 7, 8, 9, 10, 11, 12, 13, 14] rfl [0, 1] rfl 0 2 rfl rfl L_861 L_863 L_55 L_87 L_864 ⟨rfl, k_Pa_mayBeBound⟩ ⟨Nat.le_of_ble_eq_true rfl, Nat.le_of_ble_eq_true rfl⟩ hl.1 ⟨Nat.le_trans (Nat.le_add_right _ _) hcl, Nat.le_trans (Nat.le_add_right _ _) hsl⟩ (Nat.le_of_ble_eq_true rfl) d_Pa_makeStrict_64 rfl ?_
      refine lv_if_eq (tgt := 74) hx hb d_Pa_makeStrict_67 (by decide) (fun c_3 => ?_) (fun c_3 => ?_)
      · refine lv_iconst (v := 0) hx hb d_Pa_makeStrict_74 (by decide) ?_
        refine lv_istore (lv' := [(4, .int 0), (3, .int 1), (0, .ref hp), (1, .int made), (2, .int body)]) hx hb d_Pa_makeStrict_75 hl (by decide) rfl (fun ls hl => ?_)
        refine lv_iload_n hx hb d_Pa_makeStrict_77 rfl (lv_at hl 3 rfl) ?_
        refine lv_iconst (v := 1) hx hb d_Pa_makeStrict_78 (by decide) ?_
        refine lv_iadd hx hb d_Pa_makeStrict_79 ?_
        refine lv_istore (lv' := [(5, .int (made + 1)), (4, .int 0), (3, .int 1), (0, .ref hp), (1, .int made), (2, .int body)]) hx hb d_Pa_makeStrict_80 hl (by decide) rfl (fun ls hl => ?_)
        obtain ⟨x_4, hx_4⟩ : ∃ z, f_Pa_makeStrict_L82 made body 5000 0 (made + 1) (setCo st ((coF st), (coL st), 1, (coP st), (coW st))) = z := ⟨_, rfl⟩
        have hn_4 : x_4 ≠ none := (fun z => hg (by unfold f_Pa_makeStrict; rw [if_pos c_1, if_pos c_2, if_pos c_3, bnd_n (hx_4.trans z)]))
        have hX_4 : ∀ q, x_4 = some (.inl q) → (f_Pa_makeStrict st made body) = some (.inl q) := (fun q z => by unfold f_Pa_makeStrict; rw [if_pos c_1, if_pos c_2, if_pos c_3, bnd_l (hx_4.trans z)])
        have lp_4 : ∀ (fu : Nat) (x4 x5 : Int32) (ax_4 : AD) (sx_4 : ST) (okx_4 : okSt sx_4) (H : Heap) (locs : List Loc) (ls : Array Slot) (cells slots : Nat), va_P (dC, dI) cls (wQ cI cZ hp hc h a1 a2 a3 a4 ht hq n1 n2 (ax_4, sx_4)) H → va_D A (wQ cI cZ hp hc h a1 a2 a3 a4 ht hq n1 n2 (ax_4, sx_4)) → va_S A s.heap H locs → lv_has ls 6 [(0, .ref hp), (1, .int made), (2, .int body), (3, .int 1), (4, .int x4), (5, .int x5)] → cells + bC sx_4 ≤ bC st → slots + bS sx_4 ≤ bS st → x_4 = f_Pa_makeStrict_L82 made body fu x4 x5 sx_4 → W p l e (headSpec (wy y_Pa_makeStrict c_Pa_makeStrict 6 none) { frames := 7, cells := bC st, slots := bS st, locals := 103 }).room s m [.ref hp, .int made, .int body].toArray below meth c H locs cells slots (vx_MQ below (va_Qv (poN (f_Pa_makeStrict st made body) st 0) (wB (dC, dI) cI cZ A (wQ cI cZ hp hc h a1 a2 a3 a4 ht hq n1 n2)) A) (xP (dC, dI) cI cZ hp h a1 a2 a3 a4 ht hq n1 n2 (f_Pa_makeStrict st made body) st A) [.ref hp, .int made, .int body].toArray s (mcO st (f_Pa_makeStrict st made body)) (msO st (f_Pa_makeStrict st made body)) A) (F0 m 82 ls []) := by
          intro fu
          induction fu with
          | zero => intro x4 x5 ax_4 sx_4 okx_4 H locs ls cells slots hP hD hS hl hcl hsl hL_4; exact absurd (hL_4.trans rfl) hn_4
          | succ fu_4 ih_4 =>
            intro x4 x5 ax_4 sx_4 okx_4 H locs ls cells slots hP hD hS hl hcl hsl hL_4
            rw [f_Pa_makeStrict_L82] at hL_4
            refine lv_iload hx hb d_Pa_makeStrict_82 (lv_at hl 4 rfl) ?_
            refine lv_if_eq (tgt := 141) hx hb d_Pa_makeStrict_84 (by decide) (fun c_5 => ?_) (fun c_5 => ?_)
            · rw [if_pos c_5] at hL_4
              obtain ⟨rv_4, hrv_4⟩ : ∃ z : Int32, z = x4 := ⟨_, rfl⟩
              have we_4 : f_Pa_makeStrict_L82 made body 5000 0 (made + 1) (setCo st ((coF st), (coL st), 1, (coP st), (coW st))) = some (.inr (rv_4, sx_4)) := by rw [hrv_4]; exact hx_4.trans hL_4
              have hl : lv_has ls 6 [(0, .ref hp), (1, .int made), (2, .int body), (3, .int 1), (4, .int rv_4)] := by rw [hrv_4]; exact lv_sub hl [0, 1, 2, 3, 4] rfl
              refine lv_iload hx hb d_Pa_makeStrict_141 (lv_at hl 4 rfl) ?_
              refine lv_if_ne (tgt := 158) hx hb d_Pa_makeStrict_143 (by decide) (fun c_6 => ?_) (fun c_6 => ?_)
              · exact mx_vret (stF := sx_4) hx hb hr hlocks hK hP hD hS hcl hsl (by unfold f_Pa_makeStrict; rw [if_pos c_1, if_pos c_2, if_pos c_3, bnd_r we_4, if_neg c_6]) okx_4 d_Pa_makeStrict_158
              · refine lv_aload_n hx hb d_Pa_makeStrict_146 rfl (lv_at hl 0 rfl) ?_
                refine lv_aload_n hx hb d_Pa_makeStrict_147 rfl (lv_at hl 0 rfl) ?_
                refine va_get (D := (dC, dI)) (ci := 2) (v := .ref ht) (C := R_Pa) (T := T_Pa) (N := 7) hx hb hts u_Pa hown hK hP 0 rfl rfl 0 (by decide) (hts _ L_208) (fun _ h9 => h9) rfl d_Pa_makeStrict_148 ?_
                refine lv_iload_n hx hb d_Pa_makeStrict_151 rfl (lv_at hl 2 rfl) ?_
                refine rd_V (v := (f_Tr_where (sTr sx_4) body)) (As := [.int body]) (rest := [.ref hp]) ⟨hx, hb, hml, hown, hts0⟩ (m_Tr_where l dC dI cI cZ ht ax_4.1 ax_4.2.1 ax_4.2.2.1 ax_4.2.2.2 (sTr sx_4) okx_4.2.1 body) hP hK [7, 8, 9, 10, 11] rfl [0, 1] rfl 0 4 rfl rfl L_857 L_858 L_859 L_85 L_860 ⟨rfl, k_Tr_where⟩ ⟨Nat.le_of_ble_eq_true rfl, Nat.le_of_ble_eq_true rfl⟩ hl.1 ⟨Nat.le_trans (Nat.le_add_right _ _) hcl, Nat.le_trans (Nat.le_add_right _ _) hsl⟩ (Nat.le_of_ble_eq_true rfl) d_Pa_makeStrict_152 rfl ?_
                refine mx_Uv (xm := ⟨"SyntaxTree$Parser", "refuse", "(I)V"⟩) (owner := R_Cu) (As := [.int (f_Tr_where (sTr sx_4) body)]) (rest := []) ⟨hx, hb, hml, hown, hts0⟩ (m_Cu_refuse l hlt dC dI cI cZ sa rk hp hc h a1 a2 a3 a4 ht hq n1 n2 ax_4 sx_4 okx_4 _ (f_Tr_where (sTr sx_4) body) (fun z => hg (by unfold f_Pa_makeStrict; rw [if_pos c_1, if_pos c_2, if_pos c_3, bnd_r we_4, if_pos c_6, bnd_n z]))) hP hD hK hS hA hC hZ hnt hlocks L_536 L_537 L_539 L_460 L_86 L_463 rfl k_Cu_refuse ⟨Nat.le_of_ble_eq_true rfl, Nat.le_of_ble_eq_true rfl⟩ rfl rfl hl.1 (Nat.le_of_ble_eq_true rfl) d_Pa_makeStrict_155 rfl (fun q z => by unfold f_Pa_makeStrict; rw [if_pos c_1, if_pos c_2, if_pos c_3, bnd_r we_4, if_pos c_6, bnd_l z]) hcl hsl (fun ad_7 st_7 H locs w_7 ok_7 e1_7 e2_7 hP hD hS => ?_)
                have hcl := cl_next hcl e1_7
                have hsl := cl_next hsl e2_7
                exact mx_vret (stF := st_7) hx hb hr hlocks hK hP hD hS hcl hsl (by unfold f_Pa_makeStrict; rw [if_pos c_1, if_pos c_2, if_pos c_3, bnd_r we_4, if_pos c_6, bnd_r w_7]) ok_7 d_Pa_makeStrict_158
            · rw [if_neg c_5] at hL_4
              refine lv_iload hx hb d_Pa_makeStrict_87 (lv_at hl 5 rfl) ?_
              refine lv_iload_n hx hb d_Pa_makeStrict_89 rfl (lv_at hl 2 rfl) ?_
              refine lv_icmp_ge (tgt := 141) hx hb d_Pa_makeStrict_90 (by decide) (fun c_8 => ?_) (fun c_8 => ?_)
              · rw [if_pos c_8] at hL_4
                obtain ⟨rv_4, hrv_4⟩ : ∃ z : Int32, z = x4 := ⟨_, rfl⟩
                have we_4 : f_Pa_makeStrict_L82 made body 5000 0 (made + 1) (setCo st ((coF st), (coL st), 1, (coP st), (coW st))) = some (.inr (rv_4, sx_4)) := by rw [hrv_4]; exact hx_4.trans hL_4
                have hl : lv_has ls 6 [(0, .ref hp), (1, .int made), (2, .int body), (3, .int 1), (4, .int rv_4)] := by rw [hrv_4]; exact lv_sub hl [0, 1, 2, 3, 4] rfl
                refine lv_iload hx hb d_Pa_makeStrict_141 (lv_at hl 4 rfl) ?_
                refine lv_if_ne (tgt := 158) hx hb d_Pa_makeStrict_143 (by decide) (fun c_9 => ?_) (fun c_9 => ?_)
                · exact mx_vret (stF := sx_4) hx hb hr hlocks hK hP hD hS hcl hsl (by unfold f_Pa_makeStrict; rw [if_pos c_1, if_pos c_2, if_pos c_3, bnd_r we_4, if_neg c_9]) okx_4 d_Pa_makeStrict_158
                · refine lv_aload_n hx hb d_Pa_makeStrict_146 rfl (lv_at hl 0 rfl) ?_
                  refine lv_aload_n hx hb d_Pa_makeStrict_147 rfl (lv_at hl 0 rfl) ?_
                  refine va_get (D := (dC, dI)) (ci := 2) (v := .ref ht) (C := R_Pa) (T := T_Pa) (N := 7) hx hb hts u_Pa hown hK hP 0 rfl rfl 0 (by decide) (hts _ L_208) (fun _ h9 => h9) rfl d_Pa_makeStrict_148 ?_
                  refine lv_iload_n hx hb d_Pa_makeStrict_151 rfl (lv_at hl 2 rfl) ?_
                  refine rd_V (v := (f_Tr_where (sTr sx_4) body)) (As := [.int body]) (rest := [.ref hp]) ⟨hx, hb, hml, hown, hts0⟩ (m_Tr_where l dC dI cI cZ ht ax_4.1 ax_4.2.1 ax_4.2.2.1 ax_4.2.2.2 (sTr sx_4) okx_4.2.1 body) hP hK [7, 8, 9, 10, 11] rfl [0, 1] rfl 0 4 rfl rfl L_857 L_858 L_859 L_85 L_860 ⟨rfl, k_Tr_where⟩ ⟨Nat.le_of_ble_eq_true rfl, Nat.le_of_ble_eq_true rfl⟩ hl.1 ⟨Nat.le_trans (Nat.le_add_right _ _) hcl, Nat.le_trans (Nat.le_add_right _ _) hsl⟩ (Nat.le_of_ble_eq_true rfl) d_Pa_makeStrict_152 rfl ?_
                  refine mx_Uv (xm := ⟨"SyntaxTree$Parser", "refuse", "(I)V"⟩) (owner := R_Cu) (As := [.int (f_Tr_where (sTr sx_4) body)]) (rest := []) ⟨hx, hb, hml, hown, hts0⟩ (m_Cu_refuse l hlt dC dI cI cZ sa rk hp hc h a1 a2 a3 a4 ht hq n1 n2 ax_4 sx_4 okx_4 _ (f_Tr_where (sTr sx_4) body) (fun z => hg (by unfold f_Pa_makeStrict; rw [if_pos c_1, if_pos c_2, if_pos c_3, bnd_r we_4, if_pos c_9, bnd_n z]))) hP hD hK hS hA hC hZ hnt hlocks L_536 L_537 L_539 L_460 L_86 L_463 rfl k_Cu_refuse ⟨Nat.le_of_ble_eq_true rfl, Nat.le_of_ble_eq_true rfl⟩ rfl rfl hl.1 (Nat.le_of_ble_eq_true rfl) d_Pa_makeStrict_155 rfl (fun q z => by unfold f_Pa_makeStrict; rw [if_pos c_1, if_pos c_2, if_pos c_3, bnd_r we_4, if_pos c_9, bnd_l z]) hcl hsl (fun ad_10 st_10 H locs w_10 ok_10 e1_10 e2_10 hP hD hS => ?_)
                  have hcl := cl_next hcl e1_10
                  have hsl := cl_next hsl e2_10
                  exact mx_vret (stF := st_10) hx hb hr hlocks hK hP hD hS hcl hsl (by unfold f_Pa_makeStrict; rw [if_pos c_1, if_pos c_2, if_pos c_3, bnd_r we_4, if_pos c_9, bnd_r w_10]) ok_10 d_Pa_makeStrict_158
              · rw [if_neg c_8] at hL_4
                refine lv_aload_n hx hb d_Pa_makeStrict_93 rfl (lv_at hl 0 rfl) ?_
                refine lv_aload_n hx hb d_Pa_makeStrict_94 rfl (lv_at hl 0 rfl) ?_
                refine va_get (D := (dC, dI)) (ci := 2) (v := .ref ht) (C := R_Pa) (T := T_Pa) (N := 7) hx hb hts u_Pa hown hK hP 0 rfl rfl 0 (by decide) (hts _ L_208) (fun _ h9 => h9) rfl d_Pa_makeStrict_95 ?_
                refine lv_iload hx hb d_Pa_makeStrict_98 (lv_at hl 5 rfl) ?_
                refine rd_V (v := (f_Tr_where (sTr sx_4) x5)) (As := [.int x5]) (rest := [.ref hp]) ⟨hx, hb, hml, hown, hts0⟩ (m_Tr_where l dC dI cI cZ ht ax_4.1 ax_4.2.1 ax_4.2.2.1 ax_4.2.2.2 (sTr sx_4) okx_4.2.1 x5) hP hK [7, 8, 9, 10, 11] rfl [0, 1] rfl 0 4 rfl rfl L_857 L_858 L_859 L_85 L_860 ⟨rfl, k_Tr_where⟩ ⟨Nat.le_of_ble_eq_true rfl, Nat.le_of_ble_eq_true rfl⟩ hl.1 ⟨Nat.le_trans (Nat.le_add_right _ _) hcl, Nat.le_trans (Nat.le_add_right _ _) hsl⟩ (Nat.le_of_ble_eq_true rfl) d_Pa_makeStrict_100 rfl ?_
                refine rd_V (v := (f_Pa_mayBeBound sx_4 (f_Tr_where (sTr sx_4) x5))) (As := [.int (f_Tr_where (sTr sx_4) x5)]) (rest := []) ⟨hx, hb, hml, hown, hts0⟩ (m_Pa_mayBeBound l dC dI cI cZ hp hc h a1 a2 a3 a4 ht ax_4.1 ax_4.2.1 ax_4.2.2.1 ax_4.2.2.2 hq n1 n2 sx_4 okx_4 (f_Tr_where (sTr sx_4) x5)) hP hK [0, 1, 2, 3, 4, 5, 6, 7, 8, 9, 10, 11, 12, 13, 14] rfl [0, 1] rfl 0 2 rfl rfl L_861 L_863 L_55 L_87 L_864 ⟨rfl, k_Pa_mayBeBound⟩ ⟨Nat.le_of_ble_eq_true rfl, Nat.le_of_ble_eq_true rfl⟩ hl.1 ⟨Nat.le_trans (Nat.le_add_right _ _) hcl, Nat.le_trans (Nat.le_add_right _ _) hsl⟩ (Nat.le_of_ble_eq_true rfl) d_Pa_makeStrict_103 rfl ?_
                refine lv_if_eq (tgt := 132) hx hb d_Pa_makeStrict_106 (by decide) (fun c_11 => ?_) (fun c_11 => ?_)
                · rw [if_pos c_11] at hL_4
                  refine lv_iconst (v := 0) hx hb d_Pa_makeStrict_132 (by decide) ?_
                  refine lv_istore (lv' := [(4, .int 0), (0, .ref hp), (1, .int made), (2, .int body), (3, .int 1), (5, .int x5)]) hx hb d_Pa_makeStrict_133 hl (by decide) rfl (fun ls hl => ?_)
                  refine lv_iinc (v := (x5 + 1)) (lv' := [(5, .int (x5 + 1)), (4, .int 0), (0, .ref hp), (1, .int made), (2, .int body), (3, .int 1)]) hx hb d_Pa_makeStrict_135 hl (k := 5) rfl rfl (by decide) rfl (fun ls hl => ?_)
                  refine lv_goto (tgt := 82) hx hb d_Pa_makeStrict_138 (by decide) ?_
                  exact ih_4 0 (x5 + 1) ax_4 sx_4 okx_4 _ _ ls _ _ hP hD hS (lv_sub hl [2, 3, 4, 5, 1, 0] rfl) hcl hsl hL_4
                · rw [if_neg c_11] at hL_4
                  refine lv_aload_n hx hb d_Pa_makeStrict_109 rfl (lv_at hl 0 rfl) ?_
                  refine lv_iload_n hx hb d_Pa_makeStrict_110 rfl (lv_at hl 1 rfl) ?_
                  refine lv_iload hx hb d_Pa_makeStrict_111 (lv_at hl 5 rfl) ?_
                  refine lv_aload_n hx hb d_Pa_makeStrict_113 rfl (lv_at hl 0 rfl) ?_
                  refine va_get (D := (dC, dI)) (ci := 2) (v := .ref ht) (C := R_Pa) (T := T_Pa) (N := 7) hx hb hts u_Pa hown hK hP 0 rfl rfl 0 (by decide) (hts _ L_208) (fun _ h9 => h9) rfl d_Pa_makeStrict_114 ?_
                  refine lv_iload hx hb d_Pa_makeStrict_117 (lv_at hl 5 rfl) ?_
                  refine rd_V (v := (f_Tr_value (sTr sx_4) x5)) (As := [.int x5]) (rest := [.int x5, .int made, .ref hp]) ⟨hx, hb, hml, hown, hts0⟩ (m_Tr_value l dC dI cI cZ ht ax_4.1 ax_4.2.1 ax_4.2.2.1 ax_4.2.2.2 (sTr sx_4) okx_4.2.1 x5) hP hK [7, 8, 9, 10, 11] rfl [0, 1] rfl 0 4 rfl rfl L_532 L_533 L_534 L_85 L_535 ⟨rfl, k_Tr_value⟩ ⟨Nat.le_of_ble_eq_true rfl, Nat.le_of_ble_eq_true rfl⟩ hl.1 ⟨Nat.le_trans (Nat.le_add_right _ _) hcl, Nat.le_trans (Nat.le_add_right _ _) hsl⟩ (Nat.le_of_ble_eq_true rfl) d_Pa_makeStrict_119 rfl ?_
                  obtain ⟨v_12, w_12⟩ : ∃ v9, (f_Pa_hasParameter sx_4 made x5 (f_Tr_value (sTr sx_4) x5)) = some v9 := bnO_ex ((fun z => hn_4 (hL_4.trans (bnO_n z))))
                  refine rd_V (v := v_12) (As := [.int made, .int x5, .int (f_Tr_value (sTr sx_4) x5)]) (rest := []) ⟨hx, hb, hml, hown, hts0⟩ (m_Pa_hasParameter l dC dI cI cZ hp hc h a1 a2 a3 a4 ht ax_4.1 ax_4.2.1 ax_4.2.2.1 ax_4.2.2.2 hq n1 n2 sx_4 okx_4 made x5 (f_Tr_value (sTr sx_4) x5) v_12 w_12) hP hK [0, 1, 2, 3, 4, 5, 6, 7, 8, 9, 10, 11, 12, 13, 14] rfl [0, 1] rfl 0 2 rfl rfl L_524 L_526 L_9 L_87 L_527 ⟨rfl, k_Pa_hasParameter⟩ ⟨Nat.le_of_ble_eq_true rfl, Nat.le_of_ble_eq_true rfl⟩ hl.1 ⟨Nat.le_trans (Nat.le_add_right _ _) hcl, Nat.le_trans (Nat.le_add_right _ _) hsl⟩ (Nat.le_of_ble_eq_true rfl) d_Pa_makeStrict_122 rfl ?_
                  rw [bnO_s w_12] at hL_4
                  refine lv_if_ne (tgt := 132) hx hb d_Pa_makeStrict_125 (by decide) (fun c_13 => ?_) (fun c_13 => ?_)
                  · rw [if_neg c_13] at hL_4
                    refine lv_iconst (v := 0) hx hb d_Pa_makeStrict_132 (by decide) ?_
                    refine lv_istore (lv' := [(4, .int 0), (0, .ref hp), (1, .int made), (2, .int body), (3, .int 1), (5, .int x5)]) hx hb d_Pa_makeStrict_133 hl (by decide) rfl (fun ls hl => ?_)
                    refine lv_iinc (v := (x5 + 1)) (lv' := [(5, .int (x5 + 1)), (4, .int 0), (0, .ref hp), (1, .int made), (2, .int body), (3, .int 1)]) hx hb d_Pa_makeStrict_135 hl (k := 5) rfl rfl (by decide) rfl (fun ls hl => ?_)
                    refine lv_goto (tgt := 82) hx hb d_Pa_makeStrict_138 (by decide) ?_
                    exact ih_4 0 (x5 + 1) ax_4 sx_4 okx_4 _ _ ls _ _ hP hD hS (lv_sub hl [2, 3, 4, 5, 1, 0] rfl) hcl hsl hL_4
                  · rw [if_pos c_13] at hL_4
                    refine lv_iconst (v := 1) hx hb d_Pa_makeStrict_128 (by decide) ?_
                    refine lv_goto (tgt := 133) hx hb d_Pa_makeStrict_129 (by decide) ?_
                    refine lv_istore (lv' := [(4, .int 1), (0, .ref hp), (1, .int made), (2, .int body), (3, .int 1), (5, .int x5)]) hx hb d_Pa_makeStrict_133 hl (by decide) rfl (fun ls hl => ?_)
                    refine lv_iinc (v := (x5 + 1)) (lv' := [(5, .int (x5 + 1)), (4, .int 1), (0, .ref hp), (1, .int made), (2, .int body), (3, .int 1)]) hx hb d_Pa_makeStrict_135 hl (k := 5) rfl rfl (by decide) rfl (fun ls hl => ?_)
                    refine lv_goto (tgt := 82) hx hb d_Pa_makeStrict_138 (by decide) ?_
                    exact ih_4 1 (x5 + 1) ax_4 sx_4 okx_4 _ _ ls _ _ hP hD hS (lv_sub hl [2, 3, 4, 5, 1, 0] rfl) hcl hsl hL_4
        exact lp_4 5000 0 (made + 1) ad (setCo st ((coF st), (coL st), 1, (coP st), (coW st))) (show okSt (setCo st ((coF st), (coL st), 1, (coP st), (coW st))) from ⟨hst.1, hst.2.1, hst.2.2.1, (Or.inr rfl)⟩) _ _ ls _ _ hP hD hS (lv_sub hl [3, 4, 5, 2, 1, 0] rfl) hcl hsl hx_4.symm
      · refine lv_iconst (v := 1) hx hb d_Pa_makeStrict_70 (by decide) ?_
        refine lv_goto (tgt := 75) hx hb d_Pa_makeStrict_71 (by decide) ?_
        refine lv_istore (lv' := [(4, .int 1), (3, .int 1), (0, .ref hp), (1, .int made), (2, .int body)]) hx hb d_Pa_makeStrict_75 hl (by decide) rfl (fun ls hl => ?_)
        refine lv_iload_n hx hb d_Pa_makeStrict_77 rfl (lv_at hl 3 rfl) ?_
        refine lv_iconst (v := 1) hx hb d_Pa_makeStrict_78 (by decide) ?_
        refine lv_iadd hx hb d_Pa_makeStrict_79 ?_
        refine lv_istore (lv' := [(5, .int (made + 1)), (4, .int 1), (3, .int 1), (0, .ref hp), (1, .int made), (2, .int body)]) hx hb d_Pa_makeStrict_80 hl (by decide) rfl (fun ls hl => ?_)
        obtain ⟨x_14, hx_14⟩ : ∃ z, f_Pa_makeStrict_L82 made body 5000 1 (made + 1) (setCo st ((coF st), (coL st), 1, (coP st), (coW st))) = z := ⟨_, rfl⟩
        have hn_14 : x_14 ≠ none := (fun z => hg (by unfold f_Pa_makeStrict; rw [if_pos c_1, if_pos c_2, if_neg c_3, bnd_n (hx_14.trans z)]))
        have hX_14 : ∀ q, x_14 = some (.inl q) → (f_Pa_makeStrict st made body) = some (.inl q) := (fun q z => by unfold f_Pa_makeStrict; rw [if_pos c_1, if_pos c_2, if_neg c_3, bnd_l (hx_14.trans z)])
        have lp_14 : ∀ (fu : Nat) (x4 x5 : Int32) (ax_14 : AD) (sx_14 : ST) (okx_14 : okSt sx_14) (H : Heap) (locs : List Loc) (ls : Array Slot) (cells slots : Nat), va_P (dC, dI) cls (wQ cI cZ hp hc h a1 a2 a3 a4 ht hq n1 n2 (ax_14, sx_14)) H → va_D A (wQ cI cZ hp hc h a1 a2 a3 a4 ht hq n1 n2 (ax_14, sx_14)) → va_S A s.heap H locs → lv_has ls 6 [(0, .ref hp), (1, .int made), (2, .int body), (3, .int 1), (4, .int x4), (5, .int x5)] → cells + bC sx_14 ≤ bC st → slots + bS sx_14 ≤ bS st → x_14 = f_Pa_makeStrict_L82 made body fu x4 x5 sx_14 → W p l e (headSpec (wy y_Pa_makeStrict c_Pa_makeStrict 6 none) { frames := 7, cells := bC st, slots := bS st, locals := 103 }).room s m [.ref hp, .int made, .int body].toArray below meth c H locs cells slots (vx_MQ below (va_Qv (poN (f_Pa_makeStrict st made body) st 0) (wB (dC, dI) cI cZ A (wQ cI cZ hp hc h a1 a2 a3 a4 ht hq n1 n2)) A) (xP (dC, dI) cI cZ hp h a1 a2 a3 a4 ht hq n1 n2 (f_Pa_makeStrict st made body) st A) [.ref hp, .int made, .int body].toArray s (mcO st (f_Pa_makeStrict st made body)) (msO st (f_Pa_makeStrict st made body)) A) (F0 m 82 ls []) := by
          intro fu
          induction fu with
          | zero => intro x4 x5 ax_14 sx_14 okx_14 H locs ls cells slots hP hD hS hl hcl hsl hL_14; exact absurd (hL_14.trans rfl) hn_14
          | succ fu_14 ih_14 =>
            intro x4 x5 ax_14 sx_14 okx_14 H locs ls cells slots hP hD hS hl hcl hsl hL_14
            rw [f_Pa_makeStrict_L82] at hL_14
            refine lv_iload hx hb d_Pa_makeStrict_82 (lv_at hl 4 rfl) ?_
            refine lv_if_eq (tgt := 141) hx hb d_Pa_makeStrict_84 (by decide) (fun c_15 => ?_) (fun c_15 => ?_)
            · rw [if_pos c_15] at hL_14
              obtain ⟨rv_14, hrv_14⟩ : ∃ z : Int32, z = x4 := ⟨_, rfl⟩
              have we_14 : f_Pa_makeStrict_L82 made body 5000 1 (made + 1) (setCo st ((coF st), (coL st), 1, (coP st), (coW st))) = some (.inr (rv_14, sx_14)) := by rw [hrv_14]; exact hx_14.trans hL_14
              have hl : lv_has ls 6 [(0, .ref hp), (1, .int made), (2, .int body), (3, .int 1), (4, .int rv_14)] := by rw [hrv_14]; exact lv_sub hl [0, 1, 2, 3, 4] rfl
              refine lv_iload hx hb d_Pa_makeStrict_141 (lv_at hl 4 rfl) ?_
              refine lv_if_ne (tgt := 158) hx hb d_Pa_makeStrict_143 (by decide) (fun c_16 => ?_) (fun c_16 => ?_)
              · exact mx_vret (stF := sx_14) hx hb hr hlocks hK hP hD hS hcl hsl (by unfold f_Pa_makeStrict; rw [if_pos c_1, if_pos c_2, if_neg c_3, bnd_r we_14, if_neg c_16]) okx_14 d_Pa_makeStrict_158
              · refine lv_aload_n hx hb d_Pa_makeStrict_146 rfl (lv_at hl 0 rfl) ?_
                refine lv_aload_n hx hb d_Pa_makeStrict_147 rfl (lv_at hl 0 rfl) ?_
                refine va_get (D := (dC, dI)) (ci := 2) (v := .ref ht) (C := R_Pa) (T := T_Pa) (N := 7) hx hb hts u_Pa hown hK hP 0 rfl rfl 0 (by decide) (hts _ L_208) (fun _ h9 => h9) rfl d_Pa_makeStrict_148 ?_
                refine lv_iload_n hx hb d_Pa_makeStrict_151 rfl (lv_at hl 2 rfl) ?_
                refine rd_V (v := (f_Tr_where (sTr sx_14) body)) (As := [.int body]) (rest := [.ref hp]) ⟨hx, hb, hml, hown, hts0⟩ (m_Tr_where l dC dI cI cZ ht ax_14.1 ax_14.2.1 ax_14.2.2.1 ax_14.2.2.2 (sTr sx_14) okx_14.2.1 body) hP hK [7, 8, 9, 10, 11] rfl [0, 1] rfl 0 4 rfl rfl L_857 L_858 L_859 L_85 L_860 ⟨rfl, k_Tr_where⟩ ⟨Nat.le_of_ble_eq_true rfl, Nat.le_of_ble_eq_true rfl⟩ hl.1 ⟨Nat.le_trans (Nat.le_add_right _ _) hcl, Nat.le_trans (Nat.le_add_right _ _) hsl⟩ (Nat.le_of_ble_eq_true rfl) d_Pa_makeStrict_152 rfl ?_
                refine mx_Uv (xm := ⟨"SyntaxTree$Parser", "refuse", "(I)V"⟩) (owner := R_Cu) (As := [.int (f_Tr_where (sTr sx_14) body)]) (rest := []) ⟨hx, hb, hml, hown, hts0⟩ (m_Cu_refuse l hlt dC dI cI cZ sa rk hp hc h a1 a2 a3 a4 ht hq n1 n2 ax_14 sx_14 okx_14 _ (f_Tr_where (sTr sx_14) body) (fun z => hg (by unfold f_Pa_makeStrict; rw [if_pos c_1, if_pos c_2, if_neg c_3, bnd_r we_14, if_pos c_16, bnd_n z]))) hP hD hK hS hA hC hZ hnt hlocks L_536 L_537 L_539 L_460 L_86 L_463 rfl k_Cu_refuse ⟨Nat.le_of_ble_eq_true rfl, Nat.le_of_ble_eq_true rfl⟩ rfl rfl hl.1 (Nat.le_of_ble_eq_true rfl) d_Pa_makeStrict_155 rfl (fun q z => by unfold f_Pa_makeStrict; rw [if_pos c_1, if_pos c_2, if_neg c_3, bnd_r we_14, if_pos c_16, bnd_l z]) hcl hsl (fun ad_17 st_17 H locs w_17 ok_17 e1_17 e2_17 hP hD hS => ?_)
                have hcl := cl_next hcl e1_17
                have hsl := cl_next hsl e2_17
                exact mx_vret (stF := st_17) hx hb hr hlocks hK hP hD hS hcl hsl (by unfold f_Pa_makeStrict; rw [if_pos c_1, if_pos c_2, if_neg c_3, bnd_r we_14, if_pos c_16, bnd_r w_17]) ok_17 d_Pa_makeStrict_158
            · rw [if_neg c_15] at hL_14
              refine lv_iload hx hb d_Pa_makeStrict_87 (lv_at hl 5 rfl) ?_
              refine lv_iload_n hx hb d_Pa_makeStrict_89 rfl (lv_at hl 2 rfl) ?_
              refine lv_icmp_ge (tgt := 141) hx hb d_Pa_makeStrict_90 (by decide) (fun c_18 => ?_) (fun c_18 => ?_)
              · rw [if_pos c_18] at hL_14
                obtain ⟨rv_14, hrv_14⟩ : ∃ z : Int32, z = x4 := ⟨_, rfl⟩
                have we_14 : f_Pa_makeStrict_L82 made body 5000 1 (made + 1) (setCo st ((coF st), (coL st), 1, (coP st), (coW st))) = some (.inr (rv_14, sx_14)) := by rw [hrv_14]; exact hx_14.trans hL_14
                have hl : lv_has ls 6 [(0, .ref hp), (1, .int made), (2, .int body), (3, .int 1), (4, .int rv_14)] := by rw [hrv_14]; exact lv_sub hl [0, 1, 2, 3, 4] rfl
                refine lv_iload hx hb d_Pa_makeStrict_141 (lv_at hl 4 rfl) ?_
                refine lv_if_ne (tgt := 158) hx hb d_Pa_makeStrict_143 (by decide) (fun c_19 => ?_) (fun c_19 => ?_)
                · exact mx_vret (stF := sx_14) hx hb hr hlocks hK hP hD hS hcl hsl (by unfold f_Pa_makeStrict; rw [if_pos c_1, if_pos c_2, if_neg c_3, bnd_r we_14, if_neg c_19]) okx_14 d_Pa_makeStrict_158
                · refine lv_aload_n hx hb d_Pa_makeStrict_146 rfl (lv_at hl 0 rfl) ?_
                  refine lv_aload_n hx hb d_Pa_makeStrict_147 rfl (lv_at hl 0 rfl) ?_
                  refine va_get (D := (dC, dI)) (ci := 2) (v := .ref ht) (C := R_Pa) (T := T_Pa) (N := 7) hx hb hts u_Pa hown hK hP 0 rfl rfl 0 (by decide) (hts _ L_208) (fun _ h9 => h9) rfl d_Pa_makeStrict_148 ?_
                  refine lv_iload_n hx hb d_Pa_makeStrict_151 rfl (lv_at hl 2 rfl) ?_
                  refine rd_V (v := (f_Tr_where (sTr sx_14) body)) (As := [.int body]) (rest := [.ref hp]) ⟨hx, hb, hml, hown, hts0⟩ (m_Tr_where l dC dI cI cZ ht ax_14.1 ax_14.2.1 ax_14.2.2.1 ax_14.2.2.2 (sTr sx_14) okx_14.2.1 body) hP hK [7, 8, 9, 10, 11] rfl [0, 1] rfl 0 4 rfl rfl L_857 L_858 L_859 L_85 L_860 ⟨rfl, k_Tr_where⟩ ⟨Nat.le_of_ble_eq_true rfl, Nat.le_of_ble_eq_true rfl⟩ hl.1 ⟨Nat.le_trans (Nat.le_add_right _ _) hcl, Nat.le_trans (Nat.le_add_right _ _) hsl⟩ (Nat.le_of_ble_eq_true rfl) d_Pa_makeStrict_152 rfl ?_
                  refine mx_Uv (xm := ⟨"SyntaxTree$Parser", "refuse", "(I)V"⟩) (owner := R_Cu) (As := [.int (f_Tr_where (sTr sx_14) body)]) (rest := []) ⟨hx, hb, hml, hown, hts0⟩ (m_Cu_refuse l hlt dC dI cI cZ sa rk hp hc h a1 a2 a3 a4 ht hq n1 n2 ax_14 sx_14 okx_14 _ (f_Tr_where (sTr sx_14) body) (fun z => hg (by unfold f_Pa_makeStrict; rw [if_pos c_1, if_pos c_2, if_neg c_3, bnd_r we_14, if_pos c_19, bnd_n z]))) hP hD hK hS hA hC hZ hnt hlocks L_536 L_537 L_539 L_460 L_86 L_463 rfl k_Cu_refuse ⟨Nat.le_of_ble_eq_true rfl, Nat.le_of_ble_eq_true rfl⟩ rfl rfl hl.1 (Nat.le_of_ble_eq_true rfl) d_Pa_makeStrict_155 rfl (fun q z => by unfold f_Pa_makeStrict; rw [if_pos c_1, if_pos c_2, if_neg c_3, bnd_r we_14, if_pos c_19, bnd_l z]) hcl hsl (fun ad_20 st_20 H locs w_20 ok_20 e1_20 e2_20 hP hD hS => ?_)
                  have hcl := cl_next hcl e1_20
                  have hsl := cl_next hsl e2_20
                  exact mx_vret (stF := st_20) hx hb hr hlocks hK hP hD hS hcl hsl (by unfold f_Pa_makeStrict; rw [if_pos c_1, if_pos c_2, if_neg c_3, bnd_r we_14, if_pos c_19, bnd_r w_20]) ok_20 d_Pa_makeStrict_158
              · rw [if_neg c_18] at hL_14
                refine lv_aload_n hx hb d_Pa_makeStrict_93 rfl (lv_at hl 0 rfl) ?_
                refine lv_aload_n hx hb d_Pa_makeStrict_94 rfl (lv_at hl 0 rfl) ?_
                refine va_get (D := (dC, dI)) (ci := 2) (v := .ref ht) (C := R_Pa) (T := T_Pa) (N := 7) hx hb hts u_Pa hown hK hP 0 rfl rfl 0 (by decide) (hts _ L_208) (fun _ h9 => h9) rfl d_Pa_makeStrict_95 ?_
                refine lv_iload hx hb d_Pa_makeStrict_98 (lv_at hl 5 rfl) ?_
                refine rd_V (v := (f_Tr_where (sTr sx_14) x5)) (As := [.int x5]) (rest := [.ref hp]) ⟨hx, hb, hml, hown, hts0⟩ (m_Tr_where l dC dI cI cZ ht ax_14.1 ax_14.2.1 ax_14.2.2.1 ax_14.2.2.2 (sTr sx_14) okx_14.2.1 x5) hP hK [7, 8, 9, 10, 11] rfl [0, 1] rfl 0 4 rfl rfl L_857 L_858 L_859 L_85 L_860 ⟨rfl, k_Tr_where⟩ ⟨Nat.le_of_ble_eq_true rfl, Nat.le_of_ble_eq_true rfl⟩ hl.1 ⟨Nat.le_trans (Nat.le_add_right _ _) hcl, Nat.le_trans (Nat.le_add_right _ _) hsl⟩ (Nat.le_of_ble_eq_true rfl) d_Pa_makeStrict_100 rfl ?_
                refine rd_V (v := (f_Pa_mayBeBound sx_14 (f_Tr_where (sTr sx_14) x5))) (As := [.int (f_Tr_where (sTr sx_14) x5)]) (rest := []) ⟨hx, hb, hml, hown, hts0⟩ (m_Pa_mayBeBound l dC dI cI cZ hp hc h a1 a2 a3 a4 ht ax_14.1 ax_14.2.1 ax_14.2.2.1 ax_14.2.2.2 hq n1 n2 sx_14 okx_14 (f_Tr_where (sTr sx_14) x5)) hP hK [0, 1, 2, 3, 4, 5, 6, 7, 8, 9, 10, 11, 12, 13, 14] rfl [0, 1] rfl 0 2 rfl rfl L_861 L_863 L_55 L_87 L_864 ⟨rfl, k_Pa_mayBeBound⟩ ⟨Nat.le_of_ble_eq_true rfl, Nat.le_of_ble_eq_true rfl⟩ hl.1 ⟨Nat.le_trans (Nat.le_add_right _ _) hcl, Nat.le_trans (Nat.le_add_right _ _) hsl⟩ (Nat.le_of_ble_eq_true rfl) d_Pa_makeStrict_103 rfl ?_
                refine lv_if_eq (tgt := 132) hx hb d_Pa_makeStrict_106 (by decide) (fun c_21 => ?_) (fun c_21 => ?_)
                · rw [if_pos c_21] at hL_14
                  refine lv_iconst (v := 0) hx hb d_Pa_makeStrict_132 (by decide) ?_
                  refine lv_istore (lv' := [(4, .int 0), (0, .ref hp), (1, .int made), (2, .int body), (3, .int 1), (5, .int x5)]) hx hb d_Pa_makeStrict_133 hl (by decide) rfl (fun ls hl => ?_)
                  refine lv_iinc (v := (x5 + 1)) (lv' := [(5, .int (x5 + 1)), (4, .int 0), (0, .ref hp), (1, .int made), (2, .int body), (3, .int 1)]) hx hb d_Pa_makeStrict_135 hl (k := 5) rfl rfl (by decide) rfl (fun ls hl => ?_)
                  refine lv_goto (tgt := 82) hx hb d_Pa_makeStrict_138 (by decide) ?_
                  exact ih_14 0 (x5 + 1) ax_14 sx_14 okx_14 _ _ ls _ _ hP hD hS (lv_sub hl [2, 3, 4, 5, 1, 0] rfl) hcl hsl hL_14
                · rw [if_neg c_21] at hL_14
                  refine lv_aload_n hx hb d_Pa_makeStrict_109 rfl (lv_at hl 0 rfl) ?_
                  refine lv_iload_n hx hb d_Pa_makeStrict_110 rfl (lv_at hl 1 rfl) ?_
                  refine lv_iload hx hb d_Pa_makeStrict_111 (lv_at hl 5 rfl) ?_
                  refine lv_aload_n hx hb d_Pa_makeStrict_113 rfl (lv_at hl 0 rfl) ?_
                  refine va_get (D := (dC, dI)) (ci := 2) (v := .ref ht) (C := R_Pa) (T := T_Pa) (N := 7) hx hb hts u_Pa hown hK hP 0 rfl rfl 0 (by decide) (hts _ L_208) (fun _ h9 => h9) rfl d_Pa_makeStrict_114 ?_
                  refine lv_iload hx hb d_Pa_makeStrict_117 (lv_at hl 5 rfl) ?_
                  refine rd_V (v := (f_Tr_value (sTr sx_14) x5)) (As := [.int x5]) (rest := [.int x5, .int made, .ref hp]) ⟨hx, hb, hml, hown, hts0⟩ (m_Tr_value l dC dI cI cZ ht ax_14.1 ax_14.2.1 ax_14.2.2.1 ax_14.2.2.2 (sTr sx_14) okx_14.2.1 x5) hP hK [7, 8, 9, 10, 11] rfl [0, 1] rfl 0 4 rfl rfl L_532 L_533 L_534 L_85 L_535 ⟨rfl, k_Tr_value⟩ ⟨Nat.le_of_ble_eq_true rfl, Nat.le_of_ble_eq_true rfl⟩ hl.1 ⟨Nat.le_trans (Nat.le_add_right _ _) hcl, Nat.le_trans (Nat.le_add_right _ _) hsl⟩ (Nat.le_of_ble_eq_true rfl) d_Pa_makeStrict_119 rfl ?_
                  obtain ⟨v_22, w_22⟩ : ∃ v9, (f_Pa_hasParameter sx_14 made x5 (f_Tr_value (sTr sx_14) x5)) = some v9 := bnO_ex ((fun z => hn_14 (hL_14.trans (bnO_n z))))
                  refine rd_V (v := v_22) (As := [.int made, .int x5, .int (f_Tr_value (sTr sx_14) x5)]) (rest := []) ⟨hx, hb, hml, hown, hts0⟩ (m_Pa_hasParameter l dC dI cI cZ hp hc h a1 a2 a3 a4 ht ax_14.1 ax_14.2.1 ax_14.2.2.1 ax_14.2.2.2 hq n1 n2 sx_14 okx_14 made x5 (f_Tr_value (sTr sx_14) x5) v_22 w_22) hP hK [0, 1, 2, 3, 4, 5, 6, 7, 8, 9, 10, 11, 12, 13, 14] rfl [0, 1] rfl 0 2 rfl rfl L_524 L_526 L_9 L_87 L_527 ⟨rfl, k_Pa_hasParameter⟩ ⟨Nat.le_of_ble_eq_true rfl, Nat.le_of_ble_eq_true rfl⟩ hl.1 ⟨Nat.le_trans (Nat.le_add_right _ _) hcl, Nat.le_trans (Nat.le_add_right _ _) hsl⟩ (Nat.le_of_ble_eq_true rfl) d_Pa_makeStrict_122 rfl ?_
                  rw [bnO_s w_22] at hL_14
                  refine lv_if_ne (tgt := 132) hx hb d_Pa_makeStrict_125 (by decide) (fun c_23 => ?_) (fun c_23 => ?_)
                  · rw [if_neg c_23] at hL_14
                    refine lv_iconst (v := 0) hx hb d_Pa_makeStrict_132 (by decide) ?_
                    refine lv_istore (lv' := [(4, .int 0), (0, .ref hp), (1, .int made), (2, .int body), (3, .int 1), (5, .int x5)]) hx hb d_Pa_makeStrict_133 hl (by decide) rfl (fun ls hl => ?_)
                    refine lv_iinc (v := (x5 + 1)) (lv' := [(5, .int (x5 + 1)), (4, .int 0), (0, .ref hp), (1, .int made), (2, .int body), (3, .int 1)]) hx hb d_Pa_makeStrict_135 hl (k := 5) rfl rfl (by decide) rfl (fun ls hl => ?_)
                    refine lv_goto (tgt := 82) hx hb d_Pa_makeStrict_138 (by decide) ?_
                    exact ih_14 0 (x5 + 1) ax_14 sx_14 okx_14 _ _ ls _ _ hP hD hS (lv_sub hl [2, 3, 4, 5, 1, 0] rfl) hcl hsl hL_14
                  · rw [if_pos c_23] at hL_14
                    refine lv_iconst (v := 1) hx hb d_Pa_makeStrict_128 (by decide) ?_
                    refine lv_goto (tgt := 133) hx hb d_Pa_makeStrict_129 (by decide) ?_
                    refine lv_istore (lv' := [(4, .int 1), (0, .ref hp), (1, .int made), (2, .int body), (3, .int 1), (5, .int x5)]) hx hb d_Pa_makeStrict_133 hl (by decide) rfl (fun ls hl => ?_)
                    refine lv_iinc (v := (x5 + 1)) (lv' := [(5, .int (x5 + 1)), (4, .int 1), (0, .ref hp), (1, .int made), (2, .int body), (3, .int 1)]) hx hb d_Pa_makeStrict_135 hl (k := 5) rfl rfl (by decide) rfl (fun ls hl => ?_)
                    refine lv_goto (tgt := 82) hx hb d_Pa_makeStrict_138 (by decide) ?_
                    exact ih_14 1 (x5 + 1) ax_14 sx_14 okx_14 _ _ ls _ _ hP hD hS (lv_sub hl [2, 3, 4, 5, 1, 0] rfl) hcl hsl hL_14
        exact lp_14 5000 1 (made + 1) ad (setCo st ((coF st), (coL st), 1, (coP st), (coW st))) (show okSt (setCo st ((coF st), (coL st), 1, (coP st), (coW st))) from ⟨hst.1, hst.2.1, hst.2.2.1, (Or.inr rfl)⟩) _ _ ls _ _ hP hD hS (lv_sub hl [3, 4, 5, 2, 1, 0] rfl) hcl hsl hx_14.symm
    · refine lv_aload_n hx hb d_Pa_makeStrict_32 rfl (lv_at hl 0 rfl) ?_
      refine va_get (D := (dC, dI)) (ci := 2) (v := .ref ht) (C := R_Pa) (T := T_Pa) (N := 7) hx hb hts u_Pa hown hK hP 0 rfl rfl 0 (by decide) (hts _ L_208) (fun _ h9 => h9) rfl d_Pa_makeStrict_33 ?_
      refine lv_iload_n hx hb d_Pa_makeStrict_36 rfl (lv_at hl 1 rfl) ?_
      refine rd_V (v := (f_Tr_value (sTr st) made)) (As := [.int made]) (rest := []) ⟨hx, hb, hml, hown, hts0⟩ (m_Tr_value l dC dI cI cZ ht ad.1 ad.2.1 ad.2.2.1 ad.2.2.2 (sTr st) hst.2.1 made) hP hK [7, 8, 9, 10, 11] rfl [0, 1] rfl 0 4 rfl rfl L_532 L_533 L_534 L_85 L_535 ⟨rfl, k_Tr_value⟩ ⟨Nat.le_of_ble_eq_true rfl, Nat.le_of_ble_eq_true rfl⟩ hl.1 ⟨Nat.le_trans (Nat.le_add_right _ _) hcl, Nat.le_trans (Nat.le_add_right _ _) hsl⟩ (Nat.le_of_ble_eq_true rfl) d_Pa_makeStrict_37 rfl ?_
      refine lv_if_eq (tgt := 47) hx hb d_Pa_makeStrict_40 (by decide) (fun c_24 => ?_) (fun c_24 => ?_)
      · refine lv_iconst (v := 0) hx hb d_Pa_makeStrict_47 (by decide) ?_
        refine lv_istore_n (lv' := [(3, .int 0), (0, .ref hp), (1, .int made), (2, .int body)]) hx hb d_Pa_makeStrict_48 rfl hl (by decide) rfl (fun ls hl => ?_)
        refine lv_iload_n hx hb d_Pa_makeStrict_49 rfl (lv_at hl 0 rfl) ?_
        refine lv_if_eq (tgt := 70) hx hb d_Pa_makeStrict_50 (by decide) (fun _ => ?_) (fun q9 => absurd q9 (by decide))
        refine lv_iconst (v := 1) hx hb d_Pa_makeStrict_70 (by decide) ?_
        refine lv_goto (tgt := 75) hx hb d_Pa_makeStrict_71 (by decide) ?_
        refine lv_istore (lv' := [(4, .int 1), (3, .int 0), (0, .ref hp), (1, .int made), (2, .int body)]) hx hb d_Pa_makeStrict_75 hl (by decide) rfl (fun ls hl => ?_)
        refine lv_iload_n hx hb d_Pa_makeStrict_77 rfl (lv_at hl 3 rfl) ?_
        refine lv_iconst (v := 1) hx hb d_Pa_makeStrict_78 (by decide) ?_
        refine lv_iadd hx hb d_Pa_makeStrict_79 ?_
        refine lv_istore (lv' := [(5, .int (made + 1)), (4, .int 1), (3, .int 0), (0, .ref hp), (1, .int made), (2, .int body)]) hx hb d_Pa_makeStrict_80 hl (by decide) rfl (fun ls hl => ?_)
        obtain ⟨x_25, hx_25⟩ : ∃ z, f_Pa_makeStrict_L82 made body 5000 1 (made + 1) (setCo st ((coF st), (coL st), 1, (coP st), (coW st))) = z := ⟨_, rfl⟩
        have hn_25 : x_25 ≠ none := (fun z => hg (by unfold f_Pa_makeStrict; rw [if_pos c_1, if_neg c_2, if_pos c_24, bnd_n (hx_25.trans z)]))
        have hX_25 : ∀ q, x_25 = some (.inl q) → (f_Pa_makeStrict st made body) = some (.inl q) := (fun q z => by unfold f_Pa_makeStrict; rw [if_pos c_1, if_neg c_2, if_pos c_24, bnd_l (hx_25.trans z)])
        have lp_25 : ∀ (fu : Nat) (x4 x5 : Int32) (ax_25 : AD) (sx_25 : ST) (okx_25 : okSt sx_25) (H : Heap) (locs : List Loc) (ls : Array Slot) (cells slots : Nat), va_P (dC, dI) cls (wQ cI cZ hp hc h a1 a2 a3 a4 ht hq n1 n2 (ax_25, sx_25)) H → va_D A (wQ cI cZ hp hc h a1 a2 a3 a4 ht hq n1 n2 (ax_25, sx_25)) → va_S A s.heap H locs → lv_has ls 6 [(0, .ref hp), (1, .int made), (2, .int body), (3, .int 0), (4, .int x4), (5, .int x5)] → cells + bC sx_25 ≤ bC st → slots + bS sx_25 ≤ bS st → x_25 = f_Pa_makeStrict_L82 made body fu x4 x5 sx_25 → W p l e (headSpec (wy y_Pa_makeStrict c_Pa_makeStrict 6 none) { frames := 7, cells := bC st, slots := bS st, locals := 103 }).room s m [.ref hp, .int made, .int body].toArray below meth c H locs cells slots (vx_MQ below (va_Qv (poN (f_Pa_makeStrict st made body) st 0) (wB (dC, dI) cI cZ A (wQ cI cZ hp hc h a1 a2 a3 a4 ht hq n1 n2)) A) (xP (dC, dI) cI cZ hp h a1 a2 a3 a4 ht hq n1 n2 (f_Pa_makeStrict st made body) st A) [.ref hp, .int made, .int body].toArray s (mcO st (f_Pa_makeStrict st made body)) (msO st (f_Pa_makeStrict st made body)) A) (F0 m 82 ls []) := by
          intro fu
          induction fu with
          | zero => intro x4 x5 ax_25 sx_25 okx_25 H locs ls cells slots hP hD hS hl hcl hsl hL_25; exact absurd (hL_25.trans rfl) hn_25
          | succ fu_25 ih_25 =>
            intro x4 x5 ax_25 sx_25 okx_25 H locs ls cells slots hP hD hS hl hcl hsl hL_25
            rw [f_Pa_makeStrict_L82] at hL_25
            refine lv_iload hx hb d_Pa_makeStrict_82 (lv_at hl 4 rfl) ?_
            refine lv_if_eq (tgt := 141) hx hb d_Pa_makeStrict_84 (by decide) (fun c_26 => ?_) (fun c_26 => ?_)
            · rw [if_pos c_26] at hL_25
              obtain ⟨rv_25, hrv_25⟩ : ∃ z : Int32, z = x4 := ⟨_, rfl⟩
              have we_25 : f_Pa_makeStrict_L82 made body 5000 1 (made + 1) (setCo st ((coF st), (coL st), 1, (coP st), (coW st))) = some (.inr (rv_25, sx_25)) := by rw [hrv_25]; exact hx_25.trans hL_25
              have hl : lv_has ls 6 [(0, .ref hp), (1, .int made), (2, .int body), (3, .int 0), (4, .int rv_25)] := by rw [hrv_25]; exact lv_sub hl [0, 1, 2, 3, 4] rfl
              refine lv_iload hx hb d_Pa_makeStrict_141 (lv_at hl 4 rfl) ?_
              refine lv_if_ne (tgt := 158) hx hb d_Pa_makeStrict_143 (by decide) (fun c_27 => ?_) (fun c_27 => ?_)
              · exact mx_vret (stF := sx_25) hx hb hr hlocks hK hP hD hS hcl hsl (by unfold f_Pa_makeStrict; rw [if_pos c_1, if_neg c_2, if_pos c_24, bnd_r we_25, if_neg c_27]) okx_25 d_Pa_makeStrict_158
              · refine lv_aload_n hx hb d_Pa_makeStrict_146 rfl (lv_at hl 0 rfl) ?_
                refine lv_aload_n hx hb d_Pa_makeStrict_147 rfl (lv_at hl 0 rfl) ?_
                refine va_get (D := (dC, dI)) (ci := 2) (v := .ref ht) (C := R_Pa) (T := T_Pa) (N := 7) hx hb hts u_Pa hown hK hP 0 rfl rfl 0 (by decide) (hts _ L_208) (fun _ h9 => h9) rfl d_Pa_makeStrict_148 ?_
                refine lv_iload_n hx hb d_Pa_makeStrict_151 rfl (lv_at hl 2 rfl) ?_
                refine rd_V (v := (f_Tr_where (sTr sx_25) body)) (As := [.int body]) (rest := [.ref hp]) ⟨hx, hb, hml, hown, hts0⟩ (m_Tr_where l dC dI cI cZ ht ax_25.1 ax_25.2.1 ax_25.2.2.1 ax_25.2.2.2 (sTr sx_25) okx_25.2.1 body) hP hK [7, 8, 9, 10, 11] rfl [0, 1] rfl 0 4 rfl rfl L_857 L_858 L_859 L_85 L_860 ⟨rfl, k_Tr_where⟩ ⟨Nat.le_of_ble_eq_true rfl, Nat.le_of_ble_eq_true rfl⟩ hl.1 ⟨Nat.le_trans (Nat.le_add_right _ _) hcl, Nat.le_trans (Nat.le_add_right _ _) hsl⟩ (Nat.le_of_ble_eq_true rfl) d_Pa_makeStrict_152 rfl ?_
                refine mx_Uv (xm := ⟨"SyntaxTree$Parser", "refuse", "(I)V"⟩) (owner := R_Cu) (As := [.int (f_Tr_where (sTr sx_25) body)]) (rest := []) ⟨hx, hb, hml, hown, hts0⟩ (m_Cu_refuse l hlt dC dI cI cZ sa rk hp hc h a1 a2 a3 a4 ht hq n1 n2 ax_25 sx_25 okx_25 _ (f_Tr_where (sTr sx_25) body) (fun z => hg (by unfold f_Pa_makeStrict; rw [if_pos c_1, if_neg c_2, if_pos c_24, bnd_r we_25, if_pos c_27, bnd_n z]))) hP hD hK hS hA hC hZ hnt hlocks L_536 L_537 L_539 L_460 L_86 L_463 rfl k_Cu_refuse ⟨Nat.le_of_ble_eq_true rfl, Nat.le_of_ble_eq_true rfl⟩ rfl rfl hl.1 (Nat.le_of_ble_eq_true rfl) d_Pa_makeStrict_155 rfl (fun q z => by unfold f_Pa_makeStrict; rw [if_pos c_1, if_neg c_2, if_pos c_24, bnd_r we_25, if_pos c_27, bnd_l z]) hcl hsl (fun ad_28 st_28 H locs w_28 ok_28 e1_28 e2_28 hP hD hS => ?_)
                have hcl := cl_next hcl e1_28
                have hsl := cl_next hsl e2_28
                exact mx_vret (stF := st_28) hx hb hr hlocks hK hP hD hS hcl hsl (by unfold f_Pa_makeStrict; rw [if_pos c_1, if_neg c_2, if_pos c_24, bnd_r we_25, if_pos c_27, bnd_r w_28]) ok_28 d_Pa_makeStrict_158
            · rw [if_neg c_26] at hL_25
              refine lv_iload hx hb d_Pa_makeStrict_87 (lv_at hl 5 rfl) ?_
              refine lv_iload_n hx hb d_Pa_makeStrict_89 rfl (lv_at hl 2 rfl) ?_
              refine lv_icmp_ge (tgt := 141) hx hb d_Pa_makeStrict_90 (by decide) (fun c_29 => ?_) (fun c_29 => ?_)
              · rw [if_pos c_29] at hL_25
                obtain ⟨rv_25, hrv_25⟩ : ∃ z : Int32, z = x4 := ⟨_, rfl⟩
                have we_25 : f_Pa_makeStrict_L82 made body 5000 1 (made + 1) (setCo st ((coF st), (coL st), 1, (coP st), (coW st))) = some (.inr (rv_25, sx_25)) := by rw [hrv_25]; exact hx_25.trans hL_25
                have hl : lv_has ls 6 [(0, .ref hp), (1, .int made), (2, .int body), (3, .int 0), (4, .int rv_25)] := by rw [hrv_25]; exact lv_sub hl [0, 1, 2, 3, 4] rfl
                refine lv_iload hx hb d_Pa_makeStrict_141 (lv_at hl 4 rfl) ?_
                refine lv_if_ne (tgt := 158) hx hb d_Pa_makeStrict_143 (by decide) (fun c_30 => ?_) (fun c_30 => ?_)
                · exact mx_vret (stF := sx_25) hx hb hr hlocks hK hP hD hS hcl hsl (by unfold f_Pa_makeStrict; rw [if_pos c_1, if_neg c_2, if_pos c_24, bnd_r we_25, if_neg c_30]) okx_25 d_Pa_makeStrict_158
                · refine lv_aload_n hx hb d_Pa_makeStrict_146 rfl (lv_at hl 0 rfl) ?_
                  refine lv_aload_n hx hb d_Pa_makeStrict_147 rfl (lv_at hl 0 rfl) ?_
                  refine va_get (D := (dC, dI)) (ci := 2) (v := .ref ht) (C := R_Pa) (T := T_Pa) (N := 7) hx hb hts u_Pa hown hK hP 0 rfl rfl 0 (by decide) (hts _ L_208) (fun _ h9 => h9) rfl d_Pa_makeStrict_148 ?_
                  refine lv_iload_n hx hb d_Pa_makeStrict_151 rfl (lv_at hl 2 rfl) ?_
                  refine rd_V (v := (f_Tr_where (sTr sx_25) body)) (As := [.int body]) (rest := [.ref hp]) ⟨hx, hb, hml, hown, hts0⟩ (m_Tr_where l dC dI cI cZ ht ax_25.1 ax_25.2.1 ax_25.2.2.1 ax_25.2.2.2 (sTr sx_25) okx_25.2.1 body) hP hK [7, 8, 9, 10, 11] rfl [0, 1] rfl 0 4 rfl rfl L_857 L_858 L_859 L_85 L_860 ⟨rfl, k_Tr_where⟩ ⟨Nat.le_of_ble_eq_true rfl, Nat.le_of_ble_eq_true rfl⟩ hl.1 ⟨Nat.le_trans (Nat.le_add_right _ _) hcl, Nat.le_trans (Nat.le_add_right _ _) hsl⟩ (Nat.le_of_ble_eq_true rfl) d_Pa_makeStrict_152 rfl ?_
                  refine mx_Uv (xm := ⟨"SyntaxTree$Parser", "refuse", "(I)V"⟩) (owner := R_Cu) (As := [.int (f_Tr_where (sTr sx_25) body)]) (rest := []) ⟨hx, hb, hml, hown, hts0⟩ (m_Cu_refuse l hlt dC dI cI cZ sa rk hp hc h a1 a2 a3 a4 ht hq n1 n2 ax_25 sx_25 okx_25 _ (f_Tr_where (sTr sx_25) body) (fun z => hg (by unfold f_Pa_makeStrict; rw [if_pos c_1, if_neg c_2, if_pos c_24, bnd_r we_25, if_pos c_30, bnd_n z]))) hP hD hK hS hA hC hZ hnt hlocks L_536 L_537 L_539 L_460 L_86 L_463 rfl k_Cu_refuse ⟨Nat.le_of_ble_eq_true rfl, Nat.le_of_ble_eq_true rfl⟩ rfl rfl hl.1 (Nat.le_of_ble_eq_true rfl) d_Pa_makeStrict_155 rfl (fun q z => by unfold f_Pa_makeStrict; rw [if_pos c_1, if_neg c_2, if_pos c_24, bnd_r we_25, if_pos c_30, bnd_l z]) hcl hsl (fun ad_31 st_31 H locs w_31 ok_31 e1_31 e2_31 hP hD hS => ?_)
                  have hcl := cl_next hcl e1_31
                  have hsl := cl_next hsl e2_31
                  exact mx_vret (stF := st_31) hx hb hr hlocks hK hP hD hS hcl hsl (by unfold f_Pa_makeStrict; rw [if_pos c_1, if_neg c_2, if_pos c_24, bnd_r we_25, if_pos c_30, bnd_r w_31]) ok_31 d_Pa_makeStrict_158
              · rw [if_neg c_29] at hL_25
                refine lv_aload_n hx hb d_Pa_makeStrict_93 rfl (lv_at hl 0 rfl) ?_
                refine lv_aload_n hx hb d_Pa_makeStrict_94 rfl (lv_at hl 0 rfl) ?_
                refine va_get (D := (dC, dI)) (ci := 2) (v := .ref ht) (C := R_Pa) (T := T_Pa) (N := 7) hx hb hts u_Pa hown hK hP 0 rfl rfl 0 (by decide) (hts _ L_208) (fun _ h9 => h9) rfl d_Pa_makeStrict_95 ?_
                refine lv_iload hx hb d_Pa_makeStrict_98 (lv_at hl 5 rfl) ?_
                refine rd_V (v := (f_Tr_where (sTr sx_25) x5)) (As := [.int x5]) (rest := [.ref hp]) ⟨hx, hb, hml, hown, hts0⟩ (m_Tr_where l dC dI cI cZ ht ax_25.1 ax_25.2.1 ax_25.2.2.1 ax_25.2.2.2 (sTr sx_25) okx_25.2.1 x5) hP hK [7, 8, 9, 10, 11] rfl [0, 1] rfl 0 4 rfl rfl L_857 L_858 L_859 L_85 L_860 ⟨rfl, k_Tr_where⟩ ⟨Nat.le_of_ble_eq_true rfl, Nat.le_of_ble_eq_true rfl⟩ hl.1 ⟨Nat.le_trans (Nat.le_add_right _ _) hcl, Nat.le_trans (Nat.le_add_right _ _) hsl⟩ (Nat.le_of_ble_eq_true rfl) d_Pa_makeStrict_100 rfl ?_
                refine rd_V (v := (f_Pa_mayBeBound sx_25 (f_Tr_where (sTr sx_25) x5))) (As := [.int (f_Tr_where (sTr sx_25) x5)]) (rest := []) ⟨hx, hb, hml, hown, hts0⟩ (m_Pa_mayBeBound l dC dI cI cZ hp hc h a1 a2 a3 a4 ht ax_25.1 ax_25.2.1 ax_25.2.2.1 ax_25.2.2.2 hq n1 n2 sx_25 okx_25 (f_Tr_where (sTr sx_25) x5)) hP hK [0, 1, 2, 3, 4, 5, 6, 7, 8, 9, 10, 11, 12, 13, 14] rfl [0, 1] rfl 0 2 rfl rfl L_861 L_863 L_55 L_87 L_864 ⟨rfl, k_Pa_mayBeBound⟩ ⟨Nat.le_of_ble_eq_true rfl, Nat.le_of_ble_eq_true rfl⟩ hl.1 ⟨Nat.le_trans (Nat.le_add_right _ _) hcl, Nat.le_trans (Nat.le_add_right _ _) hsl⟩ (Nat.le_of_ble_eq_true rfl) d_Pa_makeStrict_103 rfl ?_
                refine lv_if_eq (tgt := 132) hx hb d_Pa_makeStrict_106 (by decide) (fun c_32 => ?_) (fun c_32 => ?_)
                · rw [if_pos c_32] at hL_25
                  refine lv_iconst (v := 0) hx hb d_Pa_makeStrict_132 (by decide) ?_
                  refine lv_istore (lv' := [(4, .int 0), (0, .ref hp), (1, .int made), (2, .int body), (3, .int 0), (5, .int x5)]) hx hb d_Pa_makeStrict_133 hl (by decide) rfl (fun ls hl => ?_)
                  refine lv_iinc (v := (x5 + 1)) (lv' := [(5, .int (x5 + 1)), (4, .int 0), (0, .ref hp), (1, .int made), (2, .int body), (3, .int 0)]) hx hb d_Pa_makeStrict_135 hl (k := 5) rfl rfl (by decide) rfl (fun ls hl => ?_)
                  refine lv_goto (tgt := 82) hx hb d_Pa_makeStrict_138 (by decide) ?_
                  exact ih_25 0 (x5 + 1) ax_25 sx_25 okx_25 _ _ ls _ _ hP hD hS (lv_sub hl [2, 3, 4, 5, 1, 0] rfl) hcl hsl hL_25
                · rw [if_neg c_32] at hL_25
                  refine lv_aload_n hx hb d_Pa_makeStrict_109 rfl (lv_at hl 0 rfl) ?_
                  refine lv_iload_n hx hb d_Pa_makeStrict_110 rfl (lv_at hl 1 rfl) ?_
                  refine lv_iload hx hb d_Pa_makeStrict_111 (lv_at hl 5 rfl) ?_
                  refine lv_aload_n hx hb d_Pa_makeStrict_113 rfl (lv_at hl 0 rfl) ?_
                  refine va_get (D := (dC, dI)) (ci := 2) (v := .ref ht) (C := R_Pa) (T := T_Pa) (N := 7) hx hb hts u_Pa hown hK hP 0 rfl rfl 0 (by decide) (hts _ L_208) (fun _ h9 => h9) rfl d_Pa_makeStrict_114 ?_
                  refine lv_iload hx hb d_Pa_makeStrict_117 (lv_at hl 5 rfl) ?_
                  refine rd_V (v := (f_Tr_value (sTr sx_25) x5)) (As := [.int x5]) (rest := [.int x5, .int made, .ref hp]) ⟨hx, hb, hml, hown, hts0⟩ (m_Tr_value l dC dI cI cZ ht ax_25.1 ax_25.2.1 ax_25.2.2.1 ax_25.2.2.2 (sTr sx_25) okx_25.2.1 x5) hP hK [7, 8, 9, 10, 11] rfl [0, 1] rfl 0 4 rfl rfl L_532 L_533 L_534 L_85 L_535 ⟨rfl, k_Tr_value⟩ ⟨Nat.le_of_ble_eq_true rfl, Nat.le_of_ble_eq_true rfl⟩ hl.1 ⟨Nat.le_trans (Nat.le_add_right _ _) hcl, Nat.le_trans (Nat.le_add_right _ _) hsl⟩ (Nat.le_of_ble_eq_true rfl) d_Pa_makeStrict_119 rfl ?_
                  obtain ⟨v_33, w_33⟩ : ∃ v9, (f_Pa_hasParameter sx_25 made x5 (f_Tr_value (sTr sx_25) x5)) = some v9 := bnO_ex ((fun z => hn_25 (hL_25.trans (bnO_n z))))
                  refine rd_V (v := v_33) (As := [.int made, .int x5, .int (f_Tr_value (sTr sx_25) x5)]) (rest := []) ⟨hx, hb, hml, hown, hts0⟩ (m_Pa_hasParameter l dC dI cI cZ hp hc h a1 a2 a3 a4 ht ax_25.1 ax_25.2.1 ax_25.2.2.1 ax_25.2.2.2 hq n1 n2 sx_25 okx_25 made x5 (f_Tr_value (sTr sx_25) x5) v_33 w_33) hP hK [0, 1, 2, 3, 4, 5, 6, 7, 8, 9, 10, 11, 12, 13, 14] rfl [0, 1] rfl 0 2 rfl rfl L_524 L_526 L_9 L_87 L_527 ⟨rfl, k_Pa_hasParameter⟩ ⟨Nat.le_of_ble_eq_true rfl, Nat.le_of_ble_eq_true rfl⟩ hl.1 ⟨Nat.le_trans (Nat.le_add_right _ _) hcl, Nat.le_trans (Nat.le_add_right _ _) hsl⟩ (Nat.le_of_ble_eq_true rfl) d_Pa_makeStrict_122 rfl ?_
                  rw [bnO_s w_33] at hL_25
                  refine lv_if_ne (tgt := 132) hx hb d_Pa_makeStrict_125 (by decide) (fun c_34 => ?_) (fun c_34 => ?_)
                  · rw [if_neg c_34] at hL_25
                    refine lv_iconst (v := 0) hx hb d_Pa_makeStrict_132 (by decide) ?_
                    refine lv_istore (lv' := [(4, .int 0), (0, .ref hp), (1, .int made), (2, .int body), (3, .int 0), (5, .int x5)]) hx hb d_Pa_makeStrict_133 hl (by decide) rfl (fun ls hl => ?_)
                    refine lv_iinc (v := (x5 + 1)) (lv' := [(5, .int (x5 + 1)), (4, .int 0), (0, .ref hp), (1, .int made), (2, .int body), (3, .int 0)]) hx hb d_Pa_makeStrict_135 hl (k := 5) rfl rfl (by decide) rfl (fun ls hl => ?_)
                    refine lv_goto (tgt := 82) hx hb d_Pa_makeStrict_138 (by decide) ?_
                    exact ih_25 0 (x5 + 1) ax_25 sx_25 okx_25 _ _ ls _ _ hP hD hS (lv_sub hl [2, 3, 4, 5, 1, 0] rfl) hcl hsl hL_25
                  · rw [if_pos c_34] at hL_25
                    refine lv_iconst (v := 1) hx hb d_Pa_makeStrict_128 (by decide) ?_
                    refine lv_goto (tgt := 133) hx hb d_Pa_makeStrict_129 (by decide) ?_
                    refine lv_istore (lv' := [(4, .int 1), (0, .ref hp), (1, .int made), (2, .int body), (3, .int 0), (5, .int x5)]) hx hb d_Pa_makeStrict_133 hl (by decide) rfl (fun ls hl => ?_)
                    refine lv_iinc (v := (x5 + 1)) (lv' := [(5, .int (x5 + 1)), (4, .int 1), (0, .ref hp), (1, .int made), (2, .int body), (3, .int 0)]) hx hb d_Pa_makeStrict_135 hl (k := 5) rfl rfl (by decide) rfl (fun ls hl => ?_)
                    refine lv_goto (tgt := 82) hx hb d_Pa_makeStrict_138 (by decide) ?_
                    exact ih_25 1 (x5 + 1) ax_25 sx_25 okx_25 _ _ ls _ _ hP hD hS (lv_sub hl [2, 3, 4, 5, 1, 0] rfl) hcl hsl hL_25
        exact lp_25 5000 1 (made + 1) ad (setCo st ((coF st), (coL st), 1, (coP st), (coW st))) (show okSt (setCo st ((coF st), (coL st), 1, (coP st), (coW st))) from ⟨hst.1, hst.2.1, hst.2.2.1, (Or.inr rfl)⟩) _ _ ls _ _ hP hD hS (lv_sub hl [3, 4, 5, 2, 1, 0] rfl) hcl hsl hx_25.symm
      · refine lv_iconst (v := 1) hx hb d_Pa_makeStrict_43 (by decide) ?_
        refine lv_goto (tgt := 48) hx hb d_Pa_makeStrict_44 (by decide) ?_
        refine lv_istore_n (lv' := [(3, .int 1), (0, .ref hp), (1, .int made), (2, .int body)]) hx hb d_Pa_makeStrict_48 rfl hl (by decide) rfl (fun ls hl => ?_)
        refine lv_iload_n hx hb d_Pa_makeStrict_49 rfl (lv_at hl 0 rfl) ?_
        refine lv_if_eq (tgt := 70) hx hb d_Pa_makeStrict_50 (by decide) (fun q9 => absurd q9 (by decide)) (fun _ => ?_)
        refine lv_aload_n hx hb d_Pa_makeStrict_53 rfl (lv_at hl 1 rfl) ?_
        refine lv_aload_n hx hb d_Pa_makeStrict_54 rfl (lv_at hl 1 rfl) ?_
        refine va_get (D := (dC, dI)) (ci := 2) (v := .ref ht) (C := R_Pa) (T := T_Pa) (N := 7) hx hb hts u_Pa hown hK hP 0 rfl rfl 0 (by decide) (hts _ L_208) (fun _ h9 => h9) rfl d_Pa_makeStrict_55 ?_
        refine lv_iload_n hx hb d_Pa_makeStrict_58 rfl (lv_at hl 2 rfl) ?_
        refine rd_V (v := (f_Tr_where (sTr st) made)) (As := [.int made]) (rest := [.ref hp]) ⟨hx, hb, hml, hown, hts0⟩ (m_Tr_where l dC dI cI cZ ht ad.1 ad.2.1 ad.2.2.1 ad.2.2.2 (sTr st) hst.2.1 made) hP hK [7, 8, 9, 10, 11] rfl [0, 1] rfl 0 4 rfl rfl L_857 L_858 L_859 L_85 L_860 ⟨rfl, k_Tr_where⟩ ⟨Nat.le_of_ble_eq_true rfl, Nat.le_of_ble_eq_true rfl⟩ hl.1 ⟨Nat.le_trans (Nat.le_add_right _ _) hcl, Nat.le_trans (Nat.le_add_right _ _) hsl⟩ (Nat.le_of_ble_eq_true rfl) d_Pa_makeStrict_59 rfl ?_
        refine lv_iconst (v := 1) hx hb d_Pa_makeStrict_62 (by decide) ?_
        refine lv_iadd hx hb d_Pa_makeStrict_63 ?_
        refine rd_V (v := (f_Pa_mayBeBound (setCo st ((coF st), (coL st), 1, (coP st), (coW st))) ((f_Tr_where (sTr st) made) + 1))) (As := [.int ((f_Tr_where (sTr st) made) + 1)]) (rest := []) ⟨hx, hb, hml, hown, hts0⟩ (m_Pa_mayBeBound l dC dI cI cZ hp hc h a1 a2 a3 a4 ht ad.1 ad.2.1 ad.2.2.1 ad.2.2.2 hq n1 n2 (setCo st ((coF st), (coL st), 1, (coP st), (coW st))) (show okSt (setCo st ((coF st), (coL st), 1, (coP st), (coW st))) from ⟨hst.1, hst.2.1, hst.2.2.1, (Or.inr rfl)⟩) ((f_Tr_where (sTr st) made) + 1)) hP hK [0, 1, 2, 3, 4, 5, 6, 7, 8, 9, 10, 11, 12, 13, 14] rfl [0, 1] rfl 0 2 rfl rfl L_861 L_863 L_55 L_87 L_864 ⟨rfl, k_Pa_mayBeBound⟩ ⟨Nat.le_of_ble_eq_true rfl, Nat.le_of_ble_eq_true rfl⟩ hl.1 ⟨Nat.le_trans (Nat.le_add_right _ _) hcl, Nat.le_trans (Nat.le_add_right _ _) hsl⟩ (Nat.le_of_ble_eq_true rfl) d_Pa_makeStrict_64 rfl ?_
        refine lv_if_eq (tgt := 74) hx hb d_Pa_makeStrict_67 (by decide) (fun c_35 => ?_) (fun c_35 => ?_)
        · refine lv_iconst (v := 0) hx hb d_Pa_makeStrict_74 (by decide) ?_
          refine lv_istore (lv' := [(4, .int 0), (3, .int 1), (0, .ref hp), (1, .int made), (2, .int body)]) hx hb d_Pa_makeStrict_75 hl (by decide) rfl (fun ls hl => ?_)
          refine lv_iload_n hx hb d_Pa_makeStrict_77 rfl (lv_at hl 3 rfl) ?_
          refine lv_iconst (v := 1) hx hb d_Pa_makeStrict_78 (by decide) ?_
          refine lv_iadd hx hb d_Pa_makeStrict_79 ?_
          refine lv_istore (lv' := [(5, .int (made + 1)), (4, .int 0), (3, .int 1), (0, .ref hp), (1, .int made), (2, .int body)]) hx hb d_Pa_makeStrict_80 hl (by decide) rfl (fun ls hl => ?_)
          obtain ⟨x_36, hx_36⟩ : ∃ z, f_Pa_makeStrict_L82 made body 5000 0 (made + 1) (setCo st ((coF st), (coL st), 1, (coP st), (coW st))) = z := ⟨_, rfl⟩
          have hn_36 : x_36 ≠ none := (fun z => hg (by unfold f_Pa_makeStrict; rw [if_pos c_1, if_neg c_2, if_neg c_24, if_pos c_35, bnd_n (hx_36.trans z)]))
          have hX_36 : ∀ q, x_36 = some (.inl q) → (f_Pa_makeStrict st made body) = some (.inl q) := (fun q z => by unfold f_Pa_makeStrict; rw [if_pos c_1, if_neg c_2, if_neg c_24, if_pos c_35, bnd_l (hx_36.trans z)])
          have lp_36 : ∀ (fu : Nat) (x4 x5 : Int32) (ax_36 : AD) (sx_36 : ST) (okx_36 : okSt sx_36) (H : Heap) (locs : List Loc) (ls : Array Slot) (cells slots : Nat), va_P (dC, dI) cls (wQ cI cZ hp hc h a1 a2 a3 a4 ht hq n1 n2 (ax_36, sx_36)) H → va_D A (wQ cI cZ hp hc h a1 a2 a3 a4 ht hq n1 n2 (ax_36, sx_36)) → va_S A s.heap H locs → lv_has ls 6 [(0, .ref hp), (1, .int made), (2, .int body), (3, .int 1), (4, .int x4), (5, .int x5)] → cells + bC sx_36 ≤ bC st → slots + bS sx_36 ≤ bS st → x_36 = f_Pa_makeStrict_L82 made body fu x4 x5 sx_36 → W p l e (headSpec (wy y_Pa_makeStrict c_Pa_makeStrict 6 none) { frames := 7, cells := bC st, slots := bS st, locals := 103 }).room s m [.ref hp, .int made, .int body].toArray below meth c H locs cells slots (vx_MQ below (va_Qv (poN (f_Pa_makeStrict st made body) st 0) (wB (dC, dI) cI cZ A (wQ cI cZ hp hc h a1 a2 a3 a4 ht hq n1 n2)) A) (xP (dC, dI) cI cZ hp h a1 a2 a3 a4 ht hq n1 n2 (f_Pa_makeStrict st made body) st A) [.ref hp, .int made, .int body].toArray s (mcO st (f_Pa_makeStrict st made body)) (msO st (f_Pa_makeStrict st made body)) A) (F0 m 82 ls []) := by
            intro fu
            induction fu with
            | zero => intro x4 x5 ax_36 sx_36 okx_36 H locs ls cells slots hP hD hS hl hcl hsl hL_36; exact absurd (hL_36.trans rfl) hn_36
            | succ fu_36 ih_36 =>
              intro x4 x5 ax_36 sx_36 okx_36 H locs ls cells slots hP hD hS hl hcl hsl hL_36
              rw [f_Pa_makeStrict_L82] at hL_36
              refine lv_iload hx hb d_Pa_makeStrict_82 (lv_at hl 4 rfl) ?_
              refine lv_if_eq (tgt := 141) hx hb d_Pa_makeStrict_84 (by decide) (fun c_37 => ?_) (fun c_37 => ?_)
              · rw [if_pos c_37] at hL_36
                obtain ⟨rv_36, hrv_36⟩ : ∃ z : Int32, z = x4 := ⟨_, rfl⟩
                have we_36 : f_Pa_makeStrict_L82 made body 5000 0 (made + 1) (setCo st ((coF st), (coL st), 1, (coP st), (coW st))) = some (.inr (rv_36, sx_36)) := by rw [hrv_36]; exact hx_36.trans hL_36
                have hl : lv_has ls 6 [(0, .ref hp), (1, .int made), (2, .int body), (3, .int 1), (4, .int rv_36)] := by rw [hrv_36]; exact lv_sub hl [0, 1, 2, 3, 4] rfl
                refine lv_iload hx hb d_Pa_makeStrict_141 (lv_at hl 4 rfl) ?_
                refine lv_if_ne (tgt := 158) hx hb d_Pa_makeStrict_143 (by decide) (fun c_38 => ?_) (fun c_38 => ?_)
                · exact mx_vret (stF := sx_36) hx hb hr hlocks hK hP hD hS hcl hsl (by unfold f_Pa_makeStrict; rw [if_pos c_1, if_neg c_2, if_neg c_24, if_pos c_35, bnd_r we_36, if_neg c_38]) okx_36 d_Pa_makeStrict_158
                · refine lv_aload_n hx hb d_Pa_makeStrict_146 rfl (lv_at hl 0 rfl) ?_
                  refine lv_aload_n hx hb d_Pa_makeStrict_147 rfl (lv_at hl 0 rfl) ?_
                  refine va_get (D := (dC, dI)) (ci := 2) (v := .ref ht) (C := R_Pa) (T := T_Pa) (N := 7) hx hb hts u_Pa hown hK hP 0 rfl rfl 0 (by decide) (hts _ L_208) (fun _ h9 => h9) rfl d_Pa_makeStrict_148 ?_
                  refine lv_iload_n hx hb d_Pa_makeStrict_151 rfl (lv_at hl 2 rfl) ?_
                  refine rd_V (v := (f_Tr_where (sTr sx_36) body)) (As := [.int body]) (rest := [.ref hp]) ⟨hx, hb, hml, hown, hts0⟩ (m_Tr_where l dC dI cI cZ ht ax_36.1 ax_36.2.1 ax_36.2.2.1 ax_36.2.2.2 (sTr sx_36) okx_36.2.1 body) hP hK [7, 8, 9, 10, 11] rfl [0, 1] rfl 0 4 rfl rfl L_857 L_858 L_859 L_85 L_860 ⟨rfl, k_Tr_where⟩ ⟨Nat.le_of_ble_eq_true rfl, Nat.le_of_ble_eq_true rfl⟩ hl.1 ⟨Nat.le_trans (Nat.le_add_right _ _) hcl, Nat.le_trans (Nat.le_add_right _ _) hsl⟩ (Nat.le_of_ble_eq_true rfl) d_Pa_makeStrict_152 rfl ?_
                  refine mx_Uv (xm := ⟨"SyntaxTree$Parser", "refuse", "(I)V"⟩) (owner := R_Cu) (As := [.int (f_Tr_where (sTr sx_36) body)]) (rest := []) ⟨hx, hb, hml, hown, hts0⟩ (m_Cu_refuse l hlt dC dI cI cZ sa rk hp hc h a1 a2 a3 a4 ht hq n1 n2 ax_36 sx_36 okx_36 _ (f_Tr_where (sTr sx_36) body) (fun z => hg (by unfold f_Pa_makeStrict; rw [if_pos c_1, if_neg c_2, if_neg c_24, if_pos c_35, bnd_r we_36, if_pos c_38, bnd_n z]))) hP hD hK hS hA hC hZ hnt hlocks L_536 L_537 L_539 L_460 L_86 L_463 rfl k_Cu_refuse ⟨Nat.le_of_ble_eq_true rfl, Nat.le_of_ble_eq_true rfl⟩ rfl rfl hl.1 (Nat.le_of_ble_eq_true rfl) d_Pa_makeStrict_155 rfl (fun q z => by unfold f_Pa_makeStrict; rw [if_pos c_1, if_neg c_2, if_neg c_24, if_pos c_35, bnd_r we_36, if_pos c_38, bnd_l z]) hcl hsl (fun ad_39 st_39 H locs w_39 ok_39 e1_39 e2_39 hP hD hS => ?_)
                  have hcl := cl_next hcl e1_39
                  have hsl := cl_next hsl e2_39
                  exact mx_vret (stF := st_39) hx hb hr hlocks hK hP hD hS hcl hsl (by unfold f_Pa_makeStrict; rw [if_pos c_1, if_neg c_2, if_neg c_24, if_pos c_35, bnd_r we_36, if_pos c_38, bnd_r w_39]) ok_39 d_Pa_makeStrict_158
              · rw [if_neg c_37] at hL_36
                refine lv_iload hx hb d_Pa_makeStrict_87 (lv_at hl 5 rfl) ?_
                refine lv_iload_n hx hb d_Pa_makeStrict_89 rfl (lv_at hl 2 rfl) ?_
                refine lv_icmp_ge (tgt := 141) hx hb d_Pa_makeStrict_90 (by decide) (fun c_40 => ?_) (fun c_40 => ?_)
                · rw [if_pos c_40] at hL_36
                  obtain ⟨rv_36, hrv_36⟩ : ∃ z : Int32, z = x4 := ⟨_, rfl⟩
                  have we_36 : f_Pa_makeStrict_L82 made body 5000 0 (made + 1) (setCo st ((coF st), (coL st), 1, (coP st), (coW st))) = some (.inr (rv_36, sx_36)) := by rw [hrv_36]; exact hx_36.trans hL_36
                  have hl : lv_has ls 6 [(0, .ref hp), (1, .int made), (2, .int body), (3, .int 1), (4, .int rv_36)] := by rw [hrv_36]; exact lv_sub hl [0, 1, 2, 3, 4] rfl
                  refine lv_iload hx hb d_Pa_makeStrict_141 (lv_at hl 4 rfl) ?_
                  refine lv_if_ne (tgt := 158) hx hb d_Pa_makeStrict_143 (by decide) (fun c_41 => ?_) (fun c_41 => ?_)
                  · exact mx_vret (stF := sx_36) hx hb hr hlocks hK hP hD hS hcl hsl (by unfold f_Pa_makeStrict; rw [if_pos c_1, if_neg c_2, if_neg c_24, if_pos c_35, bnd_r we_36, if_neg c_41]) okx_36 d_Pa_makeStrict_158
                  · refine lv_aload_n hx hb d_Pa_makeStrict_146 rfl (lv_at hl 0 rfl) ?_
                    refine lv_aload_n hx hb d_Pa_makeStrict_147 rfl (lv_at hl 0 rfl) ?_
                    refine va_get (D := (dC, dI)) (ci := 2) (v := .ref ht) (C := R_Pa) (T := T_Pa) (N := 7) hx hb hts u_Pa hown hK hP 0 rfl rfl 0 (by decide) (hts _ L_208) (fun _ h9 => h9) rfl d_Pa_makeStrict_148 ?_
                    refine lv_iload_n hx hb d_Pa_makeStrict_151 rfl (lv_at hl 2 rfl) ?_
                    refine rd_V (v := (f_Tr_where (sTr sx_36) body)) (As := [.int body]) (rest := [.ref hp]) ⟨hx, hb, hml, hown, hts0⟩ (m_Tr_where l dC dI cI cZ ht ax_36.1 ax_36.2.1 ax_36.2.2.1 ax_36.2.2.2 (sTr sx_36) okx_36.2.1 body) hP hK [7, 8, 9, 10, 11] rfl [0, 1] rfl 0 4 rfl rfl L_857 L_858 L_859 L_85 L_860 ⟨rfl, k_Tr_where⟩ ⟨Nat.le_of_ble_eq_true rfl, Nat.le_of_ble_eq_true rfl⟩ hl.1 ⟨Nat.le_trans (Nat.le_add_right _ _) hcl, Nat.le_trans (Nat.le_add_right _ _) hsl⟩ (Nat.le_of_ble_eq_true rfl) d_Pa_makeStrict_152 rfl ?_
                    refine mx_Uv (xm := ⟨"SyntaxTree$Parser", "refuse", "(I)V"⟩) (owner := R_Cu) (As := [.int (f_Tr_where (sTr sx_36) body)]) (rest := []) ⟨hx, hb, hml, hown, hts0⟩ (m_Cu_refuse l hlt dC dI cI cZ sa rk hp hc h a1 a2 a3 a4 ht hq n1 n2 ax_36 sx_36 okx_36 _ (f_Tr_where (sTr sx_36) body) (fun z => hg (by unfold f_Pa_makeStrict; rw [if_pos c_1, if_neg c_2, if_neg c_24, if_pos c_35, bnd_r we_36, if_pos c_41, bnd_n z]))) hP hD hK hS hA hC hZ hnt hlocks L_536 L_537 L_539 L_460 L_86 L_463 rfl k_Cu_refuse ⟨Nat.le_of_ble_eq_true rfl, Nat.le_of_ble_eq_true rfl⟩ rfl rfl hl.1 (Nat.le_of_ble_eq_true rfl) d_Pa_makeStrict_155 rfl (fun q z => by unfold f_Pa_makeStrict; rw [if_pos c_1, if_neg c_2, if_neg c_24, if_pos c_35, bnd_r we_36, if_pos c_41, bnd_l z]) hcl hsl (fun ad_42 st_42 H locs w_42 ok_42 e1_42 e2_42 hP hD hS => ?_)
                    have hcl := cl_next hcl e1_42
                    have hsl := cl_next hsl e2_42
                    exact mx_vret (stF := st_42) hx hb hr hlocks hK hP hD hS hcl hsl (by unfold f_Pa_makeStrict; rw [if_pos c_1, if_neg c_2, if_neg c_24, if_pos c_35, bnd_r we_36, if_pos c_41, bnd_r w_42]) ok_42 d_Pa_makeStrict_158
                · rw [if_neg c_40] at hL_36
                  refine lv_aload_n hx hb d_Pa_makeStrict_93 rfl (lv_at hl 0 rfl) ?_
                  refine lv_aload_n hx hb d_Pa_makeStrict_94 rfl (lv_at hl 0 rfl) ?_
                  refine va_get (D := (dC, dI)) (ci := 2) (v := .ref ht) (C := R_Pa) (T := T_Pa) (N := 7) hx hb hts u_Pa hown hK hP 0 rfl rfl 0 (by decide) (hts _ L_208) (fun _ h9 => h9) rfl d_Pa_makeStrict_95 ?_
                  refine lv_iload hx hb d_Pa_makeStrict_98 (lv_at hl 5 rfl) ?_
                  refine rd_V (v := (f_Tr_where (sTr sx_36) x5)) (As := [.int x5]) (rest := [.ref hp]) ⟨hx, hb, hml, hown, hts0⟩ (m_Tr_where l dC dI cI cZ ht ax_36.1 ax_36.2.1 ax_36.2.2.1 ax_36.2.2.2 (sTr sx_36) okx_36.2.1 x5) hP hK [7, 8, 9, 10, 11] rfl [0, 1] rfl 0 4 rfl rfl L_857 L_858 L_859 L_85 L_860 ⟨rfl, k_Tr_where⟩ ⟨Nat.le_of_ble_eq_true rfl, Nat.le_of_ble_eq_true rfl⟩ hl.1 ⟨Nat.le_trans (Nat.le_add_right _ _) hcl, Nat.le_trans (Nat.le_add_right _ _) hsl⟩ (Nat.le_of_ble_eq_true rfl) d_Pa_makeStrict_100 rfl ?_
                  refine rd_V (v := (f_Pa_mayBeBound sx_36 (f_Tr_where (sTr sx_36) x5))) (As := [.int (f_Tr_where (sTr sx_36) x5)]) (rest := []) ⟨hx, hb, hml, hown, hts0⟩ (m_Pa_mayBeBound l dC dI cI cZ hp hc h a1 a2 a3 a4 ht ax_36.1 ax_36.2.1 ax_36.2.2.1 ax_36.2.2.2 hq n1 n2 sx_36 okx_36 (f_Tr_where (sTr sx_36) x5)) hP hK [0, 1, 2, 3, 4, 5, 6, 7, 8, 9, 10, 11, 12, 13, 14] rfl [0, 1] rfl 0 2 rfl rfl L_861 L_863 L_55 L_87 L_864 ⟨rfl, k_Pa_mayBeBound⟩ ⟨Nat.le_of_ble_eq_true rfl, Nat.le_of_ble_eq_true rfl⟩ hl.1 ⟨Nat.le_trans (Nat.le_add_right _ _) hcl, Nat.le_trans (Nat.le_add_right _ _) hsl⟩ (Nat.le_of_ble_eq_true rfl) d_Pa_makeStrict_103 rfl ?_
                  refine lv_if_eq (tgt := 132) hx hb d_Pa_makeStrict_106 (by decide) (fun c_43 => ?_) (fun c_43 => ?_)
                  · rw [if_pos c_43] at hL_36
                    refine lv_iconst (v := 0) hx hb d_Pa_makeStrict_132 (by decide) ?_
                    refine lv_istore (lv' := [(4, .int 0), (0, .ref hp), (1, .int made), (2, .int body), (3, .int 1), (5, .int x5)]) hx hb d_Pa_makeStrict_133 hl (by decide) rfl (fun ls hl => ?_)
                    refine lv_iinc (v := (x5 + 1)) (lv' := [(5, .int (x5 + 1)), (4, .int 0), (0, .ref hp), (1, .int made), (2, .int body), (3, .int 1)]) hx hb d_Pa_makeStrict_135 hl (k := 5) rfl rfl (by decide) rfl (fun ls hl => ?_)
                    refine lv_goto (tgt := 82) hx hb d_Pa_makeStrict_138 (by decide) ?_
                    exact ih_36 0 (x5 + 1) ax_36 sx_36 okx_36 _ _ ls _ _ hP hD hS (lv_sub hl [2, 3, 4, 5, 1, 0] rfl) hcl hsl hL_36
                  · rw [if_neg c_43] at hL_36
                    refine lv_aload_n hx hb d_Pa_makeStrict_109 rfl (lv_at hl 0 rfl) ?_
                    refine lv_iload_n hx hb d_Pa_makeStrict_110 rfl (lv_at hl 1 rfl) ?_
                    refine lv_iload hx hb d_Pa_makeStrict_111 (lv_at hl 5 rfl) ?_
                    refine lv_aload_n hx hb d_Pa_makeStrict_113 rfl (lv_at hl 0 rfl) ?_
                    refine va_get (D := (dC, dI)) (ci := 2) (v := .ref ht) (C := R_Pa) (T := T_Pa) (N := 7) hx hb hts u_Pa hown hK hP 0 rfl rfl 0 (by decide) (hts _ L_208) (fun _ h9 => h9) rfl d_Pa_makeStrict_114 ?_
                    refine lv_iload hx hb d_Pa_makeStrict_117 (lv_at hl 5 rfl) ?_
                    refine rd_V (v := (f_Tr_value (sTr sx_36) x5)) (As := [.int x5]) (rest := [.int x5, .int made, .ref hp]) ⟨hx, hb, hml, hown, hts0⟩ (m_Tr_value l dC dI cI cZ ht ax_36.1 ax_36.2.1 ax_36.2.2.1 ax_36.2.2.2 (sTr sx_36) okx_36.2.1 x5) hP hK [7, 8, 9, 10, 11] rfl [0, 1] rfl 0 4 rfl rfl L_532 L_533 L_534 L_85 L_535 ⟨rfl, k_Tr_value⟩ ⟨Nat.le_of_ble_eq_true rfl, Nat.le_of_ble_eq_true rfl⟩ hl.1 ⟨Nat.le_trans (Nat.le_add_right _ _) hcl, Nat.le_trans (Nat.le_add_right _ _) hsl⟩ (Nat.le_of_ble_eq_true rfl) d_Pa_makeStrict_119 rfl ?_
                    obtain ⟨v_44, w_44⟩ : ∃ v9, (f_Pa_hasParameter sx_36 made x5 (f_Tr_value (sTr sx_36) x5)) = some v9 := bnO_ex ((fun z => hn_36 (hL_36.trans (bnO_n z))))
                    refine rd_V (v := v_44) (As := [.int made, .int x5, .int (f_Tr_value (sTr sx_36) x5)]) (rest := []) ⟨hx, hb, hml, hown, hts0⟩ (m_Pa_hasParameter l dC dI cI cZ hp hc h a1 a2 a3 a4 ht ax_36.1 ax_36.2.1 ax_36.2.2.1 ax_36.2.2.2 hq n1 n2 sx_36 okx_36 made x5 (f_Tr_value (sTr sx_36) x5) v_44 w_44) hP hK [0, 1, 2, 3, 4, 5, 6, 7, 8, 9, 10, 11, 12, 13, 14] rfl [0, 1] rfl 0 2 rfl rfl L_524 L_526 L_9 L_87 L_527 ⟨rfl, k_Pa_hasParameter⟩ ⟨Nat.le_of_ble_eq_true rfl, Nat.le_of_ble_eq_true rfl⟩ hl.1 ⟨Nat.le_trans (Nat.le_add_right _ _) hcl, Nat.le_trans (Nat.le_add_right _ _) hsl⟩ (Nat.le_of_ble_eq_true rfl) d_Pa_makeStrict_122 rfl ?_
                    rw [bnO_s w_44] at hL_36
                    refine lv_if_ne (tgt := 132) hx hb d_Pa_makeStrict_125 (by decide) (fun c_45 => ?_) (fun c_45 => ?_)
                    · rw [if_neg c_45] at hL_36
                      refine lv_iconst (v := 0) hx hb d_Pa_makeStrict_132 (by decide) ?_
                      refine lv_istore (lv' := [(4, .int 0), (0, .ref hp), (1, .int made), (2, .int body), (3, .int 1), (5, .int x5)]) hx hb d_Pa_makeStrict_133 hl (by decide) rfl (fun ls hl => ?_)
                      refine lv_iinc (v := (x5 + 1)) (lv' := [(5, .int (x5 + 1)), (4, .int 0), (0, .ref hp), (1, .int made), (2, .int body), (3, .int 1)]) hx hb d_Pa_makeStrict_135 hl (k := 5) rfl rfl (by decide) rfl (fun ls hl => ?_)
                      refine lv_goto (tgt := 82) hx hb d_Pa_makeStrict_138 (by decide) ?_
                      exact ih_36 0 (x5 + 1) ax_36 sx_36 okx_36 _ _ ls _ _ hP hD hS (lv_sub hl [2, 3, 4, 5, 1, 0] rfl) hcl hsl hL_36
                    · rw [if_pos c_45] at hL_36
                      refine lv_iconst (v := 1) hx hb d_Pa_makeStrict_128 (by decide) ?_
                      refine lv_goto (tgt := 133) hx hb d_Pa_makeStrict_129 (by decide) ?_
                      refine lv_istore (lv' := [(4, .int 1), (0, .ref hp), (1, .int made), (2, .int body), (3, .int 1), (5, .int x5)]) hx hb d_Pa_makeStrict_133 hl (by decide) rfl (fun ls hl => ?_)
                      refine lv_iinc (v := (x5 + 1)) (lv' := [(5, .int (x5 + 1)), (4, .int 1), (0, .ref hp), (1, .int made), (2, .int body), (3, .int 1)]) hx hb d_Pa_makeStrict_135 hl (k := 5) rfl rfl (by decide) rfl (fun ls hl => ?_)
                      refine lv_goto (tgt := 82) hx hb d_Pa_makeStrict_138 (by decide) ?_
                      exact ih_36 1 (x5 + 1) ax_36 sx_36 okx_36 _ _ ls _ _ hP hD hS (lv_sub hl [2, 3, 4, 5, 1, 0] rfl) hcl hsl hL_36
          exact lp_36 5000 0 (made + 1) ad (setCo st ((coF st), (coL st), 1, (coP st), (coW st))) (show okSt (setCo st ((coF st), (coL st), 1, (coP st), (coW st))) from ⟨hst.1, hst.2.1, hst.2.2.1, (Or.inr rfl)⟩) _ _ ls _ _ hP hD hS (lv_sub hl [3, 4, 5, 2, 1, 0] rfl) hcl hsl hx_36.symm
        · refine lv_iconst (v := 1) hx hb d_Pa_makeStrict_70 (by decide) ?_
          refine lv_goto (tgt := 75) hx hb d_Pa_makeStrict_71 (by decide) ?_
          refine lv_istore (lv' := [(4, .int 1), (3, .int 1), (0, .ref hp), (1, .int made), (2, .int body)]) hx hb d_Pa_makeStrict_75 hl (by decide) rfl (fun ls hl => ?_)
          refine lv_iload_n hx hb d_Pa_makeStrict_77 rfl (lv_at hl 3 rfl) ?_
          refine lv_iconst (v := 1) hx hb d_Pa_makeStrict_78 (by decide) ?_
          refine lv_iadd hx hb d_Pa_makeStrict_79 ?_
          refine lv_istore (lv' := [(5, .int (made + 1)), (4, .int 1), (3, .int 1), (0, .ref hp), (1, .int made), (2, .int body)]) hx hb d_Pa_makeStrict_80 hl (by decide) rfl (fun ls hl => ?_)
          obtain ⟨x_46, hx_46⟩ : ∃ z, f_Pa_makeStrict_L82 made body 5000 1 (made + 1) (setCo st ((coF st), (coL st), 1, (coP st), (coW st))) = z := ⟨_, rfl⟩
          have hn_46 : x_46 ≠ none := (fun z => hg (by unfold f_Pa_makeStrict; rw [if_pos c_1, if_neg c_2, if_neg c_24, if_neg c_35, bnd_n (hx_46.trans z)]))
          have hX_46 : ∀ q, x_46 = some (.inl q) → (f_Pa_makeStrict st made body) = some (.inl q) := (fun q z => by unfold f_Pa_makeStrict; rw [if_pos c_1, if_neg c_2, if_neg c_24, if_neg c_35, bnd_l (hx_46.trans z)])
          have lp_46 : ∀ (fu : Nat) (x4 x5 : Int32) (ax_46 : AD) (sx_46 : ST) (okx_46 : okSt sx_46) (H : Heap) (locs : List Loc) (ls : Array Slot) (cells slots : Nat), va_P (dC, dI) cls (wQ cI cZ hp hc h a1 a2 a3 a4 ht hq n1 n2 (ax_46, sx_46)) H → va_D A (wQ cI cZ hp hc h a1 a2 a3 a4 ht hq n1 n2 (ax_46, sx_46)) → va_S A s.heap H locs → lv_has ls 6 [(0, .ref hp), (1, .int made), (2, .int body), (3, .int 1), (4, .int x4), (5, .int x5)] → cells + bC sx_46 ≤ bC st → slots + bS sx_46 ≤ bS st → x_46 = f_Pa_makeStrict_L82 made body fu x4 x5 sx_46 → W p l e (headSpec (wy y_Pa_makeStrict c_Pa_makeStrict 6 none) { frames := 7, cells := bC st, slots := bS st, locals := 103 }).room s m [.ref hp, .int made, .int body].toArray below meth c H locs cells slots (vx_MQ below (va_Qv (poN (f_Pa_makeStrict st made body) st 0) (wB (dC, dI) cI cZ A (wQ cI cZ hp hc h a1 a2 a3 a4 ht hq n1 n2)) A) (xP (dC, dI) cI cZ hp h a1 a2 a3 a4 ht hq n1 n2 (f_Pa_makeStrict st made body) st A) [.ref hp, .int made, .int body].toArray s (mcO st (f_Pa_makeStrict st made body)) (msO st (f_Pa_makeStrict st made body)) A) (F0 m 82 ls []) := by
            intro fu
            induction fu with
            | zero => intro x4 x5 ax_46 sx_46 okx_46 H locs ls cells slots hP hD hS hl hcl hsl hL_46; exact absurd (hL_46.trans rfl) hn_46
            | succ fu_46 ih_46 =>
              intro x4 x5 ax_46 sx_46 okx_46 H locs ls cells slots hP hD hS hl hcl hsl hL_46
              rw [f_Pa_makeStrict_L82] at hL_46
              refine lv_iload hx hb d_Pa_makeStrict_82 (lv_at hl 4 rfl) ?_
              refine lv_if_eq (tgt := 141) hx hb d_Pa_makeStrict_84 (by decide) (fun c_47 => ?_) (fun c_47 => ?_)
              · rw [if_pos c_47] at hL_46
                obtain ⟨rv_46, hrv_46⟩ : ∃ z : Int32, z = x4 := ⟨_, rfl⟩
                have we_46 : f_Pa_makeStrict_L82 made body 5000 1 (made + 1) (setCo st ((coF st), (coL st), 1, (coP st), (coW st))) = some (.inr (rv_46, sx_46)) := by rw [hrv_46]; exact hx_46.trans hL_46
                have hl : lv_has ls 6 [(0, .ref hp), (1, .int made), (2, .int body), (3, .int 1), (4, .int rv_46)] := by rw [hrv_46]; exact lv_sub hl [0, 1, 2, 3, 4] rfl
                refine lv_iload hx hb d_Pa_makeStrict_141 (lv_at hl 4 rfl) ?_
                refine lv_if_ne (tgt := 158) hx hb d_Pa_makeStrict_143 (by decide) (fun c_48 => ?_) (fun c_48 => ?_)
                · exact mx_vret (stF := sx_46) hx hb hr hlocks hK hP hD hS hcl hsl (by unfold f_Pa_makeStrict; rw [if_pos c_1, if_neg c_2, if_neg c_24, if_neg c_35, bnd_r we_46, if_neg c_48]) okx_46 d_Pa_makeStrict_158
                · refine lv_aload_n hx hb d_Pa_makeStrict_146 rfl (lv_at hl 0 rfl) ?_
                  refine lv_aload_n hx hb d_Pa_makeStrict_147 rfl (lv_at hl 0 rfl) ?_
                  refine va_get (D := (dC, dI)) (ci := 2) (v := .ref ht) (C := R_Pa) (T := T_Pa) (N := 7) hx hb hts u_Pa hown hK hP 0 rfl rfl 0 (by decide) (hts _ L_208) (fun _ h9 => h9) rfl d_Pa_makeStrict_148 ?_
                  refine lv_iload_n hx hb d_Pa_makeStrict_151 rfl (lv_at hl 2 rfl) ?_
                  refine rd_V (v := (f_Tr_where (sTr sx_46) body)) (As := [.int body]) (rest := [.ref hp]) ⟨hx, hb, hml, hown, hts0⟩ (m_Tr_where l dC dI cI cZ ht ax_46.1 ax_46.2.1 ax_46.2.2.1 ax_46.2.2.2 (sTr sx_46) okx_46.2.1 body) hP hK [7, 8, 9, 10, 11] rfl [0, 1] rfl 0 4 rfl rfl L_857 L_858 L_859 L_85 L_860 ⟨rfl, k_Tr_where⟩ ⟨Nat.le_of_ble_eq_true rfl, Nat.le_of_ble_eq_true rfl⟩ hl.1 ⟨Nat.le_trans (Nat.le_add_right _ _) hcl, Nat.le_trans (Nat.le_add_right _ _) hsl⟩ (Nat.le_of_ble_eq_true rfl) d_Pa_makeStrict_152 rfl ?_
                  refine mx_Uv (xm := ⟨"SyntaxTree$Parser", "refuse", "(I)V"⟩) (owner := R_Cu) (As := [.int (f_Tr_where (sTr sx_46) body)]) (rest := []) ⟨hx, hb, hml, hown, hts0⟩ (m_Cu_refuse l hlt dC dI cI cZ sa rk hp hc h a1 a2 a3 a4 ht hq n1 n2 ax_46 sx_46 okx_46 _ (f_Tr_where (sTr sx_46) body) (fun z => hg (by unfold f_Pa_makeStrict; rw [if_pos c_1, if_neg c_2, if_neg c_24, if_neg c_35, bnd_r we_46, if_pos c_48, bnd_n z]))) hP hD hK hS hA hC hZ hnt hlocks L_536 L_537 L_539 L_460 L_86 L_463 rfl k_Cu_refuse ⟨Nat.le_of_ble_eq_true rfl, Nat.le_of_ble_eq_true rfl⟩ rfl rfl hl.1 (Nat.le_of_ble_eq_true rfl) d_Pa_makeStrict_155 rfl (fun q z => by unfold f_Pa_makeStrict; rw [if_pos c_1, if_neg c_2, if_neg c_24, if_neg c_35, bnd_r we_46, if_pos c_48, bnd_l z]) hcl hsl (fun ad_49 st_49 H locs w_49 ok_49 e1_49 e2_49 hP hD hS => ?_)
                  have hcl := cl_next hcl e1_49
                  have hsl := cl_next hsl e2_49
                  exact mx_vret (stF := st_49) hx hb hr hlocks hK hP hD hS hcl hsl (by unfold f_Pa_makeStrict; rw [if_pos c_1, if_neg c_2, if_neg c_24, if_neg c_35, bnd_r we_46, if_pos c_48, bnd_r w_49]) ok_49 d_Pa_makeStrict_158
              · rw [if_neg c_47] at hL_46
                refine lv_iload hx hb d_Pa_makeStrict_87 (lv_at hl 5 rfl) ?_
                refine lv_iload_n hx hb d_Pa_makeStrict_89 rfl (lv_at hl 2 rfl) ?_
                refine lv_icmp_ge (tgt := 141) hx hb d_Pa_makeStrict_90 (by decide) (fun c_50 => ?_) (fun c_50 => ?_)
                · rw [if_pos c_50] at hL_46
                  obtain ⟨rv_46, hrv_46⟩ : ∃ z : Int32, z = x4 := ⟨_, rfl⟩
                  have we_46 : f_Pa_makeStrict_L82 made body 5000 1 (made + 1) (setCo st ((coF st), (coL st), 1, (coP st), (coW st))) = some (.inr (rv_46, sx_46)) := by rw [hrv_46]; exact hx_46.trans hL_46
                  have hl : lv_has ls 6 [(0, .ref hp), (1, .int made), (2, .int body), (3, .int 1), (4, .int rv_46)] := by rw [hrv_46]; exact lv_sub hl [0, 1, 2, 3, 4] rfl
                  refine lv_iload hx hb d_Pa_makeStrict_141 (lv_at hl 4 rfl) ?_
                  refine lv_if_ne (tgt := 158) hx hb d_Pa_makeStrict_143 (by decide) (fun c_51 => ?_) (fun c_51 => ?_)
                  · exact mx_vret (stF := sx_46) hx hb hr hlocks hK hP hD hS hcl hsl (by unfold f_Pa_makeStrict; rw [if_pos c_1, if_neg c_2, if_neg c_24, if_neg c_35, bnd_r we_46, if_neg c_51]) okx_46 d_Pa_makeStrict_158
                  · refine lv_aload_n hx hb d_Pa_makeStrict_146 rfl (lv_at hl 0 rfl) ?_
                    refine lv_aload_n hx hb d_Pa_makeStrict_147 rfl (lv_at hl 0 rfl) ?_
                    refine va_get (D := (dC, dI)) (ci := 2) (v := .ref ht) (C := R_Pa) (T := T_Pa) (N := 7) hx hb hts u_Pa hown hK hP 0 rfl rfl 0 (by decide) (hts _ L_208) (fun _ h9 => h9) rfl d_Pa_makeStrict_148 ?_
                    refine lv_iload_n hx hb d_Pa_makeStrict_151 rfl (lv_at hl 2 rfl) ?_
                    refine rd_V (v := (f_Tr_where (sTr sx_46) body)) (As := [.int body]) (rest := [.ref hp]) ⟨hx, hb, hml, hown, hts0⟩ (m_Tr_where l dC dI cI cZ ht ax_46.1 ax_46.2.1 ax_46.2.2.1 ax_46.2.2.2 (sTr sx_46) okx_46.2.1 body) hP hK [7, 8, 9, 10, 11] rfl [0, 1] rfl 0 4 rfl rfl L_857 L_858 L_859 L_85 L_860 ⟨rfl, k_Tr_where⟩ ⟨Nat.le_of_ble_eq_true rfl, Nat.le_of_ble_eq_true rfl⟩ hl.1 ⟨Nat.le_trans (Nat.le_add_right _ _) hcl, Nat.le_trans (Nat.le_add_right _ _) hsl⟩ (Nat.le_of_ble_eq_true rfl) d_Pa_makeStrict_152 rfl ?_
                    refine mx_Uv (xm := ⟨"SyntaxTree$Parser", "refuse", "(I)V"⟩) (owner := R_Cu) (As := [.int (f_Tr_where (sTr sx_46) body)]) (rest := []) ⟨hx, hb, hml, hown, hts0⟩ (m_Cu_refuse l hlt dC dI cI cZ sa rk hp hc h a1 a2 a3 a4 ht hq n1 n2 ax_46 sx_46 okx_46 _ (f_Tr_where (sTr sx_46) body) (fun z => hg (by unfold f_Pa_makeStrict; rw [if_pos c_1, if_neg c_2, if_neg c_24, if_neg c_35, bnd_r we_46, if_pos c_51, bnd_n z]))) hP hD hK hS hA hC hZ hnt hlocks L_536 L_537 L_539 L_460 L_86 L_463 rfl k_Cu_refuse ⟨Nat.le_of_ble_eq_true rfl, Nat.le_of_ble_eq_true rfl⟩ rfl rfl hl.1 (Nat.le_of_ble_eq_true rfl) d_Pa_makeStrict_155 rfl (fun q z => by unfold f_Pa_makeStrict; rw [if_pos c_1, if_neg c_2, if_neg c_24, if_neg c_35, bnd_r we_46, if_pos c_51, bnd_l z]) hcl hsl (fun ad_52 st_52 H locs w_52 ok_52 e1_52 e2_52 hP hD hS => ?_)
                    have hcl := cl_next hcl e1_52
                    have hsl := cl_next hsl e2_52
                    exact mx_vret (stF := st_52) hx hb hr hlocks hK hP hD hS hcl hsl (by unfold f_Pa_makeStrict; rw [if_pos c_1, if_neg c_2, if_neg c_24, if_neg c_35, bnd_r we_46, if_pos c_51, bnd_r w_52]) ok_52 d_Pa_makeStrict_158
                · rw [if_neg c_50] at hL_46
                  refine lv_aload_n hx hb d_Pa_makeStrict_93 rfl (lv_at hl 0 rfl) ?_
                  refine lv_aload_n hx hb d_Pa_makeStrict_94 rfl (lv_at hl 0 rfl) ?_
                  refine va_get (D := (dC, dI)) (ci := 2) (v := .ref ht) (C := R_Pa) (T := T_Pa) (N := 7) hx hb hts u_Pa hown hK hP 0 rfl rfl 0 (by decide) (hts _ L_208) (fun _ h9 => h9) rfl d_Pa_makeStrict_95 ?_
                  refine lv_iload hx hb d_Pa_makeStrict_98 (lv_at hl 5 rfl) ?_
                  refine rd_V (v := (f_Tr_where (sTr sx_46) x5)) (As := [.int x5]) (rest := [.ref hp]) ⟨hx, hb, hml, hown, hts0⟩ (m_Tr_where l dC dI cI cZ ht ax_46.1 ax_46.2.1 ax_46.2.2.1 ax_46.2.2.2 (sTr sx_46) okx_46.2.1 x5) hP hK [7, 8, 9, 10, 11] rfl [0, 1] rfl 0 4 rfl rfl L_857 L_858 L_859 L_85 L_860 ⟨rfl, k_Tr_where⟩ ⟨Nat.le_of_ble_eq_true rfl, Nat.le_of_ble_eq_true rfl⟩ hl.1 ⟨Nat.le_trans (Nat.le_add_right _ _) hcl, Nat.le_trans (Nat.le_add_right _ _) hsl⟩ (Nat.le_of_ble_eq_true rfl) d_Pa_makeStrict_100 rfl ?_
                  refine rd_V (v := (f_Pa_mayBeBound sx_46 (f_Tr_where (sTr sx_46) x5))) (As := [.int (f_Tr_where (sTr sx_46) x5)]) (rest := []) ⟨hx, hb, hml, hown, hts0⟩ (m_Pa_mayBeBound l dC dI cI cZ hp hc h a1 a2 a3 a4 ht ax_46.1 ax_46.2.1 ax_46.2.2.1 ax_46.2.2.2 hq n1 n2 sx_46 okx_46 (f_Tr_where (sTr sx_46) x5)) hP hK [0, 1, 2, 3, 4, 5, 6, 7, 8, 9, 10, 11, 12, 13, 14] rfl [0, 1] rfl 0 2 rfl rfl L_861 L_863 L_55 L_87 L_864 ⟨rfl, k_Pa_mayBeBound⟩ ⟨Nat.le_of_ble_eq_true rfl, Nat.le_of_ble_eq_true rfl⟩ hl.1 ⟨Nat.le_trans (Nat.le_add_right _ _) hcl, Nat.le_trans (Nat.le_add_right _ _) hsl⟩ (Nat.le_of_ble_eq_true rfl) d_Pa_makeStrict_103 rfl ?_
                  refine lv_if_eq (tgt := 132) hx hb d_Pa_makeStrict_106 (by decide) (fun c_53 => ?_) (fun c_53 => ?_)
                  · rw [if_pos c_53] at hL_46
                    refine lv_iconst (v := 0) hx hb d_Pa_makeStrict_132 (by decide) ?_
                    refine lv_istore (lv' := [(4, .int 0), (0, .ref hp), (1, .int made), (2, .int body), (3, .int 1), (5, .int x5)]) hx hb d_Pa_makeStrict_133 hl (by decide) rfl (fun ls hl => ?_)
                    refine lv_iinc (v := (x5 + 1)) (lv' := [(5, .int (x5 + 1)), (4, .int 0), (0, .ref hp), (1, .int made), (2, .int body), (3, .int 1)]) hx hb d_Pa_makeStrict_135 hl (k := 5) rfl rfl (by decide) rfl (fun ls hl => ?_)
                    refine lv_goto (tgt := 82) hx hb d_Pa_makeStrict_138 (by decide) ?_
                    exact ih_46 0 (x5 + 1) ax_46 sx_46 okx_46 _ _ ls _ _ hP hD hS (lv_sub hl [2, 3, 4, 5, 1, 0] rfl) hcl hsl hL_46
                  · rw [if_neg c_53] at hL_46
                    refine lv_aload_n hx hb d_Pa_makeStrict_109 rfl (lv_at hl 0 rfl) ?_
                    refine lv_iload_n hx hb d_Pa_makeStrict_110 rfl (lv_at hl 1 rfl) ?_
                    refine lv_iload hx hb d_Pa_makeStrict_111 (lv_at hl 5 rfl) ?_
                    refine lv_aload_n hx hb d_Pa_makeStrict_113 rfl (lv_at hl 0 rfl) ?_
                    refine va_get (D := (dC, dI)) (ci := 2) (v := .ref ht) (C := R_Pa) (T := T_Pa) (N := 7) hx hb hts u_Pa hown hK hP 0 rfl rfl 0 (by decide) (hts _ L_208) (fun _ h9 => h9) rfl d_Pa_makeStrict_114 ?_
                    refine lv_iload hx hb d_Pa_makeStrict_117 (lv_at hl 5 rfl) ?_
                    refine rd_V (v := (f_Tr_value (sTr sx_46) x5)) (As := [.int x5]) (rest := [.int x5, .int made, .ref hp]) ⟨hx, hb, hml, hown, hts0⟩ (m_Tr_value l dC dI cI cZ ht ax_46.1 ax_46.2.1 ax_46.2.2.1 ax_46.2.2.2 (sTr sx_46) okx_46.2.1 x5) hP hK [7, 8, 9, 10, 11] rfl [0, 1] rfl 0 4 rfl rfl L_532 L_533 L_534 L_85 L_535 ⟨rfl, k_Tr_value⟩ ⟨Nat.le_of_ble_eq_true rfl, Nat.le_of_ble_eq_true rfl⟩ hl.1 ⟨Nat.le_trans (Nat.le_add_right _ _) hcl, Nat.le_trans (Nat.le_add_right _ _) hsl⟩ (Nat.le_of_ble_eq_true rfl) d_Pa_makeStrict_119 rfl ?_
                    obtain ⟨v_54, w_54⟩ : ∃ v9, (f_Pa_hasParameter sx_46 made x5 (f_Tr_value (sTr sx_46) x5)) = some v9 := bnO_ex ((fun z => hn_46 (hL_46.trans (bnO_n z))))
                    refine rd_V (v := v_54) (As := [.int made, .int x5, .int (f_Tr_value (sTr sx_46) x5)]) (rest := []) ⟨hx, hb, hml, hown, hts0⟩ (m_Pa_hasParameter l dC dI cI cZ hp hc h a1 a2 a3 a4 ht ax_46.1 ax_46.2.1 ax_46.2.2.1 ax_46.2.2.2 hq n1 n2 sx_46 okx_46 made x5 (f_Tr_value (sTr sx_46) x5) v_54 w_54) hP hK [0, 1, 2, 3, 4, 5, 6, 7, 8, 9, 10, 11, 12, 13, 14] rfl [0, 1] rfl 0 2 rfl rfl L_524 L_526 L_9 L_87 L_527 ⟨rfl, k_Pa_hasParameter⟩ ⟨Nat.le_of_ble_eq_true rfl, Nat.le_of_ble_eq_true rfl⟩ hl.1 ⟨Nat.le_trans (Nat.le_add_right _ _) hcl, Nat.le_trans (Nat.le_add_right _ _) hsl⟩ (Nat.le_of_ble_eq_true rfl) d_Pa_makeStrict_122 rfl ?_
                    rw [bnO_s w_54] at hL_46
                    refine lv_if_ne (tgt := 132) hx hb d_Pa_makeStrict_125 (by decide) (fun c_55 => ?_) (fun c_55 => ?_)
                    · rw [if_neg c_55] at hL_46
                      refine lv_iconst (v := 0) hx hb d_Pa_makeStrict_132 (by decide) ?_
                      refine lv_istore (lv' := [(4, .int 0), (0, .ref hp), (1, .int made), (2, .int body), (3, .int 1), (5, .int x5)]) hx hb d_Pa_makeStrict_133 hl (by decide) rfl (fun ls hl => ?_)
                      refine lv_iinc (v := (x5 + 1)) (lv' := [(5, .int (x5 + 1)), (4, .int 0), (0, .ref hp), (1, .int made), (2, .int body), (3, .int 1)]) hx hb d_Pa_makeStrict_135 hl (k := 5) rfl rfl (by decide) rfl (fun ls hl => ?_)
                      refine lv_goto (tgt := 82) hx hb d_Pa_makeStrict_138 (by decide) ?_
                      exact ih_46 0 (x5 + 1) ax_46 sx_46 okx_46 _ _ ls _ _ hP hD hS (lv_sub hl [2, 3, 4, 5, 1, 0] rfl) hcl hsl hL_46
                    · rw [if_pos c_55] at hL_46
                      refine lv_iconst (v := 1) hx hb d_Pa_makeStrict_128 (by decide) ?_
                      refine lv_goto (tgt := 133) hx hb d_Pa_makeStrict_129 (by decide) ?_
                      refine lv_istore (lv' := [(4, .int 1), (0, .ref hp), (1, .int made), (2, .int body), (3, .int 1), (5, .int x5)]) hx hb d_Pa_makeStrict_133 hl (by decide) rfl (fun ls hl => ?_)
                      refine lv_iinc (v := (x5 + 1)) (lv' := [(5, .int (x5 + 1)), (4, .int 1), (0, .ref hp), (1, .int made), (2, .int body), (3, .int 1)]) hx hb d_Pa_makeStrict_135 hl (k := 5) rfl rfl (by decide) rfl (fun ls hl => ?_)
                      refine lv_goto (tgt := 82) hx hb d_Pa_makeStrict_138 (by decide) ?_
                      exact ih_46 1 (x5 + 1) ax_46 sx_46 okx_46 _ _ ls _ _ hP hD hS (lv_sub hl [2, 3, 4, 5, 1, 0] rfl) hcl hsl hL_46
          exact lp_46 5000 1 (made + 1) ad (setCo st ((coF st), (coL st), 1, (coP st), (coW st))) (show okSt (setCo st ((coF st), (coL st), 1, (coP st), (coW st))) from ⟨hst.1, hst.2.1, hst.2.2.1, (Or.inr rfl)⟩) _ _ ls _ _ hP hD hS (lv_sub hl [3, 4, 5, 2, 1, 0] rfl) hcl hsl hx_46.symm
  · exact mx_vret (stF := st) hx hb hr hlocks hK hP hD hS hcl hsl (by unfold f_Pa_makeStrict; rw [if_neg c_1]) hst d_Pa_makeStrict_10
