set_option maxRecDepth 100000 in
set_option maxHeartbeats 4000000 in
theorem m_Sy_read (l : Launch) (hlt : l.stackTraces = false) (dC : Nat → ClassId) (dI : Nat → Nat → Nat) (cI cZ : ClassId) (sa rk : Nat) (sb : Nat → Nat) (hy hp h ht hq n1 n2 : Nat) (u0 : UY) (hst : okSt (uS u0)) (sz : Nat)  (hg : f_parse (uS u0) ≠ none) (hpl : ∀ q, f_parse (uS u0) = some (.inl q) → ¬ q.1 = -1) (hi1 : ∀ q, f_parse (uS u0) = some (.inr q) → q.1 = -1) : cY l y_Sy_read c_Sy_read 1 2027 76200 (bC (uS u0) + 1) (bS (uS u0) + 6) (dC, dI) cI cZ sa rk sb hy hp h ht hq n1 n2 u0 sz [.ref hy] (fun r u => ∃ st1 : ST, f_parse (uS u0) = some (.inr (-1, st1)) ∧ r = f_Tr_count (sTr st1) ∧ uR u = -1 ∧ uS u = setTk st1 (k_clear (sTk st1)) ∧ okSt (uS u)) (fun E u => E = IAE ∧ okSt (uS u) ∧ tkn (sTk (uS u)) = 0 ∧ trn (sTr (uS u)) = 0 ∧ ∃ c9 s9 : Nat, f_parse (uS u0) = some (.inl (uR u, c9, s9))) := by
  refine vx_ofW (cc := c_Sy_read) (maxL := 1) (ret := some .int) (by decide) rfl ?_
  intro p e s m args below meth c s₁ B hml hnt hv
  obtain ⟨rfl, ⟨hsz, hP, hK, hD0, hC, hZ⟩, hY⟩ := hv
  have hx := B.exec
  have hb := B.bytes
  have hr := B.returns
  have hts0 := atoms_spec (ws := wy y_Sy_read c_Sy_read 1 (some .int)) B.pre
  have hts := htsL hts0
  have hown : s.vm.findClass R_Sy = some m.cls := findClass_of_methodNamed B.named
  have hlocks := B.notSynchronized
  subst hsz
  have hD := hD0.self (sz := s.heap.size)
  generalize hAe : va_A (wY cI cZ hy hp h ht hq n1 n2 u0) s.heap.size = A at hD hZ ⊢
  have hA : ∀ q : Nat, s.heap.size ≤ q → A q := fun q h => by rw [← hAe]; exact Or.inr h
  have hS : va_S A s.heap s.heap [] := va_S.rf
  have hl := lv_entry ([.ref hy]) (n := 1) (Nat.le_of_ble_eq_true rfl)
  rw [lg_entry_eq]
  generalize (lg_sl ([.ref hy]) ++ List.replicate (1 - (lg_sl ([.ref hy])).length) Slot.unset).toArray = ls at hl ⊢
  have hl : lv_has ls 1 [(0, .ref hy)] := hl
  refine lv_aload_n hx hb d_Sy_read_0 rfl (lv_at hl 0 rfl) ?_
  refine lv_aload_n hx hb d_Sy_read_1 rfl (lv_at hl 0 rfl) ?_
  refine va_get (D := (dC, dI)) (ci := 5) (v := .ref hp) (C := R_Sy) (T := T_Sy) (N := 4) hx hb hts u_Sy hown hK hP 0 rfl rfl 2 (by decide) (hts _ L_240) (fun _ h9 => h9) rfl d_Sy_read_2 ?_
  have hPc : va_P (dC, dI) cls (wQ cI cZ hp u0.2.1 h u0.1.1 u0.1.2.1 u0.1.2.2.1 u0.1.2.2.2 ht hq n1 n2 (u0.2.2.1, uS u0)) s.heap := hP.sub [1, 2, 3, 4, 5, 6, 7, 8, 9, 10, 11, 12, 13, 14, 15] rfl
  have hDc : va_D A (wQ cI cZ hp u0.2.1 h u0.1.1 u0.1.2.1 u0.1.2.2.1 u0.1.2.2.2 ht hq n1 n2 (u0.2.2.1, uS u0)) := hD.sub [1, 2, 3, 4, 5, 6, 7, 8, 9, 10, 11, 12, 13, 14, 15] (by decide) rfl
  have hF := va_free (wc := (wQ cI cZ hp u0.2.1 h u0.1.1 u0.1.2.1 u0.1.2.2.1 u0.1.2.2.2 ht hq n1 n2 (u0.2.2.1, uS u0))) hD hS hA [1, 2, 3, 4, 5, 6, 7, 8, 9, 10, 11, 12, 13, 14, 15] rfl
  refine vx_calli (vx_runVX (As := []) (rest := [.ref hy]) ⟨hx, hb, hml, hown, hts0⟩ (m_Pa_parse l hlt dC dI cI cZ sa rk hp u0.2.1 h u0.1.1 u0.1.2.1 u0.1.2.2.1 u0.1.2.2.2 ht hq n1 n2 u0.2.2.1 (uS u0) hst s.heap.size hg) (vx_cwVW 0 hts0 (gLL ?_) rfl rfl rfl ⟨rfl, k_Pa_parse⟩ ⟨(by show 2025 + 1 ≤ 2027; decide), (by show 8 + (2 + 11) + 76097 ≤ 76200; decide)⟩) ⟨prM_blind, va_recv hK hPc (ci := 2) (q0 := 0) rfl rfl, fun U hU hW => ⟨rfl, by rw [hU], by rw [hU]; exact hPc, va_K.moved hW.alike hK, hDc.weaken (fun _ _ _ _ => trivial), XX.use hC hZ hS hF hU hW⟩⟩ rfl rfl hl.1 rfl (lv_room (Nat.le_of_ble_eq_true rfl)) d_Sy_read_5 ⟨(by show 0 + bC (uS u0) ≤ bC (uS u0) + 1; omega), (by show 0 + bS (uS u0) ≤ bS (uS u0) + 6; omega)⟩) hS (fun q _ h => hF q h) hF (fun q _ h => hF q h) (fun E ce q9 u t H1 locs1 ht1 hvm hp1 hB hz hk hS1 hce hcv hcl1 => hp1.elim) (fun r u t H locs ht1 hvm hp1 hB hz hk hS => ?_)
  · intro w hw
    simp only [wsV, wyH, List.cons_append, List.nil_append, List.mem_cons] at hw
    rcases hw with rfl | rfl | rfl | rfl | rfl | hw
    · exact L_397
    · exact L_398
    · exact L_399
    · exact L_87
    · exact L_400
    · exact hw
  obtain ⟨hc1, ad1, st1⟩ := u
  obtain ⟨hok, hb1, hb2, hpo⟩ := hp1
  have hok : okSt st1 := hok
  obtain ⟨hP1, hK1, hD1⟩ := hB
  rw [ht1] at hP1
  obtain ⟨hP, hD⟩ := va_join (wr := [(wY cI cZ hy hp h ht hq n1 n2 u0).getD 0 (0, .inr (0, []))]) (w1 := wQ cI cZ hp hc1 h u0.1.1 u0.1.2.1 u0.1.2.2.1 u0.1.2.2.2 ht hq n1 n2 (ad1, st1)) (wc := (wQ cI cZ hp u0.2.1 h u0.1.1 u0.1.2.1 u0.1.2.2.1 u0.1.2.2.2 ht hq n1 n2 (u0.2.2.1, uS u0))) hP hD [1, 2, 3, 4, 5, 6, 7, 8, 9, 10, 11, 12, 13, 14, 15] [0] rfl rfl (by decide) (by decide) hk hF hP1 hD1
  have hP : va_P (dC, dI) cls (wY cI cZ hy hp h ht hq n1 n2 (u0.1, hc1, ad1, st1, uR u0)) H := hP
  have hD : va_D A (wY cI cZ hy hp h ht hq n1 n2 (u0.1, hc1, ad1, st1, uR u0)) := hD
  refine va_put (D := (dC, dI)) (ci := 5) (v := .int r) (ty := .int) (C := R_Sy) (T := T_Sy) (N := 4) hx hb hts u_Sy ty_Sy tk_Sy nm_Sy hown hK hP hD hS 0 rfl rfl 3 (by decide) (hts _ L_241) (fun _ h9 => h9) rfl (by decide +kernel) rfl rfl (Nat.le_of_ble_eq_true rfl) d_Sy_read_8 (fun H locs hP hD hS => ?_)
  have hP : va_P (dC, dI) cls (wY cI cZ hy hp h ht hq n1 n2 (u0.1, hc1, ad1, st1, r)) H := hP
  have hD : va_D A (wY cI cZ hy hp h ht hq n1 n2 (u0.1, hc1, ad1, st1, r)) := hD
  refine lv_aload_n hx hb d_Sy_read_11 rfl (lv_at hl 0 rfl) ?_
  refine va_get (D := (dC, dI)) (ci := 5) (v := .ref h) (C := R_Sy) (T := T_Sy) (N := 4) hx hb hts u_Sy hown hK hP 0 rfl rfl 0 (by decide) (hts _ L_238) (fun _ h9 => h9) rfl d_Sy_read_12 ?_
  refine mu_Vv (S := AD × TK) (w' := wK cI h) (wr := [(wY cI cZ hy hp h ht hq n1 n2 (u0.1, hc1, ad1, st1, r)).getD 0 (0, .inr (0, [])), (wY cI cZ hy hp h ht hq n1 n2 (u0.1, hc1, ad1, st1, r)).getD 1 (0, .inr (0, [])), (wY cI cZ hy hp h ht hq n1 n2 (u0.1, hc1, ad1, st1, r)).getD 2 (0, .inr (0, [])), (wY cI cZ hy hp h ht hq n1 n2 (u0.1, hc1, ad1, st1, r)).getD 8 (0, .inr (0, [])), (wY cI cZ hy hp h ht hq n1 n2 (u0.1, hc1, ad1, st1, r)).getD 9 (0, .inr (0, [])), (wY cI cZ hy hp h ht hq n1 n2 (u0.1, hc1, ad1, st1, r)).getD 10 (0, .inr (0, [])), (wY cI cZ hy hp h ht hq n1 n2 (u0.1, hc1, ad1, st1, r)).getD 11 (0, .inr (0, [])), (wY cI cZ hy hp h ht hq n1 n2 (u0.1, hc1, ad1, st1, r)).getD 12 (0, .inr (0, [])), (wY cI cZ hy hp h ht hq n1 n2 (u0.1, hc1, ad1, st1, r)).getD 13 (0, .inr (0, [])), (wY cI cZ hy hp h ht hq n1 n2 (u0.1, hc1, ad1, st1, r)).getD 14 (0, .inr (0, [])), (wY cI cZ hy hp h ht hq n1 n2 (u0.1, hc1, ad1, st1, r)).getD 15 (0, .inr (0, []))]) (As := []) (rest := []) ⟨hx, hb, hml, hown, hts0⟩ (m_Tk_clear l dC dI cI cZ sa rk h u0.1 (sTk st1) hok.1 _) hP hD hK hS hA hC hZ [3, 4, 5, 6, 7] [0, 1, 2, 8, 9, 10, 11, 12, 13, 14, 15] rfl rfl (by decide) (by decide) (by decide) 0 3 rfl rfl L_866 L_867 L_868 L_84 L_869 ⟨rfl, k_Tk_clear⟩ ⟨Nat.le_of_ble_eq_true rfl, Nat.le_of_ble_eq_true rfl⟩ hl.1 ⟨by show 0 + bC (uS u0) + 0 ≤ bC (uS u0) + 1; omega, by show 0 + bS (uS u0) + 0 ≤ bS (uS u0) + 6; omega⟩ (Nat.le_of_ble_eq_true rfl) d_Sy_read_15 rfl (fun u H locs hw hP hD hS => ?_)
  obtain ⟨a9, t9⟩ := u
  have hw : t9 = k_clear (sTk st1) := hw
  subst hw
  have hP : va_P (dC, dI) cls (wY cI cZ hy hp h ht hq n1 n2 (a9, hc1, ad1, setTk st1 (k_clear (sTk st1)), r)) H := hP.sub [0, 1, 2, 11, 12, 13, 14, 15, 3, 4, 5, 6, 7, 8, 9, 10] rfl
  have hD : va_D A (wY cI cZ hy hp h ht hq n1 n2 (a9, hc1, ad1, setTk st1 (k_clear (sTk st1)), r)) := hD.sub [0, 1, 2, 11, 12, 13, 14, 15, 3, 4, 5, 6, 7, 8, 9, 10] (by decide) rfl
  have hok3 : okSt (setTk st1 (k_clear (sTk st1))) := ⟨k_clear_ok hok.1, hok.2⟩
  refine lv_aload_n hx hb d_Sy_read_18 rfl (lv_at hl 0 rfl) ?_
  refine va_get (D := (dC, dI)) (ci := 5) (v := .int (uR (a9, hc1, ad1, setTk st1 (k_clear (sTk st1)), r))) (C := R_Sy) (T := T_Sy) (N := 4) hx hb hts u_Sy hown hK hP 0 rfl rfl 3 (by decide) (hts _ L_241) (fun _ h9 => h9) rfl d_Sy_read_19 ?_
  refine lv_iconst (v := (-1)) hx hb d_Sy_read_22 (by decide) ?_
  refine lv_icmp_eq (tgt := 43) hx hb d_Sy_read_23 (by decide) (fun c_1 => ?_) (fun c_1 => ?_)
  · have c_1 : r = -1 := c_1
    have hpr : f_parse (uS u0) = some (.inr (-1, st1)) := by
      rcases hpo with z | z
      · exact absurd c_1 (hpl _ z)
      · rw [z, c_1]
    refine lv_aload_n hx hb d_Sy_read_43 rfl (lv_at hl 0 rfl) ?_
    refine va_get (D := (dC, dI)) (ci := 5) (v := .ref ht) (C := R_Sy) (T := T_Sy) (N := 4) hx hb hts u_Sy hown hK hP 0 rfl rfl 1 (by decide) (hts _ L_239) (fun _ h9 => h9) rfl d_Sy_read_44 ?_
    refine rd_V (v := (f_Tr_count (sTr st1))) (As := []) (rest := []) ⟨hx, hb, hml, hown, hts0⟩ (m_Tr_count l dC dI cI cZ ht (a9, hc1, ad1, setTk st1 (k_clear (sTk st1)), r).2.2.1.1 (a9, hc1, ad1, setTk st1 (k_clear (sTk st1)), r).2.2.1.2.1 (a9, hc1, ad1, setTk st1 (k_clear (sTk st1)), r).2.2.1.2.2.1 (a9, hc1, ad1, setTk st1 (k_clear (sTk st1)), r).2.2.1.2.2.2 (sTr (uS (a9, hc1, ad1, setTk st1 (k_clear (sTk st1)), r))) hok3.2.1 ) hP hK [8, 9, 10, 11, 12] rfl [0, 1] rfl 0 4 rfl rfl L_872 L_521 L_522 L_85 L_523 ⟨rfl, k_Tr_count⟩ ⟨Nat.le_of_ble_eq_true rfl, Nat.le_of_ble_eq_true rfl⟩ hl.1 ⟨by show 0 + bC (uS u0) + 0 ≤ bC (uS u0) + 1; omega, by show 0 + bS (uS u0) + 0 ≤ bS (uS u0) + 6; omega⟩ (Nat.le_of_ble_eq_true rfl) d_Sy_read_47 rfl ?_
    refine vx_ret ?_
    refine W.widen (k := (bC (uS u0) + 1)) (n := (bS (uS u0) + 6)) (by omega) (by omega) ?_
    exact W.iret hx hb hr (fun t ht9 hW => ⟨⟨(f_Tr_count (sTr st1)), (a9, hc1, ad1, setTk st1 (k_clear (sTk st1)), r), rfl, ⟨st1, hpr, rfl, c_1, rfl, hok3⟩, by rw [ht9]; exact hP, va_K.moved hW.alike hK, hD⟩, hS.F ht9⟩) hS.2.2 d_Sy_read_50
  · have c_1 : ¬ r = -1 := c_1
    have hpr : f_parse (uS u0) = some (.inl (r, bC st1, bS st1)) := by
      rcases hpo with z | z
      · exact z
      · exact absurd (hi1 _ z) c_1
    refine lv_aload_n hx hb d_Sy_read_26 rfl (lv_at hl 0 rfl) ?_
    refine va_get (D := (dC, dI)) (ci := 5) (v := .ref ht) (C := R_Sy) (T := T_Sy) (N := 4) hx hb hts u_Sy hown hK hP 0 rfl rfl 1 (by decide) (hts _ L_239) (fun _ h9 => h9) rfl d_Sy_read_27 ?_
    refine mu_Vv (S := AD × TR) (w' := wT cI ht) (wr := [(wY cI cZ hy hp h ht hq n1 n2 (a9, hc1, ad1, setTk st1 (k_clear (sTk st1)), r)).getD 0 (0, .inr (0, [])), (wY cI cZ hy hp h ht hq n1 n2 (a9, hc1, ad1, setTk st1 (k_clear (sTk st1)), r)).getD 1 (0, .inr (0, [])), (wY cI cZ hy hp h ht hq n1 n2 (a9, hc1, ad1, setTk st1 (k_clear (sTk st1)), r)).getD 2 (0, .inr (0, [])), (wY cI cZ hy hp h ht hq n1 n2 (a9, hc1, ad1, setTk st1 (k_clear (sTk st1)), r)).getD 3 (0, .inr (0, [])), (wY cI cZ hy hp h ht hq n1 n2 (a9, hc1, ad1, setTk st1 (k_clear (sTk st1)), r)).getD 4 (0, .inr (0, [])), (wY cI cZ hy hp h ht hq n1 n2 (a9, hc1, ad1, setTk st1 (k_clear (sTk st1)), r)).getD 5 (0, .inr (0, [])), (wY cI cZ hy hp h ht hq n1 n2 (a9, hc1, ad1, setTk st1 (k_clear (sTk st1)), r)).getD 6 (0, .inr (0, [])), (wY cI cZ hy hp h ht hq n1 n2 (a9, hc1, ad1, setTk st1 (k_clear (sTk st1)), r)).getD 7 (0, .inr (0, [])), (wY cI cZ hy hp h ht hq n1 n2 (a9, hc1, ad1, setTk st1 (k_clear (sTk st1)), r)).getD 13 (0, .inr (0, [])), (wY cI cZ hy hp h ht hq n1 n2 (a9, hc1, ad1, setTk st1 (k_clear (sTk st1)), r)).getD 14 (0, .inr (0, [])), (wY cI cZ hy hp h ht hq n1 n2 (a9, hc1, ad1, setTk st1 (k_clear (sTk st1)), r)).getD 15 (0, .inr (0, []))]) (As := []) (rest := []) ⟨hx, hb, hml, hown, hts0⟩ (m_Tr_clear l dC dI cI cZ sa rk ht ad1 (sTr st1) hok.2.1 _) hP hD hK hS hA hC hZ [8, 9, 10, 11, 12] [0, 1, 2, 3, 4, 5, 6, 7, 13, 14, 15] rfl rfl (by decide) (by decide) (by decide) 0 4 rfl rfl L_870 L_409 L_410 L_85 L_411 ⟨rfl, k_Tr_clear⟩ ⟨Nat.le_of_ble_eq_true rfl, Nat.le_of_ble_eq_true rfl⟩ hl.1 ⟨by show 0 + bC (uS u0) + 0 + 0 ≤ bC (uS u0) + 1; omega, by show 0 + bS (uS u0) + 0 + 0 ≤ bS (uS u0) + 6; omega⟩ (Nat.le_of_ble_eq_true rfl) d_Sy_read_30 rfl (fun u H locs hw hP hD hS => ?_)
    obtain ⟨ad2, t9⟩ := u
    have hw : t9 = t_clear (sTr st1) := hw
    subst hw
    have hP : va_P (dC, dI) cls (wY cI cZ hy hp h ht hq n1 n2 (a9, hc1, ad2, setTr (setTk st1 (k_clear (sTk st1))) (t_clear (sTr st1)), r)) H := hP.sub [0, 1, 2, 3, 4, 5, 6, 7, 11, 12, 13, 14, 15, 8, 9, 10] rfl
    have hD : va_D A (wY cI cZ hy hp h ht hq n1 n2 (a9, hc1, ad2, setTr (setTk st1 (k_clear (sTk st1))) (t_clear (sTr st1)), r)) := hD.sub [0, 1, 2, 3, 4, 5, 6, 7, 11, 12, 13, 14, 15, 8, 9, 10] (by decide) rfl
    refine vx_throwS hx hb hlt (own := R_Sy) (cls := IAE) (text := "the tokens are refused") (names := ["java/lang/RuntimeException", "java/lang/Exception"]) (ik := 42) (is := 69) (ic := 46) (sa := sb 69) (A := A) hown (by decide +kernel) (by decide +kernel) (hts _ L_276) (hts _ L_94) hY.1.2.2.1 ?_ (by decide +kernel) hZ.1 hZ.2.1 hS (hl.1.trans hml.symm) d_Sy_read_33 d_Sy_read_36 d_Sy_read_37 d_Sy_read_39 d_Sy_read_42 (fun x hx => (hnt x hx).elim) (by show 2 + 3 < 2027; decide) (Nat.le_of_ble_eq_true rfl) (by show 0 + bC (uS u0) + 0 + 0 + 1 ≤ bC (uS u0) + 1; omega) (by show 0 + bS (uS u0) + 0 + 0 + 6 ≤ bS (uS u0) + 6; omega) hlocks ?_ hS.2.2 (by show 0 + bC (uS u0) + 0 + 0 + 1 ≤ bC (uS u0) + 1; omega) (by show 0 + bS (uS u0) + 0 + 0 + 6 ≤ bS (uS u0) + 6; omega)
    · exact vx_hat (L := vx_atS R_Sy 46 IAE ["java/lang/RuntimeException", "java/lang/Exception"]) (B := [.declares (Bundle.initS "java/lang/RuntimeException"), .declares (Bundle.initS "java/lang/Exception"), .declares (Bundle.initS Bundle.tN), .castable IAE IAE]) (fun w hw => hts w (thrY_46 w hw)) (by decide +kernel) (vx_c (va_Nw.use rfl hC.2.2.1.1) (vx_c (va_Nw.use rfl hC.2.2.1.2.1) (vx_c (va_Nw.use rfl hC.2.2.1.2.2.1) (vx_c (va_Nw.use rfl hC.2.2.1.2.2.2) vx_n))))
    · exact fun t hvm hz hq9 => ⟨(a9, hc1, ad2, setTr (setTk st1 (k_clear (sTk st1))) (t_clear (sTr st1)), r), trivial, ⟨⟨rfl, ⟨k_clear_ok hok.1, ⟨Nat.zero_le _, hok.2.1.2⟩, hok.2.2⟩, rfl, rfl, _, _, hpr⟩, hP.kept (fun k q hk => hq9 _ (hP k q hk).lt), va_K.moved hvm hK, hD⟩, Nat.le_trans hS.1 hz, fun q h1 h2 => (hq9 q (Nat.lt_of_lt_of_le h1 hS.1)).trans (hS.2.1 q h1 h2)⟩
