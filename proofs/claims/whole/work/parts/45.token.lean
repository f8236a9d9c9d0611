theorem rcK_le (t : TK) : rcK t ≤ 4 := by unfold rcK; split <;> omega
theorem rsK_le (t : TK) : rsK t ≤ 4000 := by unfold rsK; split <;> omega
set_option maxRecDepth 100000 in
set_option maxHeartbeats 4000000 in
theorem m_Sy_token (l : Launch) (hlt : l.stackTraces = false) (dC : Nat → ClassId) (dI : Nat → Nat → Nat) (cI cZ : ClassId) (sa rk : Nat) (sb : Nat → Nat) (hy hp h ht hq n1 n2 : Nat) (u0 : UY) (hst : okSt (uS u0)) (sz : Nat) (kind : Int32) (word : Int32) (name : Int32) (line : Int32)  : cY l y_Sy_token c_Sy_token 5 6 400 5 4006 (dC, dI) cI cZ sa rk sb hy hp h ht hq n1 n2 u0 sz [.ref hy, .int kind, .int word, .int name, .int line] (fun r u => ¬ f_Tk_known kind word name = 0 ∧ tkn (sTk (uS u0)) < 1000 ∧ r = nI (tkn (sTk (uS u0)) + 1) ∧ ∃ a9 : AD, u = (a9, u0.2.1, u0.2.2.1, setTk (uS u0) (k_add (sTk (uS u0)) kind word name line), uR u0)) (fun E u => ((E = IAE ∧ f_Tk_known kind word name = 0) ∨ (E = ISE ∧ ¬ f_Tk_known kind word name = 0 ∧ 1000 ≤ tkn (sTk (uS u0)))) ∧ u = u0) := by
  refine vx_ofW (cc := c_Sy_token) (maxL := 5) (ret := some .int) (by decide) rfl ?_
  intro p e s m args below meth c s₁ B hml hnt hv
  obtain ⟨rfl, ⟨hsz, hP, hK, hD0, hC, hZ⟩, hY⟩ := hv
  have hx := B.exec
  have hb := B.bytes
  have hr := B.returns
  have hts0 := atoms_spec (ws := wy y_Sy_token c_Sy_token 5 (some .int)) B.pre
  have hts := htsL hts0
  have hown : s.vm.findClass R_Sy = some m.cls := findClass_of_methodNamed B.named
  have hlocks := B.notSynchronized
  subst hsz
  have hD := hD0.self (sz := s.heap.size)
  generalize hAe : va_A (wY cI cZ hy hp h ht hq n1 n2 u0) s.heap.size = A at hD hZ ⊢
  have hA : ∀ q : Nat, s.heap.size ≤ q → A q := fun q h => by rw [← hAe]; exact Or.inr h
  have hS : va_S A s.heap s.heap [] := va_S.rf
  have hl := lv_entry ([.ref hy, .int kind, .int word, .int name, .int line]) (n := 5) (Nat.le_of_ble_eq_true rfl)
  rw [lg_entry_eq]
  generalize (lg_sl ([.ref hy, .int kind, .int word, .int name, .int line]) ++ List.replicate (5 - (lg_sl ([.ref hy, .int kind, .int word, .int name, .int line])).length) Slot.unset).toArray = ls at hl ⊢
  have hl : lv_has ls 5 [(0, .ref hy), (1, .int kind), (2, .int word), (3, .int name), (4, .int line)] := hl
  refine lv_iload_n hx hb d_Sy_token_0 rfl (lv_at hl 1 rfl) ?_
  refine lv_iload_n hx hb d_Sy_token_1 rfl (lv_at hl 2 rfl) ?_
  refine lv_iload_n hx hb d_Sy_token_2 rfl (lv_at hl 3 rfl) ?_
  refine rd_S (v := (f_Tk_known kind word name)) (As := [.int kind, .int word, .int name]) (rest := []) ⟨hx, hb, hml, hown, hts0⟩ (m_Tk_known l dC dI cI cZ kind word name) hP hK [] rfl [0, 1] rfl L_264 L_265 L_84 L_266 k_Tk_known ⟨Nat.le_of_ble_eq_true rfl, Nat.le_of_ble_eq_true rfl⟩ hl.1 ⟨Nat.zero_le _, Nat.zero_le _⟩ (Nat.le_of_ble_eq_true rfl) d_Sy_token_3 rfl ?_
  refine lv_if_ne (tgt := 19) hx hb d_Sy_token_6 (by decide) (fun c_1 => ?_) (fun c_1 => ?_)
  · refine lv_aload_n hx hb d_Sy_token_19 rfl (lv_at hl 0 rfl) ?_
    refine va_get (D := (dC, dI)) (ci := 5) (v := .ref h) (C := R_Sy) (T := T_Sy) (N := 4) hx hb hts u_Sy hown hK hP 0 rfl rfl 0 (by decide) (hts _ L_238) (fun _ h9 => h9) rfl d_Sy_token_20 ?_
    refine rd_V (v := (nI (tkn (sTk (uS u0))))) (As := []) (rest := []) ⟨hx, hb, hml, hown, hts0⟩ (m_Tk_count l dC dI cI cZ h u0.1.1 u0.1.2.1 u0.1.2.2.1 u0.1.2.2.2 (sTk (uS u0)) hst.1 ) hP hK [3, 4, 5, 6, 7] rfl [0, 1] rfl 0 3 rfl rfl L_345 L_346 L_347 L_84 L_348 ⟨rfl, k_Tk_count⟩ ⟨Nat.le_of_ble_eq_true rfl, Nat.le_of_ble_eq_true rfl⟩ hl.1 ⟨Nat.zero_le _, Nat.zero_le _⟩ (Nat.le_of_ble_eq_true rfl) d_Sy_token_23 rfl ?_
    refine lv_sipush (v := 1000) hx hb d_Sy_token_26 (by decide) ?_
    have hn0 : tkn (sTk (uS u0)) < 2 ^ 31 := Nat.lt_of_le_of_lt hst.1.1 hst.1.2.1
    refine lv_icmp_lt (tgt := 42) hx hb d_Sy_token_29 (by decide) (fun c_2 => ?_) (fun c_2 => ?_)
    · have hn : tkn (sTk (uS u0)) < 1000 := (nI_ltI hn0 (by decide)).mp (show nI (tkn (sTk (uS u0))) < nI 1000 from c_2)
      refine lv_aload_n hx hb d_Sy_token_42 rfl (lv_at hl 0 rfl) ?_
      refine va_get (D := (dC, dI)) (ci := 5) (v := .ref h) (C := R_Sy) (T := T_Sy) (N := 4) hx hb hts u_Sy hown hK hP 0 rfl rfl 0 (by decide) (hts _ L_238) (fun _ h9 => h9) rfl d_Sy_token_43 ?_
      refine lv_iload_n hx hb d_Sy_token_46 rfl (lv_at hl 1 rfl) ?_
      refine lv_iload_n hx hb d_Sy_token_47 rfl (lv_at hl 2 rfl) ?_
      refine lv_iload_n hx hb d_Sy_token_48 rfl (lv_at hl 3 rfl) ?_
      refine lv_iload hx hb d_Sy_token_49 (lv_at hl 4 rfl) ?_
      refine mu_Vv (S := AD × TK) (w' := wK cI h) (wr := [(wY cI cZ hy hp h ht hq n1 n2 u0).getD 0 (0, .inr (0, [])), (wY cI cZ hy hp h ht hq n1 n2 u0).getD 1 (0, .inr (0, [])), (wY cI cZ hy hp h ht hq n1 n2 u0).getD 2 (0, .inr (0, [])), (wY cI cZ hy hp h ht hq n1 n2 u0).getD 8 (0, .inr (0, [])), (wY cI cZ hy hp h ht hq n1 n2 u0).getD 9 (0, .inr (0, [])), (wY cI cZ hy hp h ht hq n1 n2 u0).getD 10 (0, .inr (0, [])), (wY cI cZ hy hp h ht hq n1 n2 u0).getD 11 (0, .inr (0, [])), (wY cI cZ hy hp h ht hq n1 n2 u0).getD 12 (0, .inr (0, [])), (wY cI cZ hy hp h ht hq n1 n2 u0).getD 13 (0, .inr (0, [])), (wY cI cZ hy hp h ht hq n1 n2 u0).getD 14 (0, .inr (0, [])), (wY cI cZ hy hp h ht hq n1 n2 u0).getD 15 (0, .inr (0, []))]) (As := [.int kind, .int word, .int name, .int line]) (rest := []) ⟨hx, hb, hml, hown, hts0⟩ (m_Tk_add l dC dI cI cZ sa rk h u0.1 (sTk (uS u0)) hst.1 _ kind word name line hn) hP hD hK hS hA hC hZ [3, 4, 5, 6, 7] [0, 1, 2, 8, 9, 10, 11, 12, 13, 14, 15] rfl rfl (by decide) (by decide) (by decide) 0 3 rfl rfl L_365 L_366 L_367 L_84 L_368 ⟨rfl, k_Tk_add⟩ ⟨Nat.le_of_ble_eq_true rfl, Nat.le_of_ble_eq_true rfl⟩ hl.1 ⟨by have := rcK_le (sTk (uS u0)); show 0 + rcK (sTk (uS u0)) ≤ 5; omega, by have := rsK_le (sTk (uS u0)); show 0 + rsK (sTk (uS u0)) ≤ 4006; omega⟩ (Nat.le_of_ble_eq_true rfl) d_Sy_token_51 rfl (fun u H locs hw hP hD hS => ?_)
      obtain ⟨a9, t9⟩ := u
      have hw : t9 = k_add (sTk (uS u0)) kind word name line := hw
      subst hw
      have hP : va_P (dC, dI) cls (wY cI cZ hy hp h ht hq n1 n2 (a9, u0.2.1, u0.2.2.1, setTk (uS u0) (k_add (sTk (uS u0)) kind word name line), uR u0)) H := hP.sub [0, 1, 2, 11, 12, 13, 14, 15, 3, 4, 5, 6, 7, 8, 9, 10] rfl
      have hD : va_D A (wY cI cZ hy hp h ht hq n1 n2 (a9, u0.2.1, u0.2.2.1, setTk (uS u0) (k_add (sTk (uS u0)) kind word name line), uR u0)) := hD.sub [0, 1, 2, 11, 12, 13, 14, 15, 3, 4, 5, 6, 7, 8, 9, 10] (by decide) rfl
      have hk1 := k_add_ok kind word name line hst.1 hn
      have hr1 := rcK_le (sTk (uS u0))
      have hr2 := rsK_le (sTk (uS u0))
      have hq1 : 0 + rcK (sTk (uS u0)) ≤ 5 := by omega
      have hq2 : 0 + rsK (sTk (uS u0)) ≤ 4006 := by omega
      refine lv_aload_n hx hb d_Sy_token_54 rfl (lv_at hl 0 rfl) ?_
      refine va_get (D := (dC, dI)) (ci := 5) (v := .ref h) (C := R_Sy) (T := T_Sy) (N := 4) hx hb hts u_Sy hown hK hP 0 rfl rfl 0 (by decide) (hts _ L_238) (fun _ h9 => h9) rfl d_Sy_token_55 ?_
      refine rd_V (v := (nI (tkn (sTk (uS u0)) + 1))) (As := []) (rest := []) ⟨hx, hb, hml, hown, hts0⟩ (m_Tk_count l dC dI cI cZ h (a9, u0.2.1, u0.2.2.1, setTk (uS u0) (k_add (sTk (uS u0)) kind word name line), uR u0).1.1 (a9, u0.2.1, u0.2.2.1, setTk (uS u0) (k_add (sTk (uS u0)) kind word name line), uR u0).1.2.1 (a9, u0.2.1, u0.2.2.1, setTk (uS u0) (k_add (sTk (uS u0)) kind word name line), uR u0).1.2.2.1 (a9, u0.2.1, u0.2.2.1, setTk (uS u0) (k_add (sTk (uS u0)) kind word name line), uR u0).1.2.2.2 (sTk (uS (a9, u0.2.1, u0.2.2.1, setTk (uS u0) (k_add (sTk (uS u0)) kind word name line), uR u0))) (show okSt (uS (a9, u0.2.1, u0.2.2.1, setTk (uS u0) (k_add (sTk (uS u0)) kind word name line), uR u0)) from ⟨hk1, hst.2⟩).1 ) hP hK [3, 4, 5, 6, 7] rfl [0, 1] rfl 0 3 rfl rfl L_345 L_346 L_347 L_84 L_348 ⟨rfl, k_Tk_count⟩ ⟨Nat.le_of_ble_eq_true rfl, Nat.le_of_ble_eq_true rfl⟩ hl.1 ⟨hq1, hq2⟩ (Nat.le_of_ble_eq_true rfl) d_Sy_token_58 rfl ?_
      refine vx_ret ?_
      refine W.widen (k := 5) (n := 4006) hq1 hq2 ?_
      exact W.iret hx hb hr (fun t ht9 hW => ⟨⟨(nI (tkn (sTk (uS u0)) + 1)), (a9, u0.2.1, u0.2.2.1, setTk (uS u0) (k_add (sTk (uS u0)) kind word name line), uR u0), rfl, ⟨c_1, hn, rfl, a9, rfl⟩, by rw [ht9]; exact hP, va_K.moved hW.alike hK, hD⟩, hS.F ht9⟩) hS.2.2 d_Sy_token_61
    · refine vx_throwS hx hb hlt (own := R_Sy) (cls := ISE) (text := "too many tokens") (names := ["java/lang/RuntimeException", "java/lang/Exception"]) (ik := 53) (is := 55) (ic := 57) (sa := sb 55) (A := A) hown (by decide +kernel) (by decide +kernel) (hts _ L_349) (hts _ L_95) hY.1.2.1 ?_ (by decide +kernel) hZ.1 hZ.2.1 hS (hl.1.trans hml.symm) d_Sy_token_32 d_Sy_token_35 d_Sy_token_36 d_Sy_token_38 d_Sy_token_41 (fun x hx => (hnt x hx).elim) (by show 2 + 3 < 6; decide) (Nat.le_of_ble_eq_true rfl) (Nat.le_of_ble_eq_true rfl) (Nat.le_of_ble_eq_true rfl) hlocks ?_ hS.2.2 (Nat.le_of_ble_eq_true rfl) (Nat.le_of_ble_eq_true rfl)
      · exact vx_hat (L := vx_atS R_Sy 57 ISE ["java/lang/RuntimeException", "java/lang/Exception"]) (B := [.declares (Bundle.initS "java/lang/RuntimeException"), .declares (Bundle.initS "java/lang/Exception"), .declares (Bundle.initS Bundle.tN), .castable ISE ISE]) (fun w hw => hts w (thrY_57 w hw)) (by decide +kernel) (vx_c (va_Nw.use rfl hC.2.2.1.1) (vx_c (va_Nw.use rfl hC.2.2.1.2.1) (vx_c (va_Nw.use rfl hC.2.2.1.2.2.1) (vx_c (va_Nw.use rfl hY.2.1) vx_n))))
      · exact fun t hvm hz hq9 => ⟨u0, trivial, ⟨⟨Or.inr ⟨rfl, c_1, Nat.le_of_not_lt (fun z => c_2 (show nI (tkn (sTk (uS u0))) < nI 1000 from nI_lt z (by decide)))⟩, rfl⟩, hP.kept (fun k q hk => hq9 _ (hP k q hk).lt), va_K.moved hvm hK, hD⟩, Nat.le_trans hS.1 hz, fun q h1 h2 => (hq9 q (Nat.lt_of_lt_of_le h1 hS.1)).trans (hS.2.1 q h1 h2)⟩
  · refine vx_throwS hx hb hlt (own := R_Sy) (cls := IAE) (text := "no such token") (names := ["java/lang/RuntimeException", "java/lang/Exception"]) (ik := 42) (is := 44) (ic := 46) (sa := sb 44) (A := A) hown (by decide +kernel) (by decide +kernel) (hts _ L_276) (hts _ L_94) hY.1.1 ?_ (by decide +kernel) hZ.1 hZ.2.1 hS (hl.1.trans hml.symm) d_Sy_token_9 d_Sy_token_12 d_Sy_token_13 d_Sy_token_15 d_Sy_token_18 (fun x hx => (hnt x hx).elim) (by show 2 + 3 < 6; decide) (Nat.le_of_ble_eq_true rfl) (Nat.le_of_ble_eq_true rfl) (Nat.le_of_ble_eq_true rfl) hlocks ?_ hS.2.2 (Nat.le_of_ble_eq_true rfl) (Nat.le_of_ble_eq_true rfl)
    · exact vx_hat (L := vx_atS R_Sy 46 IAE ["java/lang/RuntimeException", "java/lang/Exception"]) (B := [.declares (Bundle.initS "java/lang/RuntimeException"), .declares (Bundle.initS "java/lang/Exception"), .declares (Bundle.initS Bundle.tN), .castable IAE IAE]) (fun w hw => hts w (thrY_46 w hw)) (by decide +kernel) (vx_c (va_Nw.use rfl hC.2.2.1.1) (vx_c (va_Nw.use rfl hC.2.2.1.2.1) (vx_c (va_Nw.use rfl hC.2.2.1.2.2.1) (vx_c (va_Nw.use rfl hC.2.2.1.2.2.2) vx_n))))
    · exact fun t hvm hz hq9 => ⟨u0, trivial, ⟨⟨Or.inl ⟨rfl, c_1⟩, rfl⟩, hP.kept (fun k q hk => hq9 _ (hP k q hk).lt), va_K.moved hvm hK, hD⟩, Nat.le_trans hS.1 hz, fun q h1 h2 => (hq9 q (Nat.lt_of_lt_of_le h1 hS.1)).trans (hS.2.1 q h1 h2)⟩
