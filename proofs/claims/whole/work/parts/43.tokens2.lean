/-! the tokens' writing methods -/
abbrev wK (cI : ClassId) (h : Nat) (u : AD × TK) : va_W := wTk cI h u.1.1 u.1.2.1 u.1.2.2.1 u.1.2.2.2 u.2
theorem min_nI {a : Nat} (h : a < 2 ^ 31) : (if nI a < (1000 : Int32) then nI a else 1000) = nI (min 1000 a) := by
  by_cases z : a < 1000
  · have h1 : nI a < (1000 : Int32) := show nI a < nI 1000 from nI_lt z (by decide)
    rw [if_pos h1, Nat.min_eq_right (Nat.le_of_lt z)]
  · have h1 : ¬ nI a < (1000 : Int32) := show ¬ nI a < nI 1000 from nI_nlt (by omega) h
    rw [if_neg h1, Nat.min_eq_left (by omega)]; rfl
def k_grow (t : TK) (N : Nat) : TK := (cpn (tkK t) (tkc t), cpn (tkW t) (tkc t), cpn (tkN t) (tkc t), cpn (tkL t) (tkc t), tkn t, N)
def k_room (t : TK) : TK := if tkn t = tkc t then k_grow t (min 1000 (2 * tkn t)) else t
def k_add (t : TK) (k w n b : Int32) : TK := (upd (tkK (k_room t)) (tkn t) k, upd (tkW (k_room t)) (tkn t) w, upd (tkN (k_room t)) (tkn t) n, upd (tkL (k_room t)) (tkn t) (if b = 0 then 0 else 1), tkn t + 1, tkc (k_room t))
def k_clear (t : TK) : TK := (tkK t, tkW t, tkN t, tkL t, 0, tkc t)
def rcK (t : TK) : Nat := if tkn t = tkc t then 4 else 0
def rsK (t : TK) : Nat := if tkn t = tkc t then 4 * min 1000 (2 * tkn t) else 0
theorem k_room_n (t : TK) : tkn (k_room t) = tkn t := by unfold k_room; split <;> rfl
theorem k_room_ok {t : TK} (ho : okTk t) (hb : tkn t < 1000) : okTk (k_room t) ∧ tkn t < tkc (k_room t) := by
  obtain ⟨h1, h2, h3, h4⟩ := ho
  unfold k_room
  split
  · next h => exact ⟨⟨by show tkn t ≤ min 1000 (2 * tkn t); omega, by show min 1000 (2 * tkn t) < 2 ^ 31; omega, by show 64 ≤ min 1000 (2 * tkn t); omega, by show min 1000 (2 * tkn t) ≤ 1000; omega⟩, by show tkn t < min 1000 (2 * tkn t); omega⟩
  · next h => exact ⟨⟨h1, h2, h3, h4⟩, by omega⟩
theorem k_add_ok {t : TK} (k w n b : Int32) (ho : okTk t) (hb : tkn t < 1000) : okTk (k_add t k w n b) := by
  obtain ⟨h1, h2⟩ := k_room_ok ho hb
  exact ⟨by show tkn t + 1 ≤ tkc (k_room t); omega, h1.2⟩
theorem k_clear_ok {t : TK} (ho : okTk t) : okTk (k_clear t) := ⟨Nat.zero_le _, ho.2⟩
set_option maxRecDepth 100000 in
set_option maxHeartbeats 4000000 in
theorem m_Tk_grow (l : Launch) (dC : Nat → ClassId) (dI : Nat → Nat → Nat) (cI cZ : ClassId) (sa rk h : Nat) (ad : AD) (tk : TK) (htk : okTk tk) (sz : Nat) (N : Nat) (hN : tkc tk < N) (hN1 : N ≤ 1000) : cMv l y_Tk_grow c_Tk_grow 2 2 200 4 (4 * N) (dC, dI) cI cZ sa rk [.ref h, .int (nI N)] (wK cI h (ad, tk)) sz (fun u : AD × TK => u.2 = k_grow tk N) (wK cI h) := by
  refine Met.ofW (cc := c_Tk_grow) (maxL := 2) (ret := none) (by decide) rfl ?_
  intro p e s m args below meth c s₁ B hml hv
  obtain ⟨rfl, hsz, hP, hK, hD0, hC, hZ⟩ := hv
  have hx := B.exec
  have hb := B.bytes
  have hr := B.returns
  have hts0 := atoms_spec (ws := wy y_Tk_grow c_Tk_grow 2 none) B.pre
  have hts := htsL hts0
  have hown : s.vm.findClass R_Tk = some m.cls := findClass_of_methodNamed B.named
  have hlocks := B.notSynchronized
  subst hsz
  have hD := hD0.self (sz := s.heap.size)
  generalize hAe : va_A (wK cI h (ad, tk)) s.heap.size = A at hD hZ ⊢
  have hA : ∀ q : Nat, s.heap.size ≤ q → A q := fun q h => by rw [← hAe]; exact Or.inr h
  have hS : va_S A s.heap s.heap [] := va_S.rf
  have hg4 : N * 4 ≤ 536870912 := by omega
  have hgr := hN
  have hl := lv_entry ([.ref h, .int (nI N)]) (n := 2) (Nat.le_of_ble_eq_true rfl)
  rw [lg_entry_eq]
  generalize (lg_sl ([.ref h, .int (nI N)]) ++ List.replicate (2 - (lg_sl ([.ref h, .int (nI N)])).length) Slot.unset).toArray = ls at hl ⊢
  have hl : lv_has ls 2 [(0, .ref h), (1, .int (nI N))] := hl
  refine lv_aload_n hx hb d_Tk_grow_0 rfl (lv_at hl 0 rfl) ?_
  refine lv_aload_n hx hb d_Tk_grow_1 rfl (lv_at hl 0 rfl) ?_
  refine va_get (D := (dC, dI)) (ci := 3) (v := .ref ad.1) (C := R_Tk) (T := T_Tk) (N := 5) hx hb hts u_Tk hown hK hP 0 rfl rfl 0 (by decide) (hts _ L_115) (fun _ h9 => h9) rfl d_Tk_grow_2 ?_
  refine lv_iload_n hx hb d_Tk_grow_5 rfl (lv_at hl 1 rfl) ?_
  refine cp_S (N := N) (rest := [.ref h]) ⟨hx, hb, hml, hown, hts0⟩ hP hD hK hS hA hC hZ 1 rfl L_376 L_377 L_97 L_378 hgr hg4 ⟨Nat.le_of_ble_eq_true rfl, Nat.le_of_ble_eq_true rfl⟩ hl.1 ⟨by show _ + 1 ≤ 4; omega, by show _ + N ≤ 4 * N; omega⟩ (Nat.le_of_ble_eq_true rfl) d_Tk_grow_6 rfl (fun q1 H locs hP hD hS => ?_)
  have hP : va_P (dC, dI) cls [(h, .inr (3, [.ref ad.1, .ref ad.2.1, .ref ad.2.2.1, .ref ad.2.2.2, .int (nI (tkn tk))])), (ad.1, .inl (cI, tkc tk, .inl (tkK tk))), (ad.2.1, .inl (cI, tkc tk, .inl (tkW tk))), (ad.2.2.1, .inl (cI, tkc tk, .inl (tkN tk))), (ad.2.2.2, .inl (cI, tkc tk, .inl (tkL tk))), (q1, .inl (cI, N, .inl (cpn (tkK tk) (tkc tk))))] H := hP
  have hD : va_D A [(h, .inr (3, [.ref ad.1, .ref ad.2.1, .ref ad.2.2.1, .ref ad.2.2.2, .int (nI (tkn tk))])), (ad.1, .inl (cI, tkc tk, .inl (tkK tk))), (ad.2.1, .inl (cI, tkc tk, .inl (tkW tk))), (ad.2.2.1, .inl (cI, tkc tk, .inl (tkN tk))), (ad.2.2.2, .inl (cI, tkc tk, .inl (tkL tk))), (q1, .inl (cI, N, .inl (cpn (tkK tk) (tkc tk))))] := hD
  refine va_put (D := (dC, dI)) (ci := 3) (v := .ref q1) (ty := .array .int) (C := R_Tk) (T := T_Tk) (N := 5) hx hb hts u_Tk ty_Tk tk_Tk nm_Tk hown hK hP hD hS 0 rfl rfl 0 (by decide) (hts _ L_115) (fun _ h9 => h9) rfl (by decide +kernel) rfl rfl (Nat.le_of_ble_eq_true rfl) d_Tk_grow_9 (fun H locs hP hD hS => ?_)
  have hP : va_P (dC, dI) cls [(h, .inr (3, [.ref q1, .ref ad.2.1, .ref ad.2.2.1, .ref ad.2.2.2, .int (nI (tkn tk))])), (ad.1, .inl (cI, tkc tk, .inl (tkK tk))), (ad.2.1, .inl (cI, tkc tk, .inl (tkW tk))), (ad.2.2.1, .inl (cI, tkc tk, .inl (tkN tk))), (ad.2.2.2, .inl (cI, tkc tk, .inl (tkL tk))), (q1, .inl (cI, N, .inl (cpn (tkK tk) (tkc tk))))] H := hP
  have hD : va_D A [(h, .inr (3, [.ref q1, .ref ad.2.1, .ref ad.2.2.1, .ref ad.2.2.2, .int (nI (tkn tk))])), (ad.1, .inl (cI, tkc tk, .inl (tkK tk))), (ad.2.1, .inl (cI, tkc tk, .inl (tkW tk))), (ad.2.2.1, .inl (cI, tkc tk, .inl (tkN tk))), (ad.2.2.2, .inl (cI, tkc tk, .inl (tkL tk))), (q1, .inl (cI, N, .inl (cpn (tkK tk) (tkc tk))))] := hD
  refine lv_aload_n hx hb d_Tk_grow_12 rfl (lv_at hl 0 rfl) ?_
  refine lv_aload_n hx hb d_Tk_grow_13 rfl (lv_at hl 0 rfl) ?_
  refine va_get (D := (dC, dI)) (ci := 3) (v := .ref ad.2.1) (C := R_Tk) (T := T_Tk) (N := 5) hx hb hts u_Tk hown hK hP 0 rfl rfl 1 (by decide) (hts _ L_116) (fun _ h9 => h9) rfl d_Tk_grow_14 ?_
  refine lv_iload_n hx hb d_Tk_grow_17 rfl (lv_at hl 1 rfl) ?_
  refine cp_S (N := N) (rest := [.ref h]) ⟨hx, hb, hml, hown, hts0⟩ hP hD hK hS hA hC hZ 2 rfl L_376 L_377 L_97 L_378 hgr hg4 ⟨Nat.le_of_ble_eq_true rfl, Nat.le_of_ble_eq_true rfl⟩ hl.1 ⟨by show _ + 1 ≤ 4; omega, by show _ + N ≤ 4 * N; omega⟩ (Nat.le_of_ble_eq_true rfl) d_Tk_grow_18 rfl (fun q2 H locs hP hD hS => ?_)
  have hP : va_P (dC, dI) cls [(h, .inr (3, [.ref q1, .ref ad.2.1, .ref ad.2.2.1, .ref ad.2.2.2, .int (nI (tkn tk))])), (ad.1, .inl (cI, tkc tk, .inl (tkK tk))), (ad.2.1, .inl (cI, tkc tk, .inl (tkW tk))), (ad.2.2.1, .inl (cI, tkc tk, .inl (tkN tk))), (ad.2.2.2, .inl (cI, tkc tk, .inl (tkL tk))), (q1, .inl (cI, N, .inl (cpn (tkK tk) (tkc tk)))), (q2, .inl (cI, N, .inl (cpn (tkW tk) (tkc tk))))] H := hP
  have hD : va_D A [(h, .inr (3, [.ref q1, .ref ad.2.1, .ref ad.2.2.1, .ref ad.2.2.2, .int (nI (tkn tk))])), (ad.1, .inl (cI, tkc tk, .inl (tkK tk))), (ad.2.1, .inl (cI, tkc tk, .inl (tkW tk))), (ad.2.2.1, .inl (cI, tkc tk, .inl (tkN tk))), (ad.2.2.2, .inl (cI, tkc tk, .inl (tkL tk))), (q1, .inl (cI, N, .inl (cpn (tkK tk) (tkc tk)))), (q2, .inl (cI, N, .inl (cpn (tkW tk) (tkc tk))))] := hD
  refine va_put (D := (dC, dI)) (ci := 3) (v := .ref q2) (ty := .array .int) (C := R_Tk) (T := T_Tk) (N := 5) hx hb hts u_Tk ty_Tk tk_Tk nm_Tk hown hK hP hD hS 0 rfl rfl 1 (by decide) (hts _ L_116) (fun _ h9 => h9) rfl (by decide +kernel) rfl rfl (Nat.le_of_ble_eq_true rfl) d_Tk_grow_21 (fun H locs hP hD hS => ?_)
  have hP : va_P (dC, dI) cls [(h, .inr (3, [.ref q1, .ref q2, .ref ad.2.2.1, .ref ad.2.2.2, .int (nI (tkn tk))])), (ad.1, .inl (cI, tkc tk, .inl (tkK tk))), (ad.2.1, .inl (cI, tkc tk, .inl (tkW tk))), (ad.2.2.1, .inl (cI, tkc tk, .inl (tkN tk))), (ad.2.2.2, .inl (cI, tkc tk, .inl (tkL tk))), (q1, .inl (cI, N, .inl (cpn (tkK tk) (tkc tk)))), (q2, .inl (cI, N, .inl (cpn (tkW tk) (tkc tk))))] H := hP
  have hD : va_D A [(h, .inr (3, [.ref q1, .ref q2, .ref ad.2.2.1, .ref ad.2.2.2, .int (nI (tkn tk))])), (ad.1, .inl (cI, tkc tk, .inl (tkK tk))), (ad.2.1, .inl (cI, tkc tk, .inl (tkW tk))), (ad.2.2.1, .inl (cI, tkc tk, .inl (tkN tk))), (ad.2.2.2, .inl (cI, tkc tk, .inl (tkL tk))), (q1, .inl (cI, N, .inl (cpn (tkK tk) (tkc tk)))), (q2, .inl (cI, N, .inl (cpn (tkW tk) (tkc tk))))] := hD
  refine lv_aload_n hx hb d_Tk_grow_24 rfl (lv_at hl 0 rfl) ?_
  refine lv_aload_n hx hb d_Tk_grow_25 rfl (lv_at hl 0 rfl) ?_
  refine va_get (D := (dC, dI)) (ci := 3) (v := .ref ad.2.2.1) (C := R_Tk) (T := T_Tk) (N := 5) hx hb hts u_Tk hown hK hP 0 rfl rfl 2 (by decide) (hts _ L_117) (fun _ h9 => h9) rfl d_Tk_grow_26 ?_
  refine lv_iload_n hx hb d_Tk_grow_29 rfl (lv_at hl 1 rfl) ?_
  refine cp_S (N := N) (rest := [.ref h]) ⟨hx, hb, hml, hown, hts0⟩ hP hD hK hS hA hC hZ 3 rfl L_376 L_377 L_97 L_378 hgr hg4 ⟨Nat.le_of_ble_eq_true rfl, Nat.le_of_ble_eq_true rfl⟩ hl.1 ⟨by show _ + 1 ≤ 4; omega, by show _ + N ≤ 4 * N; omega⟩ (Nat.le_of_ble_eq_true rfl) d_Tk_grow_30 rfl (fun q3 H locs hP hD hS => ?_)
  have hP : va_P (dC, dI) cls [(h, .inr (3, [.ref q1, .ref q2, .ref ad.2.2.1, .ref ad.2.2.2, .int (nI (tkn tk))])), (ad.1, .inl (cI, tkc tk, .inl (tkK tk))), (ad.2.1, .inl (cI, tkc tk, .inl (tkW tk))), (ad.2.2.1, .inl (cI, tkc tk, .inl (tkN tk))), (ad.2.2.2, .inl (cI, tkc tk, .inl (tkL tk))), (q1, .inl (cI, N, .inl (cpn (tkK tk) (tkc tk)))), (q2, .inl (cI, N, .inl (cpn (tkW tk) (tkc tk)))), (q3, .inl (cI, N, .inl (cpn (tkN tk) (tkc tk))))] H := hP
  have hD : va_D A [(h, .inr (3, [.ref q1, .ref q2, .ref ad.2.2.1, .ref ad.2.2.2, .int (nI (tkn tk))])), (ad.1, .inl (cI, tkc tk, .inl (tkK tk))), (ad.2.1, .inl (cI, tkc tk, .inl (tkW tk))), (ad.2.2.1, .inl (cI, tkc tk, .inl (tkN tk))), (ad.2.2.2, .inl (cI, tkc tk, .inl (tkL tk))), (q1, .inl (cI, N, .inl (cpn (tkK tk) (tkc tk)))), (q2, .inl (cI, N, .inl (cpn (tkW tk) (tkc tk)))), (q3, .inl (cI, N, .inl (cpn (tkN tk) (tkc tk))))] := hD
  refine va_put (D := (dC, dI)) (ci := 3) (v := .ref q3) (ty := .array .int) (C := R_Tk) (T := T_Tk) (N := 5) hx hb hts u_Tk ty_Tk tk_Tk nm_Tk hown hK hP hD hS 0 rfl rfl 2 (by decide) (hts _ L_117) (fun _ h9 => h9) rfl (by decide +kernel) rfl rfl (Nat.le_of_ble_eq_true rfl) d_Tk_grow_33 (fun H locs hP hD hS => ?_)
  have hP : va_P (dC, dI) cls [(h, .inr (3, [.ref q1, .ref q2, .ref q3, .ref ad.2.2.2, .int (nI (tkn tk))])), (ad.1, .inl (cI, tkc tk, .inl (tkK tk))), (ad.2.1, .inl (cI, tkc tk, .inl (tkW tk))), (ad.2.2.1, .inl (cI, tkc tk, .inl (tkN tk))), (ad.2.2.2, .inl (cI, tkc tk, .inl (tkL tk))), (q1, .inl (cI, N, .inl (cpn (tkK tk) (tkc tk)))), (q2, .inl (cI, N, .inl (cpn (tkW tk) (tkc tk)))), (q3, .inl (cI, N, .inl (cpn (tkN tk) (tkc tk))))] H := hP
  have hD : va_D A [(h, .inr (3, [.ref q1, .ref q2, .ref q3, .ref ad.2.2.2, .int (nI (tkn tk))])), (ad.1, .inl (cI, tkc tk, .inl (tkK tk))), (ad.2.1, .inl (cI, tkc tk, .inl (tkW tk))), (ad.2.2.1, .inl (cI, tkc tk, .inl (tkN tk))), (ad.2.2.2, .inl (cI, tkc tk, .inl (tkL tk))), (q1, .inl (cI, N, .inl (cpn (tkK tk) (tkc tk)))), (q2, .inl (cI, N, .inl (cpn (tkW tk) (tkc tk)))), (q3, .inl (cI, N, .inl (cpn (tkN tk) (tkc tk))))] := hD
  refine lv_aload_n hx hb d_Tk_grow_36 rfl (lv_at hl 0 rfl) ?_
  refine lv_aload_n hx hb d_Tk_grow_37 rfl (lv_at hl 0 rfl) ?_
  refine va_get (D := (dC, dI)) (ci := 3) (v := .ref ad.2.2.2) (C := R_Tk) (T := T_Tk) (N := 5) hx hb hts u_Tk hown hK hP 0 rfl rfl 3 (by decide) (hts _ L_118) (fun _ h9 => h9) rfl d_Tk_grow_38 ?_
  refine lv_iload_n hx hb d_Tk_grow_41 rfl (lv_at hl 1 rfl) ?_
  refine cp_S (N := N) (rest := [.ref h]) ⟨hx, hb, hml, hown, hts0⟩ hP hD hK hS hA hC hZ 4 rfl L_376 L_377 L_97 L_378 hgr hg4 ⟨Nat.le_of_ble_eq_true rfl, Nat.le_of_ble_eq_true rfl⟩ hl.1 ⟨by show _ + 1 ≤ 4; omega, by show _ + N ≤ 4 * N; omega⟩ (Nat.le_of_ble_eq_true rfl) d_Tk_grow_42 rfl (fun q4 H locs hP hD hS => ?_)
  have hP : va_P (dC, dI) cls [(h, .inr (3, [.ref q1, .ref q2, .ref q3, .ref ad.2.2.2, .int (nI (tkn tk))])), (ad.1, .inl (cI, tkc tk, .inl (tkK tk))), (ad.2.1, .inl (cI, tkc tk, .inl (tkW tk))), (ad.2.2.1, .inl (cI, tkc tk, .inl (tkN tk))), (ad.2.2.2, .inl (cI, tkc tk, .inl (tkL tk))), (q1, .inl (cI, N, .inl (cpn (tkK tk) (tkc tk)))), (q2, .inl (cI, N, .inl (cpn (tkW tk) (tkc tk)))), (q3, .inl (cI, N, .inl (cpn (tkN tk) (tkc tk)))), (q4, .inl (cI, N, .inl (cpn (tkL tk) (tkc tk))))] H := hP
  have hD : va_D A [(h, .inr (3, [.ref q1, .ref q2, .ref q3, .ref ad.2.2.2, .int (nI (tkn tk))])), (ad.1, .inl (cI, tkc tk, .inl (tkK tk))), (ad.2.1, .inl (cI, tkc tk, .inl (tkW tk))), (ad.2.2.1, .inl (cI, tkc tk, .inl (tkN tk))), (ad.2.2.2, .inl (cI, tkc tk, .inl (tkL tk))), (q1, .inl (cI, N, .inl (cpn (tkK tk) (tkc tk)))), (q2, .inl (cI, N, .inl (cpn (tkW tk) (tkc tk)))), (q3, .inl (cI, N, .inl (cpn (tkN tk) (tkc tk)))), (q4, .inl (cI, N, .inl (cpn (tkL tk) (tkc tk))))] := hD
  refine va_put (D := (dC, dI)) (ci := 3) (v := .ref q4) (ty := .array .int) (C := R_Tk) (T := T_Tk) (N := 5) hx hb hts u_Tk ty_Tk tk_Tk nm_Tk hown hK hP hD hS 0 rfl rfl 3 (by decide) (hts _ L_118) (fun _ h9 => h9) rfl (by decide +kernel) rfl rfl (Nat.le_of_ble_eq_true rfl) d_Tk_grow_45 (fun H locs hP hD hS => ?_)
  have hP : va_P (dC, dI) cls [(h, .inr (3, [.ref q1, .ref q2, .ref q3, .ref q4, .int (nI (tkn tk))])), (ad.1, .inl (cI, tkc tk, .inl (tkK tk))), (ad.2.1, .inl (cI, tkc tk, .inl (tkW tk))), (ad.2.2.1, .inl (cI, tkc tk, .inl (tkN tk))), (ad.2.2.2, .inl (cI, tkc tk, .inl (tkL tk))), (q1, .inl (cI, N, .inl (cpn (tkK tk) (tkc tk)))), (q2, .inl (cI, N, .inl (cpn (tkW tk) (tkc tk)))), (q3, .inl (cI, N, .inl (cpn (tkN tk) (tkc tk)))), (q4, .inl (cI, N, .inl (cpn (tkL tk) (tkc tk))))] H := hP
  have hD : va_D A [(h, .inr (3, [.ref q1, .ref q2, .ref q3, .ref q4, .int (nI (tkn tk))])), (ad.1, .inl (cI, tkc tk, .inl (tkK tk))), (ad.2.1, .inl (cI, tkc tk, .inl (tkW tk))), (ad.2.2.1, .inl (cI, tkc tk, .inl (tkN tk))), (ad.2.2.2, .inl (cI, tkc tk, .inl (tkL tk))), (q1, .inl (cI, N, .inl (cpn (tkK tk) (tkc tk)))), (q2, .inl (cI, N, .inl (cpn (tkW tk) (tkc tk)))), (q3, .inl (cI, N, .inl (cpn (tkN tk) (tkc tk)))), (q4, .inl (cI, N, .inl (cpn (tkL tk) (tkc tk))))] := hD
  refine W.widen (k := 4) (n := 4 * N) (by omega) (by omega) ?_
  exact W.vret hx hb hr (fun t ht9 hW => ⟨⟨((q1, q2, q3, q4), k_grow tk N), rfl, rfl, by rw [ht9]; exact hP.sub [0, 5, 6, 7, 8] rfl, va_K.moved hW.alike hK, hD.sub [0, 5, 6, 7, 8] (by decide) rfl⟩, hS.F ht9⟩) hS.2.2 d_Tk_grow_48
set_option maxRecDepth 100000 in
set_option maxHeartbeats 4000000 in
theorem m_Tk_clear (l : Launch) (dC : Nat → ClassId) (dI : Nat → Nat → Nat) (cI cZ : ClassId) (sa rk h : Nat) (ad : AD) (tk : TK) (htk : okTk tk) (sz : Nat)   : cMv l y_Tk_clear c_Tk_clear 1 0 0 0 0 (dC, dI) cI cZ sa rk [.ref h] (wK cI h (ad, tk)) sz (fun u : AD × TK => u.2 = k_clear tk) (wK cI h) := by
  refine Met.ofW (cc := c_Tk_clear) (maxL := 1) (ret := none) (by decide) rfl ?_
  intro p e s m args below meth c s₁ B hml hv
  obtain ⟨rfl, hsz, hP, hK, hD0, hC, hZ⟩ := hv
  have hx := B.exec
  have hb := B.bytes
  have hr := B.returns
  have hts0 := atoms_spec (ws := wy y_Tk_clear c_Tk_clear 1 none) B.pre
  have hts := htsL hts0
  have hown : s.vm.findClass R_Tk = some m.cls := findClass_of_methodNamed B.named
  have hlocks := B.notSynchronized
  subst hsz
  have hD := hD0.self (sz := s.heap.size)
  generalize hAe : va_A (wK cI h (ad, tk)) s.heap.size = A at hD hZ ⊢
  have hA : ∀ q : Nat, s.heap.size ≤ q → A q := fun q h => by rw [← hAe]; exact Or.inr h
  have hS : va_S A s.heap s.heap [] := va_S.rf
  have hl := lv_entry ([.ref h]) (n := 1) (Nat.le_of_ble_eq_true rfl)
  rw [lg_entry_eq]
  generalize (lg_sl ([.ref h]) ++ List.replicate (1 - (lg_sl ([.ref h])).length) Slot.unset).toArray = ls at hl ⊢
  have hl : lv_has ls 1 [(0, .ref h)] := hl
  refine lv_aload_n hx hb d_Tk_clear_0 rfl (lv_at hl 0 rfl) ?_
  refine lv_iconst (v := 0) hx hb d_Tk_clear_1 (by decide) ?_
  refine va_put (D := (dC, dI)) (ci := 3) (v := .int 0) (ty := .int) (C := R_Tk) (T := T_Tk) (N := 5) hx hb hts u_Tk ty_Tk tk_Tk nm_Tk hown hK hP hD hS 0 rfl rfl 4 (by decide) (hts _ L_119) (fun _ h9 => h9) rfl (by decide +kernel) rfl rfl (Nat.le_of_ble_eq_true rfl) d_Tk_clear_2 (fun H locs hP hD hS => ?_)
  have hP : va_P (dC, dI) cls [(h, .inr (3, [.ref ad.1, .ref ad.2.1, .ref ad.2.2.1, .ref ad.2.2.2, .int 0])), (ad.1, .inl (cI, tkc tk, .inl (tkK tk))), (ad.2.1, .inl (cI, tkc tk, .inl (tkW tk))), (ad.2.2.1, .inl (cI, tkc tk, .inl (tkN tk))), (ad.2.2.2, .inl (cI, tkc tk, .inl (tkL tk)))] H := hP
  have hD : va_D A [(h, .inr (3, [.ref ad.1, .ref ad.2.1, .ref ad.2.2.1, .ref ad.2.2.2, .int 0])), (ad.1, .inl (cI, tkc tk, .inl (tkK tk))), (ad.2.1, .inl (cI, tkc tk, .inl (tkW tk))), (ad.2.2.1, .inl (cI, tkc tk, .inl (tkN tk))), (ad.2.2.2, .inl (cI, tkc tk, .inl (tkL tk)))] := hD
  exact W.vret hx hb hr (fun t ht9 hW => ⟨⟨(ad, k_clear tk), rfl, rfl, by rw [ht9]; exact hP.sub [0, 1, 2, 3, 4] rfl, va_K.moved hW.alike hK, hD.sub [0, 1, 2, 3, 4] (by decide) rfl⟩, hS.F ht9⟩) hS.2.2 d_Tk_clear_5
set_option maxRecDepth 100000 in
set_option maxHeartbeats 4000000 in
theorem m_Tk_add (l : Launch) (dC : Nat → ClassId) (dI : Nat → Nat → Nat) (cI cZ : ClassId) (sa rk h : Nat) (ad : AD) (tk : TK) (htk : okTk tk) (sz : Nat) (kind : Int32) (word : Int32) (name : Int32) (line : Int32) (hn : tkn tk < 1000) : cMv l y_Tk_add c_Tk_add 5 3 300 (rcK tk) (rsK tk) (dC, dI) cI cZ sa rk [.ref h, .int kind, .int word, .int name, .int line] (wK cI h (ad, tk)) sz (fun u : AD × TK => u.2 = k_add tk kind word name line) (wK cI h) := by
  refine Met.ofW (cc := c_Tk_add) (maxL := 5) (ret := none) (by decide) rfl ?_
  intro p e s m args below meth c s₁ B hml hv
  obtain ⟨rfl, hsz, hP, hK, hD0, hC, hZ⟩ := hv
  have hx := B.exec
  have hb := B.bytes
  have hr := B.returns
  have hts0 := atoms_spec (ws := wy y_Tk_add c_Tk_add 5 none) B.pre
  have hts := htsL hts0
  have hown : s.vm.findClass R_Tk = some m.cls := findClass_of_methodNamed B.named
  have hlocks := B.notSynchronized
  subst hsz
  have hD := hD0.self (sz := s.heap.size)
  generalize hAe : va_A (wK cI h (ad, tk)) s.heap.size = A at hD hZ ⊢
  have hA : ∀ q : Nat, s.heap.size ≤ q → A q := fun q h => by rw [← hAe]; exact Or.inr h
  have hS : va_S A s.heap s.heap [] := va_S.rf
  have hlt : nI (tkn tk) < (1000 : Int32) := show nI (tkn tk) < nI 1000 from nI_lt hn (by decide)
  obtain ⟨hok, hin0⟩ := k_room_ok htk hn
  have hl := lv_entry ([.ref h, .int kind, .int word, .int name, .int line]) (n := 5) (Nat.le_of_ble_eq_true rfl)
  rw [lg_entry_eq]
  generalize (lg_sl ([.ref h, .int kind, .int word, .int name, .int line]) ++ List.replicate (5 - (lg_sl ([.ref h, .int kind, .int word, .int name, .int line])).length) Slot.unset).toArray = ls at hl ⊢
  have hl : lv_has ls 5 [(0, .ref h), (1, .int kind), (2, .int word), (3, .int name), (4, .int line)] := hl
  refine lv_aload_n hx hb d_Tk_add_0 rfl (lv_at hl 0 rfl) ?_
  refine va_get (D := (dC, dI)) (ci := 3) (v := .int (nI (tkn tk))) (C := R_Tk) (T := T_Tk) (N := 5) hx hb hts u_Tk hown hK hP 0 rfl rfl 4 (by decide) (hts _ L_119) (fun _ h9 => h9) rfl d_Tk_add_1 ?_
  refine lv_sipush (v := 1000) hx hb d_Tk_add_4 (by decide) ?_
  refine lv_icmp_lt (tgt := 11) hx hb d_Tk_add_7 (by decide) (fun _ => ?_) (fun q9 => absurd hlt q9)
  refine lv_aload_n hx hb d_Tk_add_11 rfl (lv_at hl 0 rfl) ?_
  refine va_get (D := (dC, dI)) (ci := 3) (v := .int (nI (tkn tk))) (C := R_Tk) (T := T_Tk) (N := 5) hx hb hts u_Tk hown hK hP 0 rfl rfl 4 (by decide) (hts _ L_119) (fun _ h9 => h9) rfl d_Tk_add_12 ?_
  refine lv_aload_n hx hb d_Tk_add_15 rfl (lv_at hl 0 rfl) ?_
  refine va_get (D := (dC, dI)) (ci := 3) (v := .ref ad.1) (C := R_Tk) (T := T_Tk) (N := 5) hx hb hts u_Tk hown hK hP 0 rfl rfl 0 (by decide) (hts _ L_115) (fun _ h9 => h9) rfl d_Tk_add_16 ?_
  refine va_alen (D := (dC, dI)) (v := nI (tkc tk)) hx hb hK hP 1 0 rfl rfl rfl d_Tk_add_19 ?_
  refine lv_icmp_ne (tgt := 39) hx hb d_Tk_add_20 (by decide) (fun c_1 => ?_) (fun c_1 => ?_)
  · have hne : ¬ tkn tk = tkc tk := fun z => c_1 (by rw [z])
    have hkr : k_room tk = tk := by unfold k_room; rw [if_neg hne]
    have hin1 : tkn tk < tkc tk := by have z := hin0; rw [hkr] at z; exact z
    have hin2 : tkc tk < 2 ^ 31 := by have z := hok.2.1; rw [hkr] at z; exact z
    have hin : vp_in (nI (tkn tk)) (tkc tk) := vp_in_nI hin1 hin2
    refine lv_aload_n hx hb d_Tk_add_39 rfl (lv_at hl 0 rfl) ?_
    refine va_get (D := (dC, dI)) (ci := 3) (v := .ref ad.1) (C := R_Tk) (T := T_Tk) (N := 5) hx hb hts u_Tk hown hK hP 0 rfl rfl 0 (by decide) (hts _ L_115) (fun _ h9 => h9) rfl d_Tk_add_40 ?_
    refine lv_aload_n hx hb d_Tk_add_43 rfl (lv_at hl 0 rfl) ?_
    refine va_get (D := (dC, dI)) (ci := 3) (v := .int (nI (tkn tk))) (C := R_Tk) (T := T_Tk) (N := 5) hx hb hts u_Tk hown hK hP 0 rfl rfl 4 (by decide) (hts _ L_119) (fun _ h9 => h9) rfl d_Tk_add_44 ?_
    refine lv_iload_n hx hb d_Tk_add_47 rfl (lv_at hl 1 rfl) ?_
    refine va_iast (D := (dC, dI)) hx hb hK hP hD hS 1 0 rfl rfl hin d_Tk_add_48 (fun H locs hP hD hS => ?_)
    have hP : va_P (dC, dI) cls [(h, .inr (3, [.ref ad.1, .ref ad.2.1, .ref ad.2.2.1, .ref ad.2.2.2, .int (nI (tkn tk))])), (ad.1, .inl (cI, tkc tk, .inl (upd (tkK tk) (nI (tkn tk) : Int32).toNatClampNeg kind))), (ad.2.1, .inl (cI, tkc tk, .inl (tkW tk))), (ad.2.2.1, .inl (cI, tkc tk, .inl (tkN tk))), (ad.2.2.2, .inl (cI, tkc tk, .inl (tkL tk)))] H := hP
    have hD : va_D A [(h, .inr (3, [.ref ad.1, .ref ad.2.1, .ref ad.2.2.1, .ref ad.2.2.2, .int (nI (tkn tk))])), (ad.1, .inl (cI, tkc tk, .inl (upd (tkK tk) (nI (tkn tk) : Int32).toNatClampNeg kind))), (ad.2.1, .inl (cI, tkc tk, .inl (tkW tk))), (ad.2.2.1, .inl (cI, tkc tk, .inl (tkN tk))), (ad.2.2.2, .inl (cI, tkc tk, .inl (tkL tk)))] := hD
    refine lv_aload_n hx hb d_Tk_add_49 rfl (lv_at hl 0 rfl) ?_
    refine va_get (D := (dC, dI)) (ci := 3) (v := .ref ad.2.1) (C := R_Tk) (T := T_Tk) (N := 5) hx hb hts u_Tk hown hK hP 0 rfl rfl 1 (by decide) (hts _ L_116) (fun _ h9 => h9) rfl d_Tk_add_50 ?_
    refine lv_aload_n hx hb d_Tk_add_53 rfl (lv_at hl 0 rfl) ?_
    refine va_get (D := (dC, dI)) (ci := 3) (v := .int (nI (tkn tk))) (C := R_Tk) (T := T_Tk) (N := 5) hx hb hts u_Tk hown hK hP 0 rfl rfl 4 (by decide) (hts _ L_119) (fun _ h9 => h9) rfl d_Tk_add_54 ?_
    refine lv_iload_n hx hb d_Tk_add_57 rfl (lv_at hl 2 rfl) ?_
    refine va_iast (D := (dC, dI)) hx hb hK hP hD hS 2 0 rfl rfl hin d_Tk_add_58 (fun H locs hP hD hS => ?_)
    have hP : va_P (dC, dI) cls [(h, .inr (3, [.ref ad.1, .ref ad.2.1, .ref ad.2.2.1, .ref ad.2.2.2, .int (nI (tkn tk))])), (ad.1, .inl (cI, tkc tk, .inl (upd (tkK tk) (nI (tkn tk) : Int32).toNatClampNeg kind))), (ad.2.1, .inl (cI, tkc tk, .inl (upd (tkW tk) (nI (tkn tk) : Int32).toNatClampNeg word))), (ad.2.2.1, .inl (cI, tkc tk, .inl (tkN tk))), (ad.2.2.2, .inl (cI, tkc tk, .inl (tkL tk)))] H := hP
    have hD : va_D A [(h, .inr (3, [.ref ad.1, .ref ad.2.1, .ref ad.2.2.1, .ref ad.2.2.2, .int (nI (tkn tk))])), (ad.1, .inl (cI, tkc tk, .inl (upd (tkK tk) (nI (tkn tk) : Int32).toNatClampNeg kind))), (ad.2.1, .inl (cI, tkc tk, .inl (upd (tkW tk) (nI (tkn tk) : Int32).toNatClampNeg word))), (ad.2.2.1, .inl (cI, tkc tk, .inl (tkN tk))), (ad.2.2.2, .inl (cI, tkc tk, .inl (tkL tk)))] := hD
    refine lv_aload_n hx hb d_Tk_add_59 rfl (lv_at hl 0 rfl) ?_
    refine va_get (D := (dC, dI)) (ci := 3) (v := .ref ad.2.2.1) (C := R_Tk) (T := T_Tk) (N := 5) hx hb hts u_Tk hown hK hP 0 rfl rfl 2 (by decide) (hts _ L_117) (fun _ h9 => h9) rfl d_Tk_add_60 ?_
    refine lv_aload_n hx hb d_Tk_add_63 rfl (lv_at hl 0 rfl) ?_
    refine va_get (D := (dC, dI)) (ci := 3) (v := .int (nI (tkn tk))) (C := R_Tk) (T := T_Tk) (N := 5) hx hb hts u_Tk hown hK hP 0 rfl rfl 4 (by decide) (hts _ L_119) (fun _ h9 => h9) rfl d_Tk_add_64 ?_
    refine lv_iload_n hx hb d_Tk_add_67 rfl (lv_at hl 3 rfl) ?_
    refine va_iast (D := (dC, dI)) hx hb hK hP hD hS 3 0 rfl rfl hin d_Tk_add_68 (fun H locs hP hD hS => ?_)
    have hP : va_P (dC, dI) cls [(h, .inr (3, [.ref ad.1, .ref ad.2.1, .ref ad.2.2.1, .ref ad.2.2.2, .int (nI (tkn tk))])), (ad.1, .inl (cI, tkc tk, .inl (upd (tkK tk) (nI (tkn tk) : Int32).toNatClampNeg kind))), (ad.2.1, .inl (cI, tkc tk, .inl (upd (tkW tk) (nI (tkn tk) : Int32).toNatClampNeg word))), (ad.2.2.1, .inl (cI, tkc tk, .inl (upd (tkN tk) (nI (tkn tk) : Int32).toNatClampNeg name))), (ad.2.2.2, .inl (cI, tkc tk, .inl (tkL tk)))] H := hP
    have hD : va_D A [(h, .inr (3, [.ref ad.1, .ref ad.2.1, .ref ad.2.2.1, .ref ad.2.2.2, .int (nI (tkn tk))])), (ad.1, .inl (cI, tkc tk, .inl (upd (tkK tk) (nI (tkn tk) : Int32).toNatClampNeg kind))), (ad.2.1, .inl (cI, tkc tk, .inl (upd (tkW tk) (nI (tkn tk) : Int32).toNatClampNeg word))), (ad.2.2.1, .inl (cI, tkc tk, .inl (upd (tkN tk) (nI (tkn tk) : Int32).toNatClampNeg name))), (ad.2.2.2, .inl (cI, tkc tk, .inl (tkL tk)))] := hD
    refine lv_aload_n hx hb d_Tk_add_69 rfl (lv_at hl 0 rfl) ?_
    refine va_get (D := (dC, dI)) (ci := 3) (v := .ref ad.2.2.2) (C := R_Tk) (T := T_Tk) (N := 5) hx hb hts u_Tk hown hK hP 0 rfl rfl 3 (by decide) (hts _ L_118) (fun _ h9 => h9) rfl d_Tk_add_70 ?_
    refine lv_aload_n hx hb d_Tk_add_73 rfl (lv_at hl 0 rfl) ?_
    refine va_get (D := (dC, dI)) (ci := 3) (v := .int (nI (tkn tk))) (C := R_Tk) (T := T_Tk) (N := 5) hx hb hts u_Tk hown hK hP 0 rfl rfl 4 (by decide) (hts _ L_119) (fun _ h9 => h9) rfl d_Tk_add_74 ?_
    refine lv_iload hx hb d_Tk_add_77 (lv_at hl 4 rfl) ?_
    refine lv_if_eq (tgt := 86) hx hb d_Tk_add_79 (by decide) (fun c_2 => ?_) (fun c_2 => ?_)
    · refine lv_iconst (v := 0) hx hb d_Tk_add_86 (by decide) ?_
      refine va_iast (D := (dC, dI)) hx hb hK hP hD hS 4 0 rfl rfl hin d_Tk_add_87 (fun H locs hP hD hS => ?_)
      have hP : va_P (dC, dI) cls [(h, .inr (3, [.ref ad.1, .ref ad.2.1, .ref ad.2.2.1, .ref ad.2.2.2, .int (nI (tkn tk))])), (ad.1, .inl (cI, tkc tk, .inl (upd (tkK tk) (nI (tkn tk) : Int32).toNatClampNeg kind))), (ad.2.1, .inl (cI, tkc tk, .inl (upd (tkW tk) (nI (tkn tk) : Int32).toNatClampNeg word))), (ad.2.2.1, .inl (cI, tkc tk, .inl (upd (tkN tk) (nI (tkn tk) : Int32).toNatClampNeg name))), (ad.2.2.2, .inl (cI, tkc tk, .inl (upd (tkL tk) (nI (tkn tk) : Int32).toNatClampNeg 0)))] H := hP
      have hD : va_D A [(h, .inr (3, [.ref ad.1, .ref ad.2.1, .ref ad.2.2.1, .ref ad.2.2.2, .int (nI (tkn tk))])), (ad.1, .inl (cI, tkc tk, .inl (upd (tkK tk) (nI (tkn tk) : Int32).toNatClampNeg kind))), (ad.2.1, .inl (cI, tkc tk, .inl (upd (tkW tk) (nI (tkn tk) : Int32).toNatClampNeg word))), (ad.2.2.1, .inl (cI, tkc tk, .inl (upd (tkN tk) (nI (tkn tk) : Int32).toNatClampNeg name))), (ad.2.2.2, .inl (cI, tkc tk, .inl (upd (tkL tk) (nI (tkn tk) : Int32).toNatClampNeg 0)))] := hD
      refine lv_aload_n hx hb d_Tk_add_88 rfl (lv_at hl 0 rfl) ?_
      refine lv_dup hx hb d_Tk_add_89 rfl ?_
      refine va_get (D := (dC, dI)) (ci := 3) (v := .int (nI (tkn tk))) (C := R_Tk) (T := T_Tk) (N := 5) hx hb hts u_Tk hown hK hP 0 rfl rfl 4 (by decide) (hts _ L_119) (fun _ h9 => h9) rfl d_Tk_add_90 ?_
      refine lv_iconst (v := 1) hx hb d_Tk_add_93 (by decide) ?_
      refine lv_iadd hx hb d_Tk_add_94 ?_
      refine lv_eqi (y := (nI (tkn tk + 1))) (nI_1 _) ?_
      refine va_put (D := (dC, dI)) (ci := 3) (v := .int (nI (tkn tk + 1))) (ty := .int) (C := R_Tk) (T := T_Tk) (N := 5) hx hb hts u_Tk ty_Tk tk_Tk nm_Tk hown hK hP hD hS 0 rfl rfl 4 (by decide) (hts _ L_119) (fun _ h9 => h9) rfl (by decide +kernel) rfl rfl (Nat.le_of_ble_eq_true rfl) d_Tk_add_95 (fun H locs hP hD hS => ?_)
      have hP : va_P (dC, dI) cls [(h, .inr (3, [.ref ad.1, .ref ad.2.1, .ref ad.2.2.1, .ref ad.2.2.2, .int (nI (tkn tk + 1))])), (ad.1, .inl (cI, tkc tk, .inl (upd (tkK tk) (nI (tkn tk) : Int32).toNatClampNeg kind))), (ad.2.1, .inl (cI, tkc tk, .inl (upd (tkW tk) (nI (tkn tk) : Int32).toNatClampNeg word))), (ad.2.2.1, .inl (cI, tkc tk, .inl (upd (tkN tk) (nI (tkn tk) : Int32).toNatClampNeg name))), (ad.2.2.2, .inl (cI, tkc tk, .inl (upd (tkL tk) (nI (tkn tk) : Int32).toNatClampNeg 0)))] H := hP
      have hD : va_D A [(h, .inr (3, [.ref ad.1, .ref ad.2.1, .ref ad.2.2.1, .ref ad.2.2.2, .int (nI (tkn tk + 1))])), (ad.1, .inl (cI, tkc tk, .inl (upd (tkK tk) (nI (tkn tk) : Int32).toNatClampNeg kind))), (ad.2.1, .inl (cI, tkc tk, .inl (upd (tkW tk) (nI (tkn tk) : Int32).toNatClampNeg word))), (ad.2.2.1, .inl (cI, tkc tk, .inl (upd (tkN tk) (nI (tkn tk) : Int32).toNatClampNeg name))), (ad.2.2.2, .inl (cI, tkc tk, .inl (upd (tkL tk) (nI (tkn tk) : Int32).toNatClampNeg 0)))] := hD
      have hck : (nI (tkn tk)).toNatClampNeg = tkn tk := nI_clamp (by omega)
      have hcg : (nI (tkn (k_room tk))).toNatClampNeg = tkn tk := by rw [k_room_n]; exact hck
      rw [hkr] at hcg
      refine W.widen (k := rcK tk) (n := rsK tk) (Nat.zero_le _) (Nat.zero_le _) ?_
      exact W.vret hx hb hr (fun t ht9 hW => ⟨⟨(ad, k_add tk kind word name line), rfl, rfl, by rw [ht9]; unfold k_add; rw [hkr, if_pos c_2]; rw [hck] at hP; exact hP.sub [0, 1, 2, 3, 4] rfl, va_K.moved hW.alike hK, by unfold k_add; rw [hkr, if_pos c_2]; rw [hck] at hD; exact hD.sub [0, 1, 2, 3, 4] (by decide) rfl⟩, hS.F ht9⟩) hS.2.2 d_Tk_add_98
    · refine lv_iconst (v := 1) hx hb d_Tk_add_82 (by decide) ?_
      refine lv_goto (tgt := 87) hx hb d_Tk_add_83 (by decide) ?_
      refine va_iast (D := (dC, dI)) hx hb hK hP hD hS 4 0 rfl rfl hin d_Tk_add_87 (fun H locs hP hD hS => ?_)
      have hP : va_P (dC, dI) cls [(h, .inr (3, [.ref ad.1, .ref ad.2.1, .ref ad.2.2.1, .ref ad.2.2.2, .int (nI (tkn tk))])), (ad.1, .inl (cI, tkc tk, .inl (upd (tkK tk) (nI (tkn tk) : Int32).toNatClampNeg kind))), (ad.2.1, .inl (cI, tkc tk, .inl (upd (tkW tk) (nI (tkn tk) : Int32).toNatClampNeg word))), (ad.2.2.1, .inl (cI, tkc tk, .inl (upd (tkN tk) (nI (tkn tk) : Int32).toNatClampNeg name))), (ad.2.2.2, .inl (cI, tkc tk, .inl (upd (tkL tk) (nI (tkn tk) : Int32).toNatClampNeg 1)))] H := hP
      have hD : va_D A [(h, .inr (3, [.ref ad.1, .ref ad.2.1, .ref ad.2.2.1, .ref ad.2.2.2, .int (nI (tkn tk))])), (ad.1, .inl (cI, tkc tk, .inl (upd (tkK tk) (nI (tkn tk) : Int32).toNatClampNeg kind))), (ad.2.1, .inl (cI, tkc tk, .inl (upd (tkW tk) (nI (tkn tk) : Int32).toNatClampNeg word))), (ad.2.2.1, .inl (cI, tkc tk, .inl (upd (tkN tk) (nI (tkn tk) : Int32).toNatClampNeg name))), (ad.2.2.2, .inl (cI, tkc tk, .inl (upd (tkL tk) (nI (tkn tk) : Int32).toNatClampNeg 1)))] := hD
      refine lv_aload_n hx hb d_Tk_add_88 rfl (lv_at hl 0 rfl) ?_
      refine lv_dup hx hb d_Tk_add_89 rfl ?_
      refine va_get (D := (dC, dI)) (ci := 3) (v := .int (nI (tkn tk))) (C := R_Tk) (T := T_Tk) (N := 5) hx hb hts u_Tk hown hK hP 0 rfl rfl 4 (by decide) (hts _ L_119) (fun _ h9 => h9) rfl d_Tk_add_90 ?_
      refine lv_iconst (v := 1) hx hb d_Tk_add_93 (by decide) ?_
      refine lv_iadd hx hb d_Tk_add_94 ?_
      refine lv_eqi (y := (nI (tkn tk + 1))) (nI_1 _) ?_
      refine va_put (D := (dC, dI)) (ci := 3) (v := .int (nI (tkn tk + 1))) (ty := .int) (C := R_Tk) (T := T_Tk) (N := 5) hx hb hts u_Tk ty_Tk tk_Tk nm_Tk hown hK hP hD hS 0 rfl rfl 4 (by decide) (hts _ L_119) (fun _ h9 => h9) rfl (by decide +kernel) rfl rfl (Nat.le_of_ble_eq_true rfl) d_Tk_add_95 (fun H locs hP hD hS => ?_)
      have hP : va_P (dC, dI) cls [(h, .inr (3, [.ref ad.1, .ref ad.2.1, .ref ad.2.2.1, .ref ad.2.2.2, .int (nI (tkn tk + 1))])), (ad.1, .inl (cI, tkc tk, .inl (upd (tkK tk) (nI (tkn tk) : Int32).toNatClampNeg kind))), (ad.2.1, .inl (cI, tkc tk, .inl (upd (tkW tk) (nI (tkn tk) : Int32).toNatClampNeg word))), (ad.2.2.1, .inl (cI, tkc tk, .inl (upd (tkN tk) (nI (tkn tk) : Int32).toNatClampNeg name))), (ad.2.2.2, .inl (cI, tkc tk, .inl (upd (tkL tk) (nI (tkn tk) : Int32).toNatClampNeg 1)))] H := hP
      have hD : va_D A [(h, .inr (3, [.ref ad.1, .ref ad.2.1, .ref ad.2.2.1, .ref ad.2.2.2, .int (nI (tkn tk + 1))])), (ad.1, .inl (cI, tkc tk, .inl (upd (tkK tk) (nI (tkn tk) : Int32).toNatClampNeg kind))), (ad.2.1, .inl (cI, tkc tk, .inl (upd (tkW tk) (nI (tkn tk) : Int32).toNatClampNeg word))), (ad.2.2.1, .inl (cI, tkc tk, .inl (upd (tkN tk) (nI (tkn tk) : Int32).toNatClampNeg name))), (ad.2.2.2, .inl (cI, tkc tk, .inl (upd (tkL tk) (nI (tkn tk) : Int32).toNatClampNeg 1)))] := hD
      have hck : (nI (tkn tk)).toNatClampNeg = tkn tk := nI_clamp (by omega)
      have hcg : (nI (tkn (k_room tk))).toNatClampNeg = tkn tk := by rw [k_room_n]; exact hck
      rw [hkr] at hcg
      refine W.widen (k := rcK tk) (n := rsK tk) (Nat.zero_le _) (Nat.zero_le _) ?_
      exact W.vret hx hb hr (fun t ht9 hW => ⟨⟨(ad, k_add tk kind word name line), rfl, rfl, by rw [ht9]; unfold k_add; rw [hkr, if_neg c_2]; rw [hck] at hP; exact hP.sub [0, 1, 2, 3, 4] rfl, va_K.moved hW.alike hK, by unfold k_add; rw [hkr, if_neg c_2]; rw [hck] at hD; exact hD.sub [0, 1, 2, 3, 4] (by decide) rfl⟩, hS.F ht9⟩) hS.2.2 d_Tk_add_98
  · have heq : tkn tk = tkc tk := (nI_eq (Nat.lt_of_le_of_lt htk.1 htk.2.1) htk.2.1).mp c_1
    have hrc : rcK tk = 4 := by unfold rcK; rw [if_pos heq]
    have hrs : rsK tk = 4 * min 1000 (2 * tkn tk) := by unfold rsK; rw [if_pos heq]
    have hc64 := htk.2.2.1
    have hkr : k_room tk = k_grow tk (min 1000 (2 * tkn tk)) := by unfold k_room; rw [if_pos heq]
    refine lv_aload_n hx hb d_Tk_add_23 rfl (lv_at hl 0 rfl) ?_
    refine lv_sipush (v := 1000) hx hb d_Tk_add_24 (by decide) ?_
    refine lv_iconst (v := 2) hx hb d_Tk_add_27 (by decide) ?_
    refine lv_aload_n hx hb d_Tk_add_28 rfl (lv_at hl 0 rfl) ?_
    refine va_get (D := (dC, dI)) (ci := 3) (v := .int (nI (tkn tk))) (C := R_Tk) (T := T_Tk) (N := 5) hx hb hts u_Tk hown hK hP 0 rfl rfl 4 (by decide) (hts _ L_119) (fun _ h9 => h9) rfl d_Tk_add_29 ?_
    refine lv_imul hx hb d_Tk_add_32 ?_
    refine lv_eqi (y := (nI (2 * tkn tk))) (nI_2m _) ?_
    refine va_mmin hx hb (hml.trans hl.1.symm) hown (hts _ L_369) (hts _ L_370) (hts _ L_96) (hts _ L_371) (Nat.le_of_ble_eq_true rfl) (Nat.le_of_ble_eq_true rfl) (Nat.zero_le _) (Nat.zero_le _) d_Tk_add_33 ?_
    refine lv_eqi (y := nI (min 1000 (2 * tkn tk))) (min_nI (by omega)) ?_
    refine mu_Vv (S := AD × TK) (w' := wK cI h) (wr := []) (As := [.int (nI (min 1000 (2 * tkn tk)))]) (rest := []) ⟨hx, hb, hml, hown, hts0⟩ (m_Tk_grow l dC dI cI cZ sa rk h ad tk htk _ (min 1000 (2 * tkn tk)) (by omega) (by omega)) hP hD hK hS hA hC hZ [0, 1, 2, 3, 4] [] rfl rfl (by decide) (by decide) (by decide) 0 3 rfl rfl L_372 L_374 L_1 L_84 L_375 ⟨rfl, k_Tk_grow⟩ ⟨Nat.le_of_ble_eq_true rfl, Nat.le_of_ble_eq_true rfl⟩ hl.1 ⟨by show 0 + 4 ≤ rcK tk; rw [hrc]; omega, by show 0 + 4 * min 1000 (2 * tkn tk) ≤ rsK tk; rw [hrs]; omega⟩ (Nat.le_of_ble_eq_true rfl) d_Tk_add_36 rfl (fun u H locs hw hP hD hS => ?_)
    obtain ⟨ad1, t9⟩ := u
    have hw : t9 = (k_grow tk (min 1000 (2 * tkn tk))) := hw
    subst hw
    have hP : va_P (dC, dI) cls [(h, .inr (3, [.ref ad1.1, .ref ad1.2.1, .ref ad1.2.2.1, .ref ad1.2.2.2, .int (nI (tkn ((k_grow tk (min 1000 (2 * tkn tk))))))])), (ad1.1, .inl (cI, tkc ((k_grow tk (min 1000 (2 * tkn tk)))), .inl (tkK ((k_grow tk (min 1000 (2 * tkn tk))))))), (ad1.2.1, .inl (cI, tkc ((k_grow tk (min 1000 (2 * tkn tk)))), .inl (tkW ((k_grow tk (min 1000 (2 * tkn tk))))))), (ad1.2.2.1, .inl (cI, tkc ((k_grow tk (min 1000 (2 * tkn tk)))), .inl (tkN ((k_grow tk (min 1000 (2 * tkn tk))))))), (ad1.2.2.2, .inl (cI, tkc ((k_grow tk (min 1000 (2 * tkn tk)))), .inl (tkL ((k_grow tk (min 1000 (2 * tkn tk)))))))] H := hP
    have hD : va_D A [(h, .inr (3, [.ref ad1.1, .ref ad1.2.1, .ref ad1.2.2.1, .ref ad1.2.2.2, .int (nI (tkn ((k_grow tk (min 1000 (2 * tkn tk))))))])), (ad1.1, .inl (cI, tkc ((k_grow tk (min 1000 (2 * tkn tk)))), .inl (tkK ((k_grow tk (min 1000 (2 * tkn tk))))))), (ad1.2.1, .inl (cI, tkc ((k_grow tk (min 1000 (2 * tkn tk)))), .inl (tkW ((k_grow tk (min 1000 (2 * tkn tk))))))), (ad1.2.2.1, .inl (cI, tkc ((k_grow tk (min 1000 (2 * tkn tk)))), .inl (tkN ((k_grow tk (min 1000 (2 * tkn tk))))))), (ad1.2.2.2, .inl (cI, tkc ((k_grow tk (min 1000 (2 * tkn tk)))), .inl (tkL ((k_grow tk (min 1000 (2 * tkn tk)))))))] := hD
    have hin1 : tkn tk < tkc (k_grow tk (min 1000 (2 * tkn tk))) := by have z := hin0; rw [hkr] at z; exact z
    have hin2 : tkc (k_grow tk (min 1000 (2 * tkn tk))) < 2 ^ 31 := by have z := hok.2.1; rw [hkr] at z; exact z
    have hin : vp_in (nI (tkn tk)) (tkc (k_grow tk (min 1000 (2 * tkn tk)))) := vp_in_nI hin1 hin2
    refine lv_aload_n hx hb d_Tk_add_39 rfl (lv_at hl 0 rfl) ?_
    refine va_get (D := (dC, dI)) (ci := 3) (v := .ref ad1.1) (C := R_Tk) (T := T_Tk) (N := 5) hx hb hts u_Tk hown hK hP 0 rfl rfl 0 (by decide) (hts _ L_115) (fun _ h9 => h9) rfl d_Tk_add_40 ?_
    refine lv_aload_n hx hb d_Tk_add_43 rfl (lv_at hl 0 rfl) ?_
    refine va_get (D := (dC, dI)) (ci := 3) (v := .int (nI (tkn ((k_grow tk (min 1000 (2 * tkn tk))))))) (C := R_Tk) (T := T_Tk) (N := 5) hx hb hts u_Tk hown hK hP 0 rfl rfl 4 (by decide) (hts _ L_119) (fun _ h9 => h9) rfl d_Tk_add_44 ?_
    refine lv_iload_n hx hb d_Tk_add_47 rfl (lv_at hl 1 rfl) ?_
    refine va_iast (D := (dC, dI)) hx hb hK hP hD hS 1 0 rfl rfl hin d_Tk_add_48 (fun H locs hP hD hS => ?_)
    have hP : va_P (dC, dI) cls [(h, .inr (3, [.ref ad1.1, .ref ad1.2.1, .ref ad1.2.2.1, .ref ad1.2.2.2, .int (nI (tkn ((k_grow tk (min 1000 (2 * tkn tk))))))])), (ad1.1, .inl (cI, tkc ((k_grow tk (min 1000 (2 * tkn tk)))), .inl (upd (tkK ((k_grow tk (min 1000 (2 * tkn tk))))) (nI (tkn ((k_grow tk (min 1000 (2 * tkn tk))))) : Int32).toNatClampNeg kind))), (ad1.2.1, .inl (cI, tkc ((k_grow tk (min 1000 (2 * tkn tk)))), .inl (tkW ((k_grow tk (min 1000 (2 * tkn tk))))))), (ad1.2.2.1, .inl (cI, tkc ((k_grow tk (min 1000 (2 * tkn tk)))), .inl (tkN ((k_grow tk (min 1000 (2 * tkn tk))))))), (ad1.2.2.2, .inl (cI, tkc ((k_grow tk (min 1000 (2 * tkn tk)))), .inl (tkL ((k_grow tk (min 1000 (2 * tkn tk)))))))] H := hP
    have hD : va_D A [(h, .inr (3, [.ref ad1.1, .ref ad1.2.1, .ref ad1.2.2.1, .ref ad1.2.2.2, .int (nI (tkn ((k_grow tk (min 1000 (2 * tkn tk))))))])), (ad1.1, .inl (cI, tkc ((k_grow tk (min 1000 (2 * tkn tk)))), .inl (upd (tkK ((k_grow tk (min 1000 (2 * tkn tk))))) (nI (tkn ((k_grow tk (min 1000 (2 * tkn tk))))) : Int32).toNatClampNeg kind))), (ad1.2.1, .inl (cI, tkc ((k_grow tk (min 1000 (2 * tkn tk)))), .inl (tkW ((k_grow tk (min 1000 (2 * tkn tk))))))), (ad1.2.2.1, .inl (cI, tkc ((k_grow tk (min 1000 (2 * tkn tk)))), .inl (tkN ((k_grow tk (min 1000 (2 * tkn tk))))))), (ad1.2.2.2, .inl (cI, tkc ((k_grow tk (min 1000 (2 * tkn tk)))), .inl (tkL ((k_grow tk (min 1000 (2 * tkn tk)))))))] := hD
    refine lv_aload_n hx hb d_Tk_add_49 rfl (lv_at hl 0 rfl) ?_
    refine va_get (D := (dC, dI)) (ci := 3) (v := .ref ad1.2.1) (C := R_Tk) (T := T_Tk) (N := 5) hx hb hts u_Tk hown hK hP 0 rfl rfl 1 (by decide) (hts _ L_116) (fun _ h9 => h9) rfl d_Tk_add_50 ?_
    refine lv_aload_n hx hb d_Tk_add_53 rfl (lv_at hl 0 rfl) ?_
    refine va_get (D := (dC, dI)) (ci := 3) (v := .int (nI (tkn ((k_grow tk (min 1000 (2 * tkn tk))))))) (C := R_Tk) (T := T_Tk) (N := 5) hx hb hts u_Tk hown hK hP 0 rfl rfl 4 (by decide) (hts _ L_119) (fun _ h9 => h9) rfl d_Tk_add_54 ?_
    refine lv_iload_n hx hb d_Tk_add_57 rfl (lv_at hl 2 rfl) ?_
    refine va_iast (D := (dC, dI)) hx hb hK hP hD hS 2 0 rfl rfl hin d_Tk_add_58 (fun H locs hP hD hS => ?_)
    have hP : va_P (dC, dI) cls [(h, .inr (3, [.ref ad1.1, .ref ad1.2.1, .ref ad1.2.2.1, .ref ad1.2.2.2, .int (nI (tkn ((k_grow tk (min 1000 (2 * tkn tk))))))])), (ad1.1, .inl (cI, tkc ((k_grow tk (min 1000 (2 * tkn tk)))), .inl (upd (tkK ((k_grow tk (min 1000 (2 * tkn tk))))) (nI (tkn ((k_grow tk (min 1000 (2 * tkn tk))))) : Int32).toNatClampNeg kind))), (ad1.2.1, .inl (cI, tkc ((k_grow tk (min 1000 (2 * tkn tk)))), .inl (upd (tkW ((k_grow tk (min 1000 (2 * tkn tk))))) (nI (tkn ((k_grow tk (min 1000 (2 * tkn tk))))) : Int32).toNatClampNeg word))), (ad1.2.2.1, .inl (cI, tkc ((k_grow tk (min 1000 (2 * tkn tk)))), .inl (tkN ((k_grow tk (min 1000 (2 * tkn tk))))))), (ad1.2.2.2, .inl (cI, tkc ((k_grow tk (min 1000 (2 * tkn tk)))), .inl (tkL ((k_grow tk (min 1000 (2 * tkn tk)))))))] H := hP
    have hD : va_D A [(h, .inr (3, [.ref ad1.1, .ref ad1.2.1, .ref ad1.2.2.1, .ref ad1.2.2.2, .int (nI (tkn ((k_grow tk (min 1000 (2 * tkn tk))))))])), (ad1.1, .inl (cI, tkc ((k_grow tk (min 1000 (2 * tkn tk)))), .inl (upd (tkK ((k_grow tk (min 1000 (2 * tkn tk))))) (nI (tkn ((k_grow tk (min 1000 (2 * tkn tk))))) : Int32).toNatClampNeg kind))), (ad1.2.1, .inl (cI, tkc ((k_grow tk (min 1000 (2 * tkn tk)))), .inl (upd (tkW ((k_grow tk (min 1000 (2 * tkn tk))))) (nI (tkn ((k_grow tk (min 1000 (2 * tkn tk))))) : Int32).toNatClampNeg word))), (ad1.2.2.1, .inl (cI, tkc ((k_grow tk (min 1000 (2 * tkn tk)))), .inl (tkN ((k_grow tk (min 1000 (2 * tkn tk))))))), (ad1.2.2.2, .inl (cI, tkc ((k_grow tk (min 1000 (2 * tkn tk)))), .inl (tkL ((k_grow tk (min 1000 (2 * tkn tk)))))))] := hD
    refine lv_aload_n hx hb d_Tk_add_59 rfl (lv_at hl 0 rfl) ?_
    refine va_get (D := (dC, dI)) (ci := 3) (v := .ref ad1.2.2.1) (C := R_Tk) (T := T_Tk) (N := 5) hx hb hts u_Tk hown hK hP 0 rfl rfl 2 (by decide) (hts _ L_117) (fun _ h9 => h9) rfl d_Tk_add_60 ?_
    refine lv_aload_n hx hb d_Tk_add_63 rfl (lv_at hl 0 rfl) ?_
    refine va_get (D := (dC, dI)) (ci := 3) (v := .int (nI (tkn ((k_grow tk (min 1000 (2 * tkn tk))))))) (C := R_Tk) (T := T_Tk) (N := 5) hx hb hts u_Tk hown hK hP 0 rfl rfl 4 (by decide) (hts _ L_119) (fun _ h9 => h9) rfl d_Tk_add_64 ?_
    refine lv_iload_n hx hb d_Tk_add_67 rfl (lv_at hl 3 rfl) ?_
    refine va_iast (D := (dC, dI)) hx hb hK hP hD hS 3 0 rfl rfl hin d_Tk_add_68 (fun H locs hP hD hS => ?_)
    have hP : va_P (dC, dI) cls [(h, .inr (3, [.ref ad1.1, .ref ad1.2.1, .ref ad1.2.2.1, .ref ad1.2.2.2, .int (nI (tkn ((k_grow tk (min 1000 (2 * tkn tk))))))])), (ad1.1, .inl (cI, tkc ((k_grow tk (min 1000 (2 * tkn tk)))), .inl (upd (tkK ((k_grow tk (min 1000 (2 * tkn tk))))) (nI (tkn ((k_grow tk (min 1000 (2 * tkn tk))))) : Int32).toNatClampNeg kind))), (ad1.2.1, .inl (cI, tkc ((k_grow tk (min 1000 (2 * tkn tk)))), .inl (upd (tkW ((k_grow tk (min 1000 (2 * tkn tk))))) (nI (tkn ((k_grow tk (min 1000 (2 * tkn tk))))) : Int32).toNatClampNeg word))), (ad1.2.2.1, .inl (cI, tkc ((k_grow tk (min 1000 (2 * tkn tk)))), .inl (upd (tkN ((k_grow tk (min 1000 (2 * tkn tk))))) (nI (tkn ((k_grow tk (min 1000 (2 * tkn tk))))) : Int32).toNatClampNeg name))), (ad1.2.2.2, .inl (cI, tkc ((k_grow tk (min 1000 (2 * tkn tk)))), .inl (tkL ((k_grow tk (min 1000 (2 * tkn tk)))))))] H := hP
    have hD : va_D A [(h, .inr (3, [.ref ad1.1, .ref ad1.2.1, .ref ad1.2.2.1, .ref ad1.2.2.2, .int (nI (tkn ((k_grow tk (min 1000 (2 * tkn tk))))))])), (ad1.1, .inl (cI, tkc ((k_grow tk (min 1000 (2 * tkn tk)))), .inl (upd (tkK ((k_grow tk (min 1000 (2 * tkn tk))))) (nI (tkn ((k_grow tk (min 1000 (2 * tkn tk))))) : Int32).toNatClampNeg kind))), (ad1.2.1, .inl (cI, tkc ((k_grow tk (min 1000 (2 * tkn tk)))), .inl (upd (tkW ((k_grow tk (min 1000 (2 * tkn tk))))) (nI (tkn ((k_grow tk (min 1000 (2 * tkn tk))))) : Int32).toNatClampNeg word))), (ad1.2.2.1, .inl (cI, tkc ((k_grow tk (min 1000 (2 * tkn tk)))), .inl (upd (tkN ((k_grow tk (min 1000 (2 * tkn tk))))) (nI (tkn ((k_grow tk (min 1000 (2 * tkn tk))))) : Int32).toNatClampNeg name))), (ad1.2.2.2, .inl (cI, tkc ((k_grow tk (min 1000 (2 * tkn tk)))), .inl (tkL ((k_grow tk (min 1000 (2 * tkn tk)))))))] := hD
    refine lv_aload_n hx hb d_Tk_add_69 rfl (lv_at hl 0 rfl) ?_
    refine va_get (D := (dC, dI)) (ci := 3) (v := .ref ad1.2.2.2) (C := R_Tk) (T := T_Tk) (N := 5) hx hb hts u_Tk hown hK hP 0 rfl rfl 3 (by decide) (hts _ L_118) (fun _ h9 => h9) rfl d_Tk_add_70 ?_
    refine lv_aload_n hx hb d_Tk_add_73 rfl (lv_at hl 0 rfl) ?_
    refine va_get (D := (dC, dI)) (ci := 3) (v := .int (nI (tkn ((k_grow tk (min 1000 (2 * tkn tk))))))) (C := R_Tk) (T := T_Tk) (N := 5) hx hb hts u_Tk hown hK hP 0 rfl rfl 4 (by decide) (hts _ L_119) (fun _ h9 => h9) rfl d_Tk_add_74 ?_
    refine lv_iload hx hb d_Tk_add_77 (lv_at hl 4 rfl) ?_
    refine lv_if_eq (tgt := 86) hx hb d_Tk_add_79 (by decide) (fun c_3 => ?_) (fun c_3 => ?_)
    · refine lv_iconst (v := 0) hx hb d_Tk_add_86 (by decide) ?_
      refine va_iast (D := (dC, dI)) hx hb hK hP hD hS 4 0 rfl rfl hin d_Tk_add_87 (fun H locs hP hD hS => ?_)
      have hP : va_P (dC, dI) cls [(h, .inr (3, [.ref ad1.1, .ref ad1.2.1, .ref ad1.2.2.1, .ref ad1.2.2.2, .int (nI (tkn ((k_grow tk (min 1000 (2 * tkn tk))))))])), (ad1.1, .inl (cI, tkc ((k_grow tk (min 1000 (2 * tkn tk)))), .inl (upd (tkK ((k_grow tk (min 1000 (2 * tkn tk))))) (nI (tkn ((k_grow tk (min 1000 (2 * tkn tk))))) : Int32).toNatClampNeg kind))), (ad1.2.1, .inl (cI, tkc ((k_grow tk (min 1000 (2 * tkn tk)))), .inl (upd (tkW ((k_grow tk (min 1000 (2 * tkn tk))))) (nI (tkn ((k_grow tk (min 1000 (2 * tkn tk))))) : Int32).toNatClampNeg word))), (ad1.2.2.1, .inl (cI, tkc ((k_grow tk (min 1000 (2 * tkn tk)))), .inl (upd (tkN ((k_grow tk (min 1000 (2 * tkn tk))))) (nI (tkn ((k_grow tk (min 1000 (2 * tkn tk))))) : Int32).toNatClampNeg name))), (ad1.2.2.2, .inl (cI, tkc ((k_grow tk (min 1000 (2 * tkn tk)))), .inl (upd (tkL ((k_grow tk (min 1000 (2 * tkn tk))))) (nI (tkn ((k_grow tk (min 1000 (2 * tkn tk))))) : Int32).toNatClampNeg 0)))] H := hP
      have hD : va_D A [(h, .inr (3, [.ref ad1.1, .ref ad1.2.1, .ref ad1.2.2.1, .ref ad1.2.2.2, .int (nI (tkn ((k_grow tk (min 1000 (2 * tkn tk))))))])), (ad1.1, .inl (cI, tkc ((k_grow tk (min 1000 (2 * tkn tk)))), .inl (upd (tkK ((k_grow tk (min 1000 (2 * tkn tk))))) (nI (tkn ((k_grow tk (min 1000 (2 * tkn tk))))) : Int32).toNatClampNeg kind))), (ad1.2.1, .inl (cI, tkc ((k_grow tk (min 1000 (2 * tkn tk)))), .inl (upd (tkW ((k_grow tk (min 1000 (2 * tkn tk))))) (nI (tkn ((k_grow tk (min 1000 (2 * tkn tk))))) : Int32).toNatClampNeg word))), (ad1.2.2.1, .inl (cI, tkc ((k_grow tk (min 1000 (2 * tkn tk)))), .inl (upd (tkN ((k_grow tk (min 1000 (2 * tkn tk))))) (nI (tkn ((k_grow tk (min 1000 (2 * tkn tk))))) : Int32).toNatClampNeg name))), (ad1.2.2.2, .inl (cI, tkc ((k_grow tk (min 1000 (2 * tkn tk)))), .inl (upd (tkL ((k_grow tk (min 1000 (2 * tkn tk))))) (nI (tkn ((k_grow tk (min 1000 (2 * tkn tk))))) : Int32).toNatClampNeg 0)))] := hD
      refine lv_aload_n hx hb d_Tk_add_88 rfl (lv_at hl 0 rfl) ?_
      refine lv_dup hx hb d_Tk_add_89 rfl ?_
      refine va_get (D := (dC, dI)) (ci := 3) (v := .int (nI (tkn ((k_grow tk (min 1000 (2 * tkn tk))))))) (C := R_Tk) (T := T_Tk) (N := 5) hx hb hts u_Tk hown hK hP 0 rfl rfl 4 (by decide) (hts _ L_119) (fun _ h9 => h9) rfl d_Tk_add_90 ?_
      refine lv_iconst (v := 1) hx hb d_Tk_add_93 (by decide) ?_
      refine lv_iadd hx hb d_Tk_add_94 ?_
      refine lv_eqi (y := (nI (tkn tk + 1))) (nI_1 _) ?_
      refine va_put (D := (dC, dI)) (ci := 3) (v := .int (nI (tkn tk + 1))) (ty := .int) (C := R_Tk) (T := T_Tk) (N := 5) hx hb hts u_Tk ty_Tk tk_Tk nm_Tk hown hK hP hD hS 0 rfl rfl 4 (by decide) (hts _ L_119) (fun _ h9 => h9) rfl (by decide +kernel) rfl rfl (Nat.le_of_ble_eq_true rfl) d_Tk_add_95 (fun H locs hP hD hS => ?_)
      have hP : va_P (dC, dI) cls [(h, .inr (3, [.ref ad1.1, .ref ad1.2.1, .ref ad1.2.2.1, .ref ad1.2.2.2, .int (nI (tkn tk + 1))])), (ad1.1, .inl (cI, tkc ((k_grow tk (min 1000 (2 * tkn tk)))), .inl (upd (tkK ((k_grow tk (min 1000 (2 * tkn tk))))) (nI (tkn ((k_grow tk (min 1000 (2 * tkn tk))))) : Int32).toNatClampNeg kind))), (ad1.2.1, .inl (cI, tkc ((k_grow tk (min 1000 (2 * tkn tk)))), .inl (upd (tkW ((k_grow tk (min 1000 (2 * tkn tk))))) (nI (tkn ((k_grow tk (min 1000 (2 * tkn tk))))) : Int32).toNatClampNeg word))), (ad1.2.2.1, .inl (cI, tkc ((k_grow tk (min 1000 (2 * tkn tk)))), .inl (upd (tkN ((k_grow tk (min 1000 (2 * tkn tk))))) (nI (tkn ((k_grow tk (min 1000 (2 * tkn tk))))) : Int32).toNatClampNeg name))), (ad1.2.2.2, .inl (cI, tkc ((k_grow tk (min 1000 (2 * tkn tk)))), .inl (upd (tkL ((k_grow tk (min 1000 (2 * tkn tk))))) (nI (tkn ((k_grow tk (min 1000 (2 * tkn tk))))) : Int32).toNatClampNeg 0)))] H := hP
      have hD : va_D A [(h, .inr (3, [.ref ad1.1, .ref ad1.2.1, .ref ad1.2.2.1, .ref ad1.2.2.2, .int (nI (tkn tk + 1))])), (ad1.1, .inl (cI, tkc ((k_grow tk (min 1000 (2 * tkn tk)))), .inl (upd (tkK ((k_grow tk (min 1000 (2 * tkn tk))))) (nI (tkn ((k_grow tk (min 1000 (2 * tkn tk))))) : Int32).toNatClampNeg kind))), (ad1.2.1, .inl (cI, tkc ((k_grow tk (min 1000 (2 * tkn tk)))), .inl (upd (tkW ((k_grow tk (min 1000 (2 * tkn tk))))) (nI (tkn ((k_grow tk (min 1000 (2 * tkn tk))))) : Int32).toNatClampNeg word))), (ad1.2.2.1, .inl (cI, tkc ((k_grow tk (min 1000 (2 * tkn tk)))), .inl (upd (tkN ((k_grow tk (min 1000 (2 * tkn tk))))) (nI (tkn ((k_grow tk (min 1000 (2 * tkn tk))))) : Int32).toNatClampNeg name))), (ad1.2.2.2, .inl (cI, tkc ((k_grow tk (min 1000 (2 * tkn tk)))), .inl (upd (tkL ((k_grow tk (min 1000 (2 * tkn tk))))) (nI (tkn ((k_grow tk (min 1000 (2 * tkn tk))))) : Int32).toNatClampNeg 0)))] := hD
      have hck : (nI (tkn tk)).toNatClampNeg = tkn tk := nI_clamp (by omega)
      have hcg : (nI (tkn (k_room tk))).toNatClampNeg = tkn tk := by rw [k_room_n]; exact hck
      rw [hkr] at hcg
      refine W.widen (k := rcK tk) (n := rsK tk) (by rw [hrc]; omega) (by rw [hrs]; omega) ?_
      exact W.vret hx hb hr (fun t ht9 hW => ⟨⟨(ad1, k_add tk kind word name line), rfl, rfl, by rw [ht9]; unfold k_add; rw [hkr, if_pos c_3]; rw [hcg] at hP; exact hP.sub [0, 1, 2, 3, 4] rfl, va_K.moved hW.alike hK, by unfold k_add; rw [hkr, if_pos c_3]; rw [hcg] at hD; exact hD.sub [0, 1, 2, 3, 4] (by decide) rfl⟩, hS.F ht9⟩) hS.2.2 d_Tk_add_98
    · refine lv_iconst (v := 1) hx hb d_Tk_add_82 (by decide) ?_
      refine lv_goto (tgt := 87) hx hb d_Tk_add_83 (by decide) ?_
      refine va_iast (D := (dC, dI)) hx hb hK hP hD hS 4 0 rfl rfl hin d_Tk_add_87 (fun H locs hP hD hS => ?_)
      have hP : va_P (dC, dI) cls [(h, .inr (3, [.ref ad1.1, .ref ad1.2.1, .ref ad1.2.2.1, .ref ad1.2.2.2, .int (nI (tkn ((k_grow tk (min 1000 (2 * tkn tk))))))])), (ad1.1, .inl (cI, tkc ((k_grow tk (min 1000 (2 * tkn tk)))), .inl (upd (tkK ((k_grow tk (min 1000 (2 * tkn tk))))) (nI (tkn ((k_grow tk (min 1000 (2 * tkn tk))))) : Int32).toNatClampNeg kind))), (ad1.2.1, .inl (cI, tkc ((k_grow tk (min 1000 (2 * tkn tk)))), .inl (upd (tkW ((k_grow tk (min 1000 (2 * tkn tk))))) (nI (tkn ((k_grow tk (min 1000 (2 * tkn tk))))) : Int32).toNatClampNeg word))), (ad1.2.2.1, .inl (cI, tkc ((k_grow tk (min 1000 (2 * tkn tk)))), .inl (upd (tkN ((k_grow tk (min 1000 (2 * tkn tk))))) (nI (tkn ((k_grow tk (min 1000 (2 * tkn tk))))) : Int32).toNatClampNeg name))), (ad1.2.2.2, .inl (cI, tkc ((k_grow tk (min 1000 (2 * tkn tk)))), .inl (upd (tkL ((k_grow tk (min 1000 (2 * tkn tk))))) (nI (tkn ((k_grow tk (min 1000 (2 * tkn tk))))) : Int32).toNatClampNeg 1)))] H := hP
      have hD : va_D A [(h, .inr (3, [.ref ad1.1, .ref ad1.2.1, .ref ad1.2.2.1, .ref ad1.2.2.2, .int (nI (tkn ((k_grow tk (min 1000 (2 * tkn tk))))))])), (ad1.1, .inl (cI, tkc ((k_grow tk (min 1000 (2 * tkn tk)))), .inl (upd (tkK ((k_grow tk (min 1000 (2 * tkn tk))))) (nI (tkn ((k_grow tk (min 1000 (2 * tkn tk))))) : Int32).toNatClampNeg kind))), (ad1.2.1, .inl (cI, tkc ((k_grow tk (min 1000 (2 * tkn tk)))), .inl (upd (tkW ((k_grow tk (min 1000 (2 * tkn tk))))) (nI (tkn ((k_grow tk (min 1000 (2 * tkn tk))))) : Int32).toNatClampNeg word))), (ad1.2.2.1, .inl (cI, tkc ((k_grow tk (min 1000 (2 * tkn tk)))), .inl (upd (tkN ((k_grow tk (min 1000 (2 * tkn tk))))) (nI (tkn ((k_grow tk (min 1000 (2 * tkn tk))))) : Int32).toNatClampNeg name))), (ad1.2.2.2, .inl (cI, tkc ((k_grow tk (min 1000 (2 * tkn tk)))), .inl (upd (tkL ((k_grow tk (min 1000 (2 * tkn tk))))) (nI (tkn ((k_grow tk (min 1000 (2 * tkn tk))))) : Int32).toNatClampNeg 1)))] := hD
      refine lv_aload_n hx hb d_Tk_add_88 rfl (lv_at hl 0 rfl) ?_
      refine lv_dup hx hb d_Tk_add_89 rfl ?_
      refine va_get (D := (dC, dI)) (ci := 3) (v := .int (nI (tkn ((k_grow tk (min 1000 (2 * tkn tk))))))) (C := R_Tk) (T := T_Tk) (N := 5) hx hb hts u_Tk hown hK hP 0 rfl rfl 4 (by decide) (hts _ L_119) (fun _ h9 => h9) rfl d_Tk_add_90 ?_
      refine lv_iconst (v := 1) hx hb d_Tk_add_93 (by decide) ?_
      refine lv_iadd hx hb d_Tk_add_94 ?_
      refine lv_eqi (y := (nI (tkn tk + 1))) (nI_1 _) ?_
      refine va_put (D := (dC, dI)) (ci := 3) (v := .int (nI (tkn tk + 1))) (ty := .int) (C := R_Tk) (T := T_Tk) (N := 5) hx hb hts u_Tk ty_Tk tk_Tk nm_Tk hown hK hP hD hS 0 rfl rfl 4 (by decide) (hts _ L_119) (fun _ h9 => h9) rfl (by decide +kernel) rfl rfl (Nat.le_of_ble_eq_true rfl) d_Tk_add_95 (fun H locs hP hD hS => ?_)
      have hP : va_P (dC, dI) cls [(h, .inr (3, [.ref ad1.1, .ref ad1.2.1, .ref ad1.2.2.1, .ref ad1.2.2.2, .int (nI (tkn tk + 1))])), (ad1.1, .inl (cI, tkc ((k_grow tk (min 1000 (2 * tkn tk)))), .inl (upd (tkK ((k_grow tk (min 1000 (2 * tkn tk))))) (nI (tkn ((k_grow tk (min 1000 (2 * tkn tk))))) : Int32).toNatClampNeg kind))), (ad1.2.1, .inl (cI, tkc ((k_grow tk (min 1000 (2 * tkn tk)))), .inl (upd (tkW ((k_grow tk (min 1000 (2 * tkn tk))))) (nI (tkn ((k_grow tk (min 1000 (2 * tkn tk))))) : Int32).toNatClampNeg word))), (ad1.2.2.1, .inl (cI, tkc ((k_grow tk (min 1000 (2 * tkn tk)))), .inl (upd (tkN ((k_grow tk (min 1000 (2 * tkn tk))))) (nI (tkn ((k_grow tk (min 1000 (2 * tkn tk))))) : Int32).toNatClampNeg name))), (ad1.2.2.2, .inl (cI, tkc ((k_grow tk (min 1000 (2 * tkn tk)))), .inl (upd (tkL ((k_grow tk (min 1000 (2 * tkn tk))))) (nI (tkn ((k_grow tk (min 1000 (2 * tkn tk))))) : Int32).toNatClampNeg 1)))] H := hP
      have hD : va_D A [(h, .inr (3, [.ref ad1.1, .ref ad1.2.1, .ref ad1.2.2.1, .ref ad1.2.2.2, .int (nI (tkn tk + 1))])), (ad1.1, .inl (cI, tkc ((k_grow tk (min 1000 (2 * tkn tk)))), .inl (upd (tkK ((k_grow tk (min 1000 (2 * tkn tk))))) (nI (tkn ((k_grow tk (min 1000 (2 * tkn tk))))) : Int32).toNatClampNeg kind))), (ad1.2.1, .inl (cI, tkc ((k_grow tk (min 1000 (2 * tkn tk)))), .inl (upd (tkW ((k_grow tk (min 1000 (2 * tkn tk))))) (nI (tkn ((k_grow tk (min 1000 (2 * tkn tk))))) : Int32).toNatClampNeg word))), (ad1.2.2.1, .inl (cI, tkc ((k_grow tk (min 1000 (2 * tkn tk)))), .inl (upd (tkN ((k_grow tk (min 1000 (2 * tkn tk))))) (nI (tkn ((k_grow tk (min 1000 (2 * tkn tk))))) : Int32).toNatClampNeg name))), (ad1.2.2.2, .inl (cI, tkc ((k_grow tk (min 1000 (2 * tkn tk)))), .inl (upd (tkL ((k_grow tk (min 1000 (2 * tkn tk))))) (nI (tkn ((k_grow tk (min 1000 (2 * tkn tk))))) : Int32).toNatClampNeg 1)))] := hD
      have hck : (nI (tkn tk)).toNatClampNeg = tkn tk := nI_clamp (by omega)
      have hcg : (nI (tkn (k_room tk))).toNatClampNeg = tkn tk := by rw [k_room_n]; exact hck
      rw [hkr] at hcg
      refine W.widen (k := rcK tk) (n := rsK tk) (by rw [hrc]; omega) (by rw [hrs]; omega) ?_
      exact W.vret hx hb hr (fun t ht9 hW => ⟨⟨(ad1, k_add tk kind word name line), rfl, rfl, by rw [ht9]; unfold k_add; rw [hkr, if_neg c_3]; rw [hcg] at hP; exact hP.sub [0, 1, 2, 3, 4] rfl, va_K.moved hW.alike hK, by unfold k_add; rw [hkr, if_neg c_3]; rw [hcg] at hD; exact hD.sub [0, 1, 2, 3, 4] (by decide) rfl⟩, hS.F ht9⟩) hS.2.2 d_Tk_add_98
