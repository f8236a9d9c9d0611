/-- what the tree's methods do -/
def t_put (t : TR) (j : Nat) (k v w z : Int32) : TR := (upd (trK t) j k, upd (trV t) j v, upd (trW t) j w, upd (trS t) j z, trn t, trc t)
def t_room (t : TR) : TR := if trn t = trc t then (cpn (trK t) (trc t), cpn (trV t) (trc t), cpn (trW t) (trc t), cpn (trS t) (trc t), trn t, 2 * trn t) else t
def t_inc (t : TR) : TR := (trK t, trV t, trW t, trS t, trn t + 1, trc t)
def t_open (t : TR) (k v w : Int32) : TR := t_inc (t_put (t_room t) (trn t) k v w 1)
def t_close (t : TR) (k : Int32) : TR := if f_Tr_has t k = 0 then t else (trK t, trV t, trW t, upd (trS t) k.toNatClampNeg (nI (trn t) - k), trn t, trc t)
def t_setKind (t : TR) (k x : Int32) : TR := if f_Tr_has t k = 0 then t else (upd (trK t) k.toNatClampNeg x, trV t, trW t, trS t, trn t, trc t)
def t_setValue (t : TR) (k x : Int32) : TR := if f_Tr_has t k = 0 then t else (trK t, upd (trV t) k.toNatClampNeg x, trW t, trS t, trn t, trc t)
def t_clear (t : TR) : TR := (trK t, trV t, trW t, trS t, 0, trc t)
def t_shift (t : TR) (j : Nat) : TR := (va_cpy (trK t) (trK t) j (j + 1) (trn t - j), va_cpy (trV t) (trV t) j (j + 1) (trn t - j), va_cpy (trW t) (trW t) j (j + 1) (trn t - j), va_cpy (trS t) (trS t) j (j + 1) (trn t - j), trn t, trc t)
def t_wrap (t : TR) (i k v w : Int32) : TR := if f_Tr_has t i = 0 then t else t_inc (t_put (t_shift (t_room t) i.toNatClampNeg) i.toNatClampNeg k v w (nI (trn t) - i + 1))
def rcT (t : TR) : Nat := if trn t = trc t then 4 else 0
def rsT (t : TR) : Nat := if trn t = trc t then 8 * trn t else 0
theorem t_room_n (t : TR) : trn (t_room t) = trn t := by unfold t_room; split <;> rfl
theorem t_room_c {t : TR} (ho : okTr t) (h0 : 0 < trc t) : trn t < trc (t_room t) := by
  unfold t_room
  split
  · next h => show trn t < 2 * trn t; omega
  · next h => have := ho.1; omega
theorem t_room_ok {t : TR} (ho : okTr t) (hb : trn t < 2 ^ 20) : okTr (t_room t) := by
  unfold t_room
  split
  · next h => exact ⟨by show trn t ≤ 2 * trn t; omega, by show 2 * trn t < 2 ^ 31; omega⟩
  · exact ho
/-- the addresses of a tree's arrays and the tree -/
abbrev wT (cI : ClassId) (ht : Nat) (u : AD × TR) : va_W := wTr cI ht u.1.1 u.1.2.1 u.1.2.2.1 u.1.2.2.2 u.2

set_option maxRecDepth 100000 in
set_option maxHeartbeats 4000000 in
theorem m_Tr_put (l : Launch) (dC : Nat → ClassId) (dI : Nat → Nat → Nat) (cI cZ : ClassId) (sa rk ht : Nat) (ad : AD) (tr : TR) (htr : okTr tr) (sz : Nat) (k : Int32) (kind : Int32) (value : Int32) (wh : Int32) (size : Int32) (hk : vp_in k (trc tr)) : cMv l y_Tr_put c_Tr_put 6 0 0 0 0 (dC, dI) cI cZ sa rk [.ref ht, .int k, .int kind, .int value, .int wh, .int size] (wT cI ht (ad, tr)) sz (fun u : AD × TR => u.2 = t_put tr k.toNatClampNeg kind value wh size) (wT cI ht) := by
  refine Met.ofW (cc := c_Tr_put) (maxL := 6) (ret := none) (by decide) rfl ?_
  intro p e s m args below meth c s₁ B hml hv
  obtain ⟨rfl, hsz, hP, hK, hD0, hC, hZ⟩ := hv
  have hx := B.exec
  have hb := B.bytes
  have hr := B.returns
  have hts0 := atoms_spec (ws := wy y_Tr_put c_Tr_put 6 none) B.pre
  have hts := htsL hts0
  have hown : s.vm.findClass R_Tr = some m.cls := findClass_of_methodNamed B.named
  have hlocks := B.notSynchronized
  subst hsz
  have hD := hD0.self (sz := s.heap.size)
  generalize hAe : va_A (wT cI ht (ad, tr)) s.heap.size = A at hD hZ ⊢
  have hA : ∀ q : Nat, s.heap.size ≤ q → A q := fun q h => by rw [← hAe]; exact Or.inr h
  have hS : va_S A s.heap s.heap [] := va_S.rf
  have hl := lv_entry ([.ref ht, .int k, .int kind, .int value, .int wh, .int size]) (n := 6) (Nat.le_of_ble_eq_true rfl)
  rw [lg_entry_eq]
  generalize (lg_sl ([.ref ht, .int k, .int kind, .int value, .int wh, .int size]) ++ List.replicate (6 - (lg_sl ([.ref ht, .int k, .int kind, .int value, .int wh, .int size])).length) Slot.unset).toArray = ls at hl ⊢
  have hl : lv_has ls 6 [(0, .ref ht), (1, .int k), (2, .int kind), (3, .int value), (4, .int wh), (5, .int size)] := hl
  refine lv_aload_n hx hb d_Tr_put_0 rfl (lv_at hl 0 rfl) ?_
  refine va_get (D := (dC, dI)) (ci := 4) (v := .ref ad.1) (C := R_Tr) (T := T_Tr) (N := 5) hx hb hts u_Tr hown hK hP 0 rfl rfl 0 (by decide) (hts _ L_138) (fun _ h9 => h9) rfl d_Tr_put_1 ?_
  refine lv_iload_n hx hb d_Tr_put_4 rfl (lv_at hl 1 rfl) ?_
  refine lv_iload_n hx hb d_Tr_put_5 rfl (lv_at hl 2 rfl) ?_
  refine va_iast (D := (dC, dI)) hx hb hK hP hD hS 1 0 rfl rfl hk d_Tr_put_6 (fun H locs hP hD hS => ?_)
  have hP : va_P (dC, dI) cls [(ht, .inr (4, [.ref ad.1, .ref ad.2.1, .ref ad.2.2.1, .ref ad.2.2.2, .int (nI (trn tr))])), (ad.1, .inl (cI, trc tr, .inl (upd (trK tr) (k : Int32).toNatClampNeg kind))), (ad.2.1, .inl (cI, trc tr, .inl (trV tr))), (ad.2.2.1, .inl (cI, trc tr, .inl (trW tr))), (ad.2.2.2, .inl (cI, trc tr, .inl (trS tr)))] H := hP
  have hD : va_D A [(ht, .inr (4, [.ref ad.1, .ref ad.2.1, .ref ad.2.2.1, .ref ad.2.2.2, .int (nI (trn tr))])), (ad.1, .inl (cI, trc tr, .inl (upd (trK tr) (k : Int32).toNatClampNeg kind))), (ad.2.1, .inl (cI, trc tr, .inl (trV tr))), (ad.2.2.1, .inl (cI, trc tr, .inl (trW tr))), (ad.2.2.2, .inl (cI, trc tr, .inl (trS tr)))] := hD
  refine lv_aload_n hx hb d_Tr_put_7 rfl (lv_at hl 0 rfl) ?_
  refine va_get (D := (dC, dI)) (ci := 4) (v := .ref ad.2.1) (C := R_Tr) (T := T_Tr) (N := 5) hx hb hts u_Tr hown hK hP 0 rfl rfl 1 (by decide) (hts _ L_139) (fun _ h9 => h9) rfl d_Tr_put_8 ?_
  refine lv_iload_n hx hb d_Tr_put_11 rfl (lv_at hl 1 rfl) ?_
  refine lv_iload_n hx hb d_Tr_put_12 rfl (lv_at hl 3 rfl) ?_
  refine va_iast (D := (dC, dI)) hx hb hK hP hD hS 2 0 rfl rfl hk d_Tr_put_13 (fun H locs hP hD hS => ?_)
  have hP : va_P (dC, dI) cls [(ht, .inr (4, [.ref ad.1, .ref ad.2.1, .ref ad.2.2.1, .ref ad.2.2.2, .int (nI (trn tr))])), (ad.1, .inl (cI, trc tr, .inl (upd (trK tr) (k : Int32).toNatClampNeg kind))), (ad.2.1, .inl (cI, trc tr, .inl (upd (trV tr) (k : Int32).toNatClampNeg value))), (ad.2.2.1, .inl (cI, trc tr, .inl (trW tr))), (ad.2.2.2, .inl (cI, trc tr, .inl (trS tr)))] H := hP
  have hD : va_D A [(ht, .inr (4, [.ref ad.1, .ref ad.2.1, .ref ad.2.2.1, .ref ad.2.2.2, .int (nI (trn tr))])), (ad.1, .inl (cI, trc tr, .inl (upd (trK tr) (k : Int32).toNatClampNeg kind))), (ad.2.1, .inl (cI, trc tr, .inl (upd (trV tr) (k : Int32).toNatClampNeg value))), (ad.2.2.1, .inl (cI, trc tr, .inl (trW tr))), (ad.2.2.2, .inl (cI, trc tr, .inl (trS tr)))] := hD
  refine lv_aload_n hx hb d_Tr_put_14 rfl (lv_at hl 0 rfl) ?_
  refine va_get (D := (dC, dI)) (ci := 4) (v := .ref ad.2.2.1) (C := R_Tr) (T := T_Tr) (N := 5) hx hb hts u_Tr hown hK hP 0 rfl rfl 2 (by decide) (hts _ L_140) (fun _ h9 => h9) rfl d_Tr_put_15 ?_
  refine lv_iload_n hx hb d_Tr_put_18 rfl (lv_at hl 1 rfl) ?_
  refine lv_iload hx hb d_Tr_put_19 (lv_at hl 4 rfl) ?_
  refine va_iast (D := (dC, dI)) hx hb hK hP hD hS 3 0 rfl rfl hk d_Tr_put_21 (fun H locs hP hD hS => ?_)
  have hP : va_P (dC, dI) cls [(ht, .inr (4, [.ref ad.1, .ref ad.2.1, .ref ad.2.2.1, .ref ad.2.2.2, .int (nI (trn tr))])), (ad.1, .inl (cI, trc tr, .inl (upd (trK tr) (k : Int32).toNatClampNeg kind))), (ad.2.1, .inl (cI, trc tr, .inl (upd (trV tr) (k : Int32).toNatClampNeg value))), (ad.2.2.1, .inl (cI, trc tr, .inl (upd (trW tr) (k : Int32).toNatClampNeg wh))), (ad.2.2.2, .inl (cI, trc tr, .inl (trS tr)))] H := hP
  have hD : va_D A [(ht, .inr (4, [.ref ad.1, .ref ad.2.1, .ref ad.2.2.1, .ref ad.2.2.2, .int (nI (trn tr))])), (ad.1, .inl (cI, trc tr, .inl (upd (trK tr) (k : Int32).toNatClampNeg kind))), (ad.2.1, .inl (cI, trc tr, .inl (upd (trV tr) (k : Int32).toNatClampNeg value))), (ad.2.2.1, .inl (cI, trc tr, .inl (upd (trW tr) (k : Int32).toNatClampNeg wh))), (ad.2.2.2, .inl (cI, trc tr, .inl (trS tr)))] := hD
  refine lv_aload_n hx hb d_Tr_put_22 rfl (lv_at hl 0 rfl) ?_
  refine va_get (D := (dC, dI)) (ci := 4) (v := .ref ad.2.2.2) (C := R_Tr) (T := T_Tr) (N := 5) hx hb hts u_Tr hown hK hP 0 rfl rfl 3 (by decide) (hts _ L_141) (fun _ h9 => h9) rfl d_Tr_put_23 ?_
  refine lv_iload_n hx hb d_Tr_put_26 rfl (lv_at hl 1 rfl) ?_
  refine lv_iload hx hb d_Tr_put_27 (lv_at hl 5 rfl) ?_
  refine va_iast (D := (dC, dI)) hx hb hK hP hD hS 4 0 rfl rfl hk d_Tr_put_29 (fun H locs hP hD hS => ?_)
  have hP : va_P (dC, dI) cls [(ht, .inr (4, [.ref ad.1, .ref ad.2.1, .ref ad.2.2.1, .ref ad.2.2.2, .int (nI (trn tr))])), (ad.1, .inl (cI, trc tr, .inl (upd (trK tr) (k : Int32).toNatClampNeg kind))), (ad.2.1, .inl (cI, trc tr, .inl (upd (trV tr) (k : Int32).toNatClampNeg value))), (ad.2.2.1, .inl (cI, trc tr, .inl (upd (trW tr) (k : Int32).toNatClampNeg wh))), (ad.2.2.2, .inl (cI, trc tr, .inl (upd (trS tr) (k : Int32).toNatClampNeg size)))] H := hP
  have hD : va_D A [(ht, .inr (4, [.ref ad.1, .ref ad.2.1, .ref ad.2.2.1, .ref ad.2.2.2, .int (nI (trn tr))])), (ad.1, .inl (cI, trc tr, .inl (upd (trK tr) (k : Int32).toNatClampNeg kind))), (ad.2.1, .inl (cI, trc tr, .inl (upd (trV tr) (k : Int32).toNatClampNeg value))), (ad.2.2.1, .inl (cI, trc tr, .inl (upd (trW tr) (k : Int32).toNatClampNeg wh))), (ad.2.2.2, .inl (cI, trc tr, .inl (upd (trS tr) (k : Int32).toNatClampNeg size)))] := hD
  exact W.vret hx hb hr (fun t ht9 hW => ⟨⟨(ad, t_put tr k.toNatClampNeg kind value wh size), rfl, rfl, by rw [ht9]; exact hP.sub [0, 1, 2, 3, 4] rfl, va_K.moved hW.alike hK, hD.sub [0, 1, 2, 3, 4] (by decide) rfl⟩, hS.F ht9⟩) hS.2.2 d_Tr_put_30
set_option maxRecDepth 100000 in
set_option maxHeartbeats 4000000 in
theorem m_Tr_close (l : Launch) (dC : Nat → ClassId) (dI : Nat → Nat → Nat) (cI cZ : ClassId) (sa rk ht : Nat) (ad : AD) (tr : TR) (htr : okTr tr) (sz : Nat) (k : Int32)  : cMv l y_Tr_close c_Tr_close 2 1 21 0 0 (dC, dI) cI cZ sa rk [.ref ht, .int k] (wT cI ht (ad, tr)) sz (fun u : AD × TR => u.2 = t_close tr k) (wT cI ht) := by
  refine Met.ofW (cc := c_Tr_close) (maxL := 2) (ret := none) (by decide) rfl ?_
  intro p e s m args below meth c s₁ B hml hv
  obtain ⟨rfl, hsz, hP, hK, hD0, hC, hZ⟩ := hv
  have hx := B.exec
  have hb := B.bytes
  have hr := B.returns
  have hts0 := atoms_spec (ws := wy y_Tr_close c_Tr_close 2 none) B.pre
  have hts := htsL hts0
  have hown : s.vm.findClass R_Tr = some m.cls := findClass_of_methodNamed B.named
  have hlocks := B.notSynchronized
  subst hsz
  have hD := hD0.self (sz := s.heap.size)
  generalize hAe : va_A (wT cI ht (ad, tr)) s.heap.size = A at hD hZ ⊢
  have hA : ∀ q : Nat, s.heap.size ≤ q → A q := fun q h => by rw [← hAe]; exact Or.inr h
  have hS : va_S A s.heap s.heap [] := va_S.rf
  have hl := lv_entry ([.ref ht, .int k]) (n := 2) (Nat.le_of_ble_eq_true rfl)
  rw [lg_entry_eq]
  generalize (lg_sl ([.ref ht, .int k]) ++ List.replicate (2 - (lg_sl ([.ref ht, .int k])).length) Slot.unset).toArray = ls at hl ⊢
  have hl : lv_has ls 2 [(0, .ref ht), (1, .int k)] := hl
  refine lv_aload_n hx hb d_Tr_close_0 rfl (lv_at hl 0 rfl) ?_
  refine lv_iload_n hx hb d_Tr_close_1 rfl (lv_at hl 1 rfl) ?_
  refine rd_V (v := (f_Tr_has tr k)) (As := [.int k]) (rest := []) ⟨hx, hb, hml, hown, hts0⟩ (m_Tr_has l dC dI cI cZ ht ad.1 ad.2.1 ad.2.2.1 ad.2.2.2 tr htr k) hP hK [0, 1, 2, 3, 4] rfl [0, 1] rfl 0 4 rfl rfl L_492 L_493 L_494 L_85 L_495 ⟨rfl, k_Tr_has⟩ ⟨Nat.le_of_ble_eq_true rfl, Nat.le_of_ble_eq_true rfl⟩ hl.1 ⟨Nat.zero_le _, Nat.zero_le _⟩ (Nat.le_of_ble_eq_true rfl) d_Tr_close_2 rfl ?_
  refine lv_if_eq (tgt := 20) hx hb d_Tr_close_5 (by decide) (fun c_1 => ?_) (fun c_1 => ?_)
  · exact W.vret hx hb hr (fun t ht9 hW => ⟨⟨(ad, tr), rfl, (by unfold t_close; rw [if_pos c_1]), by rw [ht9]; exact hP.sub [0, 1, 2, 3, 4] rfl, va_K.moved hW.alike hK, hD.sub [0, 1, 2, 3, 4] (by decide) rfl⟩, hS.F ht9⟩) hS.2.2 d_Tr_close_20
  · refine lv_aload_n hx hb d_Tr_close_8 rfl (lv_at hl 0 rfl) ?_
    refine va_get (D := (dC, dI)) (ci := 4) (v := .ref ad.2.2.2) (C := R_Tr) (T := T_Tr) (N := 5) hx hb hts u_Tr hown hK hP 0 rfl rfl 3 (by decide) (hts _ L_141) (fun _ h9 => h9) rfl d_Tr_close_9 ?_
    refine lv_iload_n hx hb d_Tr_close_12 rfl (lv_at hl 1 rfl) ?_
    refine lv_aload_n hx hb d_Tr_close_13 rfl (lv_at hl 0 rfl) ?_
    refine va_get (D := (dC, dI)) (ci := 4) (v := .int (nI (trn tr))) (C := R_Tr) (T := T_Tr) (N := 5) hx hb hts u_Tr hown hK hP 0 rfl rfl 4 (by decide) (hts _ L_142) (fun _ h9 => h9) rfl d_Tr_close_14 ?_
    refine lv_iload_n hx hb d_Tr_close_17 rfl (lv_at hl 1 rfl) ?_
    refine lv_isub hx hb d_Tr_close_18 ?_
    refine va_iast (D := (dC, dI)) hx hb hK hP hD hS 4 0 rfl rfl (has_in htr c_1) d_Tr_close_19 (fun H locs hP hD hS => ?_)
    have hP : va_P (dC, dI) cls [(ht, .inr (4, [.ref ad.1, .ref ad.2.1, .ref ad.2.2.1, .ref ad.2.2.2, .int (nI (trn tr))])), (ad.1, .inl (cI, trc tr, .inl (trK tr))), (ad.2.1, .inl (cI, trc tr, .inl (trV tr))), (ad.2.2.1, .inl (cI, trc tr, .inl (trW tr))), (ad.2.2.2, .inl (cI, trc tr, .inl (upd (trS tr) (k : Int32).toNatClampNeg (nI (trn tr) - k))))] H := hP
    have hD : va_D A [(ht, .inr (4, [.ref ad.1, .ref ad.2.1, .ref ad.2.2.1, .ref ad.2.2.2, .int (nI (trn tr))])), (ad.1, .inl (cI, trc tr, .inl (trK tr))), (ad.2.1, .inl (cI, trc tr, .inl (trV tr))), (ad.2.2.1, .inl (cI, trc tr, .inl (trW tr))), (ad.2.2.2, .inl (cI, trc tr, .inl (upd (trS tr) (k : Int32).toNatClampNeg (nI (trn tr) - k))))] := hD
    exact W.vret hx hb hr (fun t ht9 hW => ⟨⟨(ad, (trK tr, trV tr, trW tr, upd (trS tr) k.toNatClampNeg (nI (trn tr) - k), trn tr, trc tr)), rfl, (by unfold t_close; rw [if_neg c_1]), by rw [ht9]; exact hP.sub [0, 1, 2, 3, 4] rfl, va_K.moved hW.alike hK, hD.sub [0, 1, 2, 3, 4] (by decide) rfl⟩, hS.F ht9⟩) hS.2.2 d_Tr_close_20
set_option maxRecDepth 100000 in
set_option maxHeartbeats 4000000 in
theorem m_Tr_setKind (l : Launch) (dC : Nat → ClassId) (dI : Nat → Nat → Nat) (cI cZ : ClassId) (sa rk ht : Nat) (ad : AD) (tr : TR) (htr : okTr tr) (sz : Nat) (k : Int32) (x : Int32)  : cMv l y_Tr_setKind c_Tr_setKind 3 1 21 0 0 (dC, dI) cI cZ sa rk [.ref ht, .int k, .int x] (wT cI ht (ad, tr)) sz (fun u : AD × TR => u.2 = t_setKind tr k x) (wT cI ht) := by
  refine Met.ofW (cc := c_Tr_setKind) (maxL := 3) (ret := none) (by decide) rfl ?_
  intro p e s m args below meth c s₁ B hml hv
  obtain ⟨rfl, hsz, hP, hK, hD0, hC, hZ⟩ := hv
  have hx := B.exec
  have hb := B.bytes
  have hr := B.returns
  have hts0 := atoms_spec (ws := wy y_Tr_setKind c_Tr_setKind 3 none) B.pre
  have hts := htsL hts0
  have hown : s.vm.findClass R_Tr = some m.cls := findClass_of_methodNamed B.named
  have hlocks := B.notSynchronized
  subst hsz
  have hD := hD0.self (sz := s.heap.size)
  generalize hAe : va_A (wT cI ht (ad, tr)) s.heap.size = A at hD hZ ⊢
  have hA : ∀ q : Nat, s.heap.size ≤ q → A q := fun q h => by rw [← hAe]; exact Or.inr h
  have hS : va_S A s.heap s.heap [] := va_S.rf
  have hl := lv_entry ([.ref ht, .int k, .int x]) (n := 3) (Nat.le_of_ble_eq_true rfl)
  rw [lg_entry_eq]
  generalize (lg_sl ([.ref ht, .int k, .int x]) ++ List.replicate (3 - (lg_sl ([.ref ht, .int k, .int x])).length) Slot.unset).toArray = ls at hl ⊢
  have hl : lv_has ls 3 [(0, .ref ht), (1, .int k), (2, .int x)] := hl
  refine lv_aload_n hx hb d_Tr_setKind_0 rfl (lv_at hl 0 rfl) ?_
  refine lv_iload_n hx hb d_Tr_setKind_1 rfl (lv_at hl 1 rfl) ?_
  refine rd_V (v := (f_Tr_has tr k)) (As := [.int k]) (rest := []) ⟨hx, hb, hml, hown, hts0⟩ (m_Tr_has l dC dI cI cZ ht ad.1 ad.2.1 ad.2.2.1 ad.2.2.2 tr htr k) hP hK [0, 1, 2, 3, 4] rfl [0, 1] rfl 0 4 rfl rfl L_492 L_493 L_494 L_85 L_495 ⟨rfl, k_Tr_has⟩ ⟨Nat.le_of_ble_eq_true rfl, Nat.le_of_ble_eq_true rfl⟩ hl.1 ⟨Nat.zero_le _, Nat.zero_le _⟩ (Nat.le_of_ble_eq_true rfl) d_Tr_setKind_2 rfl ?_
  refine lv_if_eq (tgt := 15) hx hb d_Tr_setKind_5 (by decide) (fun c_1 => ?_) (fun c_1 => ?_)
  · exact W.vret hx hb hr (fun t ht9 hW => ⟨⟨(ad, tr), rfl, (by unfold t_setKind; rw [if_pos c_1]), by rw [ht9]; exact hP.sub [0, 1, 2, 3, 4] rfl, va_K.moved hW.alike hK, hD.sub [0, 1, 2, 3, 4] (by decide) rfl⟩, hS.F ht9⟩) hS.2.2 d_Tr_setKind_15
  · refine lv_aload_n hx hb d_Tr_setKind_8 rfl (lv_at hl 0 rfl) ?_
    refine va_get (D := (dC, dI)) (ci := 4) (v := .ref ad.1) (C := R_Tr) (T := T_Tr) (N := 5) hx hb hts u_Tr hown hK hP 0 rfl rfl 0 (by decide) (hts _ L_138) (fun _ h9 => h9) rfl d_Tr_setKind_9 ?_
    refine lv_iload_n hx hb d_Tr_setKind_12 rfl (lv_at hl 1 rfl) ?_
    refine lv_iload_n hx hb d_Tr_setKind_13 rfl (lv_at hl 2 rfl) ?_
    refine va_iast (D := (dC, dI)) hx hb hK hP hD hS 1 0 rfl rfl (has_in htr c_1) d_Tr_setKind_14 (fun H locs hP hD hS => ?_)
    have hP : va_P (dC, dI) cls [(ht, .inr (4, [.ref ad.1, .ref ad.2.1, .ref ad.2.2.1, .ref ad.2.2.2, .int (nI (trn tr))])), (ad.1, .inl (cI, trc tr, .inl (upd (trK tr) (k : Int32).toNatClampNeg x))), (ad.2.1, .inl (cI, trc tr, .inl (trV tr))), (ad.2.2.1, .inl (cI, trc tr, .inl (trW tr))), (ad.2.2.2, .inl (cI, trc tr, .inl (trS tr)))] H := hP
    have hD : va_D A [(ht, .inr (4, [.ref ad.1, .ref ad.2.1, .ref ad.2.2.1, .ref ad.2.2.2, .int (nI (trn tr))])), (ad.1, .inl (cI, trc tr, .inl (upd (trK tr) (k : Int32).toNatClampNeg x))), (ad.2.1, .inl (cI, trc tr, .inl (trV tr))), (ad.2.2.1, .inl (cI, trc tr, .inl (trW tr))), (ad.2.2.2, .inl (cI, trc tr, .inl (trS tr)))] := hD
    exact W.vret hx hb hr (fun t ht9 hW => ⟨⟨(ad, (upd (trK tr) k.toNatClampNeg x, trV tr, trW tr, trS tr, trn tr, trc tr)), rfl, (by unfold t_setKind; rw [if_neg c_1]), by rw [ht9]; exact hP.sub [0, 1, 2, 3, 4] rfl, va_K.moved hW.alike hK, hD.sub [0, 1, 2, 3, 4] (by decide) rfl⟩, hS.F ht9⟩) hS.2.2 d_Tr_setKind_15
set_option maxRecDepth 100000 in
set_option maxHeartbeats 4000000 in
theorem m_Tr_setValue (l : Launch) (dC : Nat → ClassId) (dI : Nat → Nat → Nat) (cI cZ : ClassId) (sa rk ht : Nat) (ad : AD) (tr : TR) (htr : okTr tr) (sz : Nat) (k : Int32) (x : Int32)  : cMv l y_Tr_setValue c_Tr_setValue 3 1 21 0 0 (dC, dI) cI cZ sa rk [.ref ht, .int k, .int x] (wT cI ht (ad, tr)) sz (fun u : AD × TR => u.2 = t_setValue tr k x) (wT cI ht) := by
  refine Met.ofW (cc := c_Tr_setValue) (maxL := 3) (ret := none) (by decide) rfl ?_
  intro p e s m args below meth c s₁ B hml hv
  obtain ⟨rfl, hsz, hP, hK, hD0, hC, hZ⟩ := hv
  have hx := B.exec
  have hb := B.bytes
  have hr := B.returns
  have hts0 := atoms_spec (ws := wy y_Tr_setValue c_Tr_setValue 3 none) B.pre
  have hts := htsL hts0
  have hown : s.vm.findClass R_Tr = some m.cls := findClass_of_methodNamed B.named
  have hlocks := B.notSynchronized
  subst hsz
  have hD := hD0.self (sz := s.heap.size)
  generalize hAe : va_A (wT cI ht (ad, tr)) s.heap.size = A at hD hZ ⊢
  have hA : ∀ q : Nat, s.heap.size ≤ q → A q := fun q h => by rw [← hAe]; exact Or.inr h
  have hS : va_S A s.heap s.heap [] := va_S.rf
  have hl := lv_entry ([.ref ht, .int k, .int x]) (n := 3) (Nat.le_of_ble_eq_true rfl)
  rw [lg_entry_eq]
  generalize (lg_sl ([.ref ht, .int k, .int x]) ++ List.replicate (3 - (lg_sl ([.ref ht, .int k, .int x])).length) Slot.unset).toArray = ls at hl ⊢
  have hl : lv_has ls 3 [(0, .ref ht), (1, .int k), (2, .int x)] := hl
  refine lv_aload_n hx hb d_Tr_setValue_0 rfl (lv_at hl 0 rfl) ?_
  refine lv_iload_n hx hb d_Tr_setValue_1 rfl (lv_at hl 1 rfl) ?_
  refine rd_V (v := (f_Tr_has tr k)) (As := [.int k]) (rest := []) ⟨hx, hb, hml, hown, hts0⟩ (m_Tr_has l dC dI cI cZ ht ad.1 ad.2.1 ad.2.2.1 ad.2.2.2 tr htr k) hP hK [0, 1, 2, 3, 4] rfl [0, 1] rfl 0 4 rfl rfl L_492 L_493 L_494 L_85 L_495 ⟨rfl, k_Tr_has⟩ ⟨Nat.le_of_ble_eq_true rfl, Nat.le_of_ble_eq_true rfl⟩ hl.1 ⟨Nat.zero_le _, Nat.zero_le _⟩ (Nat.le_of_ble_eq_true rfl) d_Tr_setValue_2 rfl ?_
  refine lv_if_eq (tgt := 15) hx hb d_Tr_setValue_5 (by decide) (fun c_1 => ?_) (fun c_1 => ?_)
  · exact W.vret hx hb hr (fun t ht9 hW => ⟨⟨(ad, tr), rfl, (by unfold t_setValue; rw [if_pos c_1]), by rw [ht9]; exact hP.sub [0, 1, 2, 3, 4] rfl, va_K.moved hW.alike hK, hD.sub [0, 1, 2, 3, 4] (by decide) rfl⟩, hS.F ht9⟩) hS.2.2 d_Tr_setValue_15
  · refine lv_aload_n hx hb d_Tr_setValue_8 rfl (lv_at hl 0 rfl) ?_
    refine va_get (D := (dC, dI)) (ci := 4) (v := .ref ad.2.1) (C := R_Tr) (T := T_Tr) (N := 5) hx hb hts u_Tr hown hK hP 0 rfl rfl 1 (by decide) (hts _ L_139) (fun _ h9 => h9) rfl d_Tr_setValue_9 ?_
    refine lv_iload_n hx hb d_Tr_setValue_12 rfl (lv_at hl 1 rfl) ?_
    refine lv_iload_n hx hb d_Tr_setValue_13 rfl (lv_at hl 2 rfl) ?_
    refine va_iast (D := (dC, dI)) hx hb hK hP hD hS 2 0 rfl rfl (has_in htr c_1) d_Tr_setValue_14 (fun H locs hP hD hS => ?_)
    have hP : va_P (dC, dI) cls [(ht, .inr (4, [.ref ad.1, .ref ad.2.1, .ref ad.2.2.1, .ref ad.2.2.2, .int (nI (trn tr))])), (ad.1, .inl (cI, trc tr, .inl (trK tr))), (ad.2.1, .inl (cI, trc tr, .inl (upd (trV tr) (k : Int32).toNatClampNeg x))), (ad.2.2.1, .inl (cI, trc tr, .inl (trW tr))), (ad.2.2.2, .inl (cI, trc tr, .inl (trS tr)))] H := hP
    have hD : va_D A [(ht, .inr (4, [.ref ad.1, .ref ad.2.1, .ref ad.2.2.1, .ref ad.2.2.2, .int (nI (trn tr))])), (ad.1, .inl (cI, trc tr, .inl (trK tr))), (ad.2.1, .inl (cI, trc tr, .inl (upd (trV tr) (k : Int32).toNatClampNeg x))), (ad.2.2.1, .inl (cI, trc tr, .inl (trW tr))), (ad.2.2.2, .inl (cI, trc tr, .inl (trS tr)))] := hD
    exact W.vret hx hb hr (fun t ht9 hW => ⟨⟨(ad, (trK tr, upd (trV tr) k.toNatClampNeg x, trW tr, trS tr, trn tr, trc tr)), rfl, (by unfold t_setValue; rw [if_neg c_1]), by rw [ht9]; exact hP.sub [0, 1, 2, 3, 4] rfl, va_K.moved hW.alike hK, hD.sub [0, 1, 2, 3, 4] (by decide) rfl⟩, hS.F ht9⟩) hS.2.2 d_Tr_setValue_15
set_option maxRecDepth 100000 in
set_option maxHeartbeats 4000000 in
theorem m_Tr_clear (l : Launch) (dC : Nat → ClassId) (dI : Nat → Nat → Nat) (cI cZ : ClassId) (sa rk ht : Nat) (ad : AD) (tr : TR) (htr : okTr tr) (sz : Nat)   : cMv l y_Tr_clear c_Tr_clear 1 0 0 0 0 (dC, dI) cI cZ sa rk [.ref ht] (wT cI ht (ad, tr)) sz (fun u : AD × TR => u.2 = t_clear tr) (wT cI ht) := by
  refine Met.ofW (cc := c_Tr_clear) (maxL := 1) (ret := none) (by decide) rfl ?_
  intro p e s m args below meth c s₁ B hml hv
  obtain ⟨rfl, hsz, hP, hK, hD0, hC, hZ⟩ := hv
  have hx := B.exec
  have hb := B.bytes
  have hr := B.returns
  have hts0 := atoms_spec (ws := wy y_Tr_clear c_Tr_clear 1 none) B.pre
  have hts := htsL hts0
  have hown : s.vm.findClass R_Tr = some m.cls := findClass_of_methodNamed B.named
  have hlocks := B.notSynchronized
  subst hsz
  have hD := hD0.self (sz := s.heap.size)
  generalize hAe : va_A (wT cI ht (ad, tr)) s.heap.size = A at hD hZ ⊢
  have hA : ∀ q : Nat, s.heap.size ≤ q → A q := fun q h => by rw [← hAe]; exact Or.inr h
  have hS : va_S A s.heap s.heap [] := va_S.rf
  have hl := lv_entry ([.ref ht]) (n := 1) (Nat.le_of_ble_eq_true rfl)
  rw [lg_entry_eq]
  generalize (lg_sl ([.ref ht]) ++ List.replicate (1 - (lg_sl ([.ref ht])).length) Slot.unset).toArray = ls at hl ⊢
  have hl : lv_has ls 1 [(0, .ref ht)] := hl
  refine lv_aload_n hx hb d_Tr_clear_0 rfl (lv_at hl 0 rfl) ?_
  refine lv_iconst (v := 0) hx hb d_Tr_clear_1 (by decide) ?_
  refine va_put (D := (dC, dI)) (ci := 4) (v := .int 0) (ty := .int) (C := R_Tr) (T := T_Tr) (N := 5) hx hb hts u_Tr ty_Tr tk_Tr nm_Tr hown hK hP hD hS 0 rfl rfl 4 (by decide) (hts _ L_142) (fun _ h9 => h9) rfl (by decide +kernel) rfl rfl (Nat.le_of_ble_eq_true rfl) d_Tr_clear_2 (fun H locs hP hD hS => ?_)
  have hP : va_P (dC, dI) cls [(ht, .inr (4, [.ref ad.1, .ref ad.2.1, .ref ad.2.2.1, .ref ad.2.2.2, .int 0])), (ad.1, .inl (cI, trc tr, .inl (trK tr))), (ad.2.1, .inl (cI, trc tr, .inl (trV tr))), (ad.2.2.1, .inl (cI, trc tr, .inl (trW tr))), (ad.2.2.2, .inl (cI, trc tr, .inl (trS tr)))] H := hP
  have hD : va_D A [(ht, .inr (4, [.ref ad.1, .ref ad.2.1, .ref ad.2.2.1, .ref ad.2.2.2, .int 0])), (ad.1, .inl (cI, trc tr, .inl (trK tr))), (ad.2.1, .inl (cI, trc tr, .inl (trV tr))), (ad.2.2.1, .inl (cI, trc tr, .inl (trW tr))), (ad.2.2.2, .inl (cI, trc tr, .inl (trS tr)))] := hD
  exact W.vret hx hb hr (fun t ht9 hW => ⟨⟨(ad, t_clear tr), rfl, rfl, by rw [ht9]; exact hP.sub [0, 1, 2, 3, 4] rfl, va_K.moved hW.alike hK, hD.sub [0, 1, 2, 3, 4] (by decide) rfl⟩, hS.F ht9⟩) hS.2.2 d_Tr_clear_5
set_option maxRecDepth 100000 in
set_option maxHeartbeats 4000000 in
theorem m_Tr_makeRoom (l : Launch) (dC : Nat → ClassId) (dI : Nat → Nat → Nat) (cI cZ : ClassId) (sa rk ht : Nat) (ad : AD) (tr : TR) (htr : okTr tr) (sz : Nat)  (hb20 : trn tr < 2 ^ 20) (h0 : 0 < trc tr) : cMv l y_Tr_makeRoom c_Tr_makeRoom 2 2 200 (rcT tr) (rsT tr) (dC, dI) cI cZ sa rk [.ref ht] (wT cI ht (ad, tr)) sz (fun u : AD × TR => u.2 = t_room tr) (wT cI ht) := by
  refine Met.ofW (cc := c_Tr_makeRoom) (maxL := 2) (ret := none) (by decide) rfl ?_
  intro p e s m args below meth c s₁ B hml hv
  obtain ⟨rfl, hsz, hP, hK, hD0, hC, hZ⟩ := hv
  have hx := B.exec
  have hb := B.bytes
  have hr := B.returns
  have hts0 := atoms_spec (ws := wy y_Tr_makeRoom c_Tr_makeRoom 2 none) B.pre
  have hts := htsL hts0
  have hown : s.vm.findClass R_Tr = some m.cls := findClass_of_methodNamed B.named
  have hlocks := B.notSynchronized
  subst hsz
  have hD := hD0.self (sz := s.heap.size)
  generalize hAe : va_A (wT cI ht (ad, tr)) s.heap.size = A at hD hZ ⊢
  have hA : ∀ q : Nat, s.heap.size ≤ q → A q := fun q h => by rw [← hAe]; exact Or.inr h
  have hS : va_S A s.heap s.heap [] := va_S.rf
  have hl := lv_entry ([.ref ht]) (n := 2) (Nat.le_of_ble_eq_true rfl)
  rw [lg_entry_eq]
  generalize (lg_sl ([.ref ht]) ++ List.replicate (2 - (lg_sl ([.ref ht])).length) Slot.unset).toArray = ls at hl ⊢
  have hl : lv_has ls 2 [(0, .ref ht)] := hl
  refine lv_aload_n hx hb d_Tr_makeRoom_0 rfl (lv_at hl 0 rfl) ?_
  refine va_get (D := (dC, dI)) (ci := 4) (v := .int (nI (trn tr))) (C := R_Tr) (T := T_Tr) (N := 5) hx hb hts u_Tr hown hK hP 0 rfl rfl 4 (by decide) (hts _ L_142) (fun _ h9 => h9) rfl d_Tr_makeRoom_1 ?_
  refine lv_aload_n hx hb d_Tr_makeRoom_4 rfl (lv_at hl 0 rfl) ?_
  refine va_get (D := (dC, dI)) (ci := 4) (v := .ref ad.1) (C := R_Tr) (T := T_Tr) (N := 5) hx hb hts u_Tr hown hK hP 0 rfl rfl 0 (by decide) (hts _ L_138) (fun _ h9 => h9) rfl d_Tr_makeRoom_5 ?_
  refine va_alen (D := (dC, dI)) (v := nI (trc tr)) hx hb hK hP 1 0 rfl rfl rfl d_Tr_makeRoom_8 ?_
  refine lv_icmp_ne (tgt := 67) hx hb d_Tr_makeRoom_9 (by decide) (fun c_1 => ?_) (fun c_1 => ?_)
  · have hne : ¬ trn tr = trc tr := fun z => c_1 (by rw [z])
    refine W.widen (k := rcT tr) (n := rsT tr) (Nat.zero_le _) (Nat.zero_le _) ?_
    exact W.vret hx hb hr (fun t ht9 hW => ⟨⟨(ad, tr), rfl, (by show tr = t_room tr; unfold t_room; rw [if_neg hne]), by rw [ht9]; exact hP.sub [0, 1, 2, 3, 4] rfl, va_K.moved hW.alike hK, hD.sub [0, 1, 2, 3, 4] (by decide) rfl⟩, hS.F ht9⟩) hS.2.2 d_Tr_makeRoom_67
  · have heq : trn tr = trc tr := (nI_eq (Nat.lt_of_le_of_lt htr.1 htr.2) htr.2).mp c_1
    have hrc : rcT tr = 4 := by unfold rcT; rw [if_pos heq]
    have hrs : rsT tr = 8 * trn tr := by unfold rsT; rw [if_pos heq]
    have hgr : trc tr < 2 * trn tr := by omega
    have hg4 : 2 * trn tr * 4 ≤ 536870912 := by omega
    refine lv_iconst (v := 2) hx hb d_Tr_makeRoom_12 (by decide) ?_
    refine lv_aload_n hx hb d_Tr_makeRoom_13 rfl (lv_at hl 0 rfl) ?_
    refine va_get (D := (dC, dI)) (ci := 4) (v := .int (nI (trn tr))) (C := R_Tr) (T := T_Tr) (N := 5) hx hb hts u_Tr hown hK hP 0 rfl rfl 4 (by decide) (hts _ L_142) (fun _ h9 => h9) rfl d_Tr_makeRoom_14 ?_
    refine lv_imul hx hb d_Tr_makeRoom_17 ?_
    refine lv_eqi (y := (nI (2 * trn tr))) (nI_2m _) ?_
    refine lv_istore_n (lv' := [(1, .int (nI (2 * trn tr))), (0, .ref ht)]) hx hb d_Tr_makeRoom_18 rfl hl (by decide) rfl (fun ls hl => ?_)
    refine lv_aload_n hx hb d_Tr_makeRoom_19 rfl (lv_at hl 1 rfl) ?_
    refine lv_aload_n hx hb d_Tr_makeRoom_20 rfl (lv_at hl 1 rfl) ?_
    refine va_get (D := (dC, dI)) (ci := 4) (v := .ref ad.1) (C := R_Tr) (T := T_Tr) (N := 5) hx hb hts u_Tr hown hK hP 0 rfl rfl 0 (by decide) (hts _ L_138) (fun _ h9 => h9) rfl d_Tr_makeRoom_21 ?_
    refine lv_iload_n hx hb d_Tr_makeRoom_24 rfl (lv_at hl 0 rfl) ?_
    refine cp_S (N := 2 * trn tr) (rest := [.ref ht]) ⟨hx, hb, hml, hown, hts0⟩ hP hD hK hS hA hC hZ 1 rfl L_424 L_377 L_97 L_378 hgr hg4 ⟨Nat.le_of_ble_eq_true rfl, Nat.le_of_ble_eq_true rfl⟩ hl.1 ⟨by show _ + 1 ≤ rcT tr; rw [hrc]; omega, by show _ + 2 * trn tr ≤ rsT tr; rw [hrs]; omega⟩ (Nat.le_of_ble_eq_true rfl) d_Tr_makeRoom_25 rfl (fun q2 H locs hP hD hS => ?_)
    have hP : va_P (dC, dI) cls [(ht, .inr (4, [.ref ad.1, .ref ad.2.1, .ref ad.2.2.1, .ref ad.2.2.2, .int (nI (trn tr))])), (ad.1, .inl (cI, trc tr, .inl (trK tr))), (ad.2.1, .inl (cI, trc tr, .inl (trV tr))), (ad.2.2.1, .inl (cI, trc tr, .inl (trW tr))), (ad.2.2.2, .inl (cI, trc tr, .inl (trS tr))), (q2, .inl (cI, 2 * trn tr, .inl (cpn (trK tr) (trc tr))))] H := hP
    have hD : va_D A [(ht, .inr (4, [.ref ad.1, .ref ad.2.1, .ref ad.2.2.1, .ref ad.2.2.2, .int (nI (trn tr))])), (ad.1, .inl (cI, trc tr, .inl (trK tr))), (ad.2.1, .inl (cI, trc tr, .inl (trV tr))), (ad.2.2.1, .inl (cI, trc tr, .inl (trW tr))), (ad.2.2.2, .inl (cI, trc tr, .inl (trS tr))), (q2, .inl (cI, 2 * trn tr, .inl (cpn (trK tr) (trc tr))))] := hD
    refine va_put (D := (dC, dI)) (ci := 4) (v := .ref q2) (ty := .array .int) (C := R_Tr) (T := T_Tr) (N := 5) hx hb hts u_Tr ty_Tr tk_Tr nm_Tr hown hK hP hD hS 0 rfl rfl 0 (by decide) (hts _ L_138) (fun _ h9 => h9) rfl (by decide +kernel) rfl rfl (Nat.le_of_ble_eq_true rfl) d_Tr_makeRoom_28 (fun H locs hP hD hS => ?_)
    have hP : va_P (dC, dI) cls [(ht, .inr (4, [.ref q2, .ref ad.2.1, .ref ad.2.2.1, .ref ad.2.2.2, .int (nI (trn tr))])), (ad.1, .inl (cI, trc tr, .inl (trK tr))), (ad.2.1, .inl (cI, trc tr, .inl (trV tr))), (ad.2.2.1, .inl (cI, trc tr, .inl (trW tr))), (ad.2.2.2, .inl (cI, trc tr, .inl (trS tr))), (q2, .inl (cI, 2 * trn tr, .inl (cpn (trK tr) (trc tr))))] H := hP
    have hD : va_D A [(ht, .inr (4, [.ref q2, .ref ad.2.1, .ref ad.2.2.1, .ref ad.2.2.2, .int (nI (trn tr))])), (ad.1, .inl (cI, trc tr, .inl (trK tr))), (ad.2.1, .inl (cI, trc tr, .inl (trV tr))), (ad.2.2.1, .inl (cI, trc tr, .inl (trW tr))), (ad.2.2.2, .inl (cI, trc tr, .inl (trS tr))), (q2, .inl (cI, 2 * trn tr, .inl (cpn (trK tr) (trc tr))))] := hD
    refine lv_aload_n hx hb d_Tr_makeRoom_31 rfl (lv_at hl 1 rfl) ?_
    refine lv_aload_n hx hb d_Tr_makeRoom_32 rfl (lv_at hl 1 rfl) ?_
    refine va_get (D := (dC, dI)) (ci := 4) (v := .ref ad.2.1) (C := R_Tr) (T := T_Tr) (N := 5) hx hb hts u_Tr hown hK hP 0 rfl rfl 1 (by decide) (hts _ L_139) (fun _ h9 => h9) rfl d_Tr_makeRoom_33 ?_
    refine lv_iload_n hx hb d_Tr_makeRoom_36 rfl (lv_at hl 0 rfl) ?_
    refine cp_S (N := 2 * trn tr) (rest := [.ref ht]) ⟨hx, hb, hml, hown, hts0⟩ hP hD hK hS hA hC hZ 2 rfl L_424 L_377 L_97 L_378 hgr hg4 ⟨Nat.le_of_ble_eq_true rfl, Nat.le_of_ble_eq_true rfl⟩ hl.1 ⟨by show _ + 1 ≤ rcT tr; rw [hrc]; omega, by show _ + 2 * trn tr ≤ rsT tr; rw [hrs]; omega⟩ (Nat.le_of_ble_eq_true rfl) d_Tr_makeRoom_37 rfl (fun q3 H locs hP hD hS => ?_)
    have hP : va_P (dC, dI) cls [(ht, .inr (4, [.ref q2, .ref ad.2.1, .ref ad.2.2.1, .ref ad.2.2.2, .int (nI (trn tr))])), (ad.1, .inl (cI, trc tr, .inl (trK tr))), (ad.2.1, .inl (cI, trc tr, .inl (trV tr))), (ad.2.2.1, .inl (cI, trc tr, .inl (trW tr))), (ad.2.2.2, .inl (cI, trc tr, .inl (trS tr))), (q2, .inl (cI, 2 * trn tr, .inl (cpn (trK tr) (trc tr)))), (q3, .inl (cI, 2 * trn tr, .inl (cpn (trV tr) (trc tr))))] H := hP
    have hD : va_D A [(ht, .inr (4, [.ref q2, .ref ad.2.1, .ref ad.2.2.1, .ref ad.2.2.2, .int (nI (trn tr))])), (ad.1, .inl (cI, trc tr, .inl (trK tr))), (ad.2.1, .inl (cI, trc tr, .inl (trV tr))), (ad.2.2.1, .inl (cI, trc tr, .inl (trW tr))), (ad.2.2.2, .inl (cI, trc tr, .inl (trS tr))), (q2, .inl (cI, 2 * trn tr, .inl (cpn (trK tr) (trc tr)))), (q3, .inl (cI, 2 * trn tr, .inl (cpn (trV tr) (trc tr))))] := hD
    refine va_put (D := (dC, dI)) (ci := 4) (v := .ref q3) (ty := .array .int) (C := R_Tr) (T := T_Tr) (N := 5) hx hb hts u_Tr ty_Tr tk_Tr nm_Tr hown hK hP hD hS 0 rfl rfl 1 (by decide) (hts _ L_139) (fun _ h9 => h9) rfl (by decide +kernel) rfl rfl (Nat.le_of_ble_eq_true rfl) d_Tr_makeRoom_40 (fun H locs hP hD hS => ?_)
    have hP : va_P (dC, dI) cls [(ht, .inr (4, [.ref q2, .ref q3, .ref ad.2.2.1, .ref ad.2.2.2, .int (nI (trn tr))])), (ad.1, .inl (cI, trc tr, .inl (trK tr))), (ad.2.1, .inl (cI, trc tr, .inl (trV tr))), (ad.2.2.1, .inl (cI, trc tr, .inl (trW tr))), (ad.2.2.2, .inl (cI, trc tr, .inl (trS tr))), (q2, .inl (cI, 2 * trn tr, .inl (cpn (trK tr) (trc tr)))), (q3, .inl (cI, 2 * trn tr, .inl (cpn (trV tr) (trc tr))))] H := hP
    have hD : va_D A [(ht, .inr (4, [.ref q2, .ref q3, .ref ad.2.2.1, .ref ad.2.2.2, .int (nI (trn tr))])), (ad.1, .inl (cI, trc tr, .inl (trK tr))), (ad.2.1, .inl (cI, trc tr, .inl (trV tr))), (ad.2.2.1, .inl (cI, trc tr, .inl (trW tr))), (ad.2.2.2, .inl (cI, trc tr, .inl (trS tr))), (q2, .inl (cI, 2 * trn tr, .inl (cpn (trK tr) (trc tr)))), (q3, .inl (cI, 2 * trn tr, .inl (cpn (trV tr) (trc tr))))] := hD
    refine lv_aload_n hx hb d_Tr_makeRoom_43 rfl (lv_at hl 1 rfl) ?_
    refine lv_aload_n hx hb d_Tr_makeRoom_44 rfl (lv_at hl 1 rfl) ?_
    refine va_get (D := (dC, dI)) (ci := 4) (v := .ref ad.2.2.1) (C := R_Tr) (T := T_Tr) (N := 5) hx hb hts u_Tr hown hK hP 0 rfl rfl 2 (by decide) (hts _ L_140) (fun _ h9 => h9) rfl d_Tr_makeRoom_45 ?_
    refine lv_iload_n hx hb d_Tr_makeRoom_48 rfl (lv_at hl 0 rfl) ?_
    refine cp_S (N := 2 * trn tr) (rest := [.ref ht]) ⟨hx, hb, hml, hown, hts0⟩ hP hD hK hS hA hC hZ 3 rfl L_424 L_377 L_97 L_378 hgr hg4 ⟨Nat.le_of_ble_eq_true rfl, Nat.le_of_ble_eq_true rfl⟩ hl.1 ⟨by show _ + 1 ≤ rcT tr; rw [hrc]; omega, by show _ + 2 * trn tr ≤ rsT tr; rw [hrs]; omega⟩ (Nat.le_of_ble_eq_true rfl) d_Tr_makeRoom_49 rfl (fun q4 H locs hP hD hS => ?_)
    have hP : va_P (dC, dI) cls [(ht, .inr (4, [.ref q2, .ref q3, .ref ad.2.2.1, .ref ad.2.2.2, .int (nI (trn tr))])), (ad.1, .inl (cI, trc tr, .inl (trK tr))), (ad.2.1, .inl (cI, trc tr, .inl (trV tr))), (ad.2.2.1, .inl (cI, trc tr, .inl (trW tr))), (ad.2.2.2, .inl (cI, trc tr, .inl (trS tr))), (q2, .inl (cI, 2 * trn tr, .inl (cpn (trK tr) (trc tr)))), (q3, .inl (cI, 2 * trn tr, .inl (cpn (trV tr) (trc tr)))), (q4, .inl (cI, 2 * trn tr, .inl (cpn (trW tr) (trc tr))))] H := hP
    have hD : va_D A [(ht, .inr (4, [.ref q2, .ref q3, .ref ad.2.2.1, .ref ad.2.2.2, .int (nI (trn tr))])), (ad.1, .inl (cI, trc tr, .inl (trK tr))), (ad.2.1, .inl (cI, trc tr, .inl (trV tr))), (ad.2.2.1, .inl (cI, trc tr, .inl (trW tr))), (ad.2.2.2, .inl (cI, trc tr, .inl (trS tr))), (q2, .inl (cI, 2 * trn tr, .inl (cpn (trK tr) (trc tr)))), (q3, .inl (cI, 2 * trn tr, .inl (cpn (trV tr) (trc tr)))), (q4, .inl (cI, 2 * trn tr, .inl (cpn (trW tr) (trc tr))))] := hD
    refine va_put (D := (dC, dI)) (ci := 4) (v := .ref q4) (ty := .array .int) (C := R_Tr) (T := T_Tr) (N := 5) hx hb hts u_Tr ty_Tr tk_Tr nm_Tr hown hK hP hD hS 0 rfl rfl 2 (by decide) (hts _ L_140) (fun _ h9 => h9) rfl (by decide +kernel) rfl rfl (Nat.le_of_ble_eq_true rfl) d_Tr_makeRoom_52 (fun H locs hP hD hS => ?_)
    have hP : va_P (dC, dI) cls [(ht, .inr (4, [.ref q2, .ref q3, .ref q4, .ref ad.2.2.2, .int (nI (trn tr))])), (ad.1, .inl (cI, trc tr, .inl (trK tr))), (ad.2.1, .inl (cI, trc tr, .inl (trV tr))), (ad.2.2.1, .inl (cI, trc tr, .inl (trW tr))), (ad.2.2.2, .inl (cI, trc tr, .inl (trS tr))), (q2, .inl (cI, 2 * trn tr, .inl (cpn (trK tr) (trc tr)))), (q3, .inl (cI, 2 * trn tr, .inl (cpn (trV tr) (trc tr)))), (q4, .inl (cI, 2 * trn tr, .inl (cpn (trW tr) (trc tr))))] H := hP
    have hD : va_D A [(ht, .inr (4, [.ref q2, .ref q3, .ref q4, .ref ad.2.2.2, .int (nI (trn tr))])), (ad.1, .inl (cI, trc tr, .inl (trK tr))), (ad.2.1, .inl (cI, trc tr, .inl (trV tr))), (ad.2.2.1, .inl (cI, trc tr, .inl (trW tr))), (ad.2.2.2, .inl (cI, trc tr, .inl (trS tr))), (q2, .inl (cI, 2 * trn tr, .inl (cpn (trK tr) (trc tr)))), (q3, .inl (cI, 2 * trn tr, .inl (cpn (trV tr) (trc tr)))), (q4, .inl (cI, 2 * trn tr, .inl (cpn (trW tr) (trc tr))))] := hD
    refine lv_aload_n hx hb d_Tr_makeRoom_55 rfl (lv_at hl 1 rfl) ?_
    refine lv_aload_n hx hb d_Tr_makeRoom_56 rfl (lv_at hl 1 rfl) ?_
    refine va_get (D := (dC, dI)) (ci := 4) (v := .ref ad.2.2.2) (C := R_Tr) (T := T_Tr) (N := 5) hx hb hts u_Tr hown hK hP 0 rfl rfl 3 (by decide) (hts _ L_141) (fun _ h9 => h9) rfl d_Tr_makeRoom_57 ?_
    refine lv_iload_n hx hb d_Tr_makeRoom_60 rfl (lv_at hl 0 rfl) ?_
    refine cp_S (N := 2 * trn tr) (rest := [.ref ht]) ⟨hx, hb, hml, hown, hts0⟩ hP hD hK hS hA hC hZ 4 rfl L_424 L_377 L_97 L_378 hgr hg4 ⟨Nat.le_of_ble_eq_true rfl, Nat.le_of_ble_eq_true rfl⟩ hl.1 ⟨by show _ + 1 ≤ rcT tr; rw [hrc]; omega, by show _ + 2 * trn tr ≤ rsT tr; rw [hrs]; omega⟩ (Nat.le_of_ble_eq_true rfl) d_Tr_makeRoom_61 rfl (fun q5 H locs hP hD hS => ?_)
    have hP : va_P (dC, dI) cls [(ht, .inr (4, [.ref q2, .ref q3, .ref q4, .ref ad.2.2.2, .int (nI (trn tr))])), (ad.1, .inl (cI, trc tr, .inl (trK tr))), (ad.2.1, .inl (cI, trc tr, .inl (trV tr))), (ad.2.2.1, .inl (cI, trc tr, .inl (trW tr))), (ad.2.2.2, .inl (cI, trc tr, .inl (trS tr))), (q2, .inl (cI, 2 * trn tr, .inl (cpn (trK tr) (trc tr)))), (q3, .inl (cI, 2 * trn tr, .inl (cpn (trV tr) (trc tr)))), (q4, .inl (cI, 2 * trn tr, .inl (cpn (trW tr) (trc tr)))), (q5, .inl (cI, 2 * trn tr, .inl (cpn (trS tr) (trc tr))))] H := hP
    have hD : va_D A [(ht, .inr (4, [.ref q2, .ref q3, .ref q4, .ref ad.2.2.2, .int (nI (trn tr))])), (ad.1, .inl (cI, trc tr, .inl (trK tr))), (ad.2.1, .inl (cI, trc tr, .inl (trV tr))), (ad.2.2.1, .inl (cI, trc tr, .inl (trW tr))), (ad.2.2.2, .inl (cI, trc tr, .inl (trS tr))), (q2, .inl (cI, 2 * trn tr, .inl (cpn (trK tr) (trc tr)))), (q3, .inl (cI, 2 * trn tr, .inl (cpn (trV tr) (trc tr)))), (q4, .inl (cI, 2 * trn tr, .inl (cpn (trW tr) (trc tr)))), (q5, .inl (cI, 2 * trn tr, .inl (cpn (trS tr) (trc tr))))] := hD
    refine va_put (D := (dC, dI)) (ci := 4) (v := .ref q5) (ty := .array .int) (C := R_Tr) (T := T_Tr) (N := 5) hx hb hts u_Tr ty_Tr tk_Tr nm_Tr hown hK hP hD hS 0 rfl rfl 3 (by decide) (hts _ L_141) (fun _ h9 => h9) rfl (by decide +kernel) rfl rfl (Nat.le_of_ble_eq_true rfl) d_Tr_makeRoom_64 (fun H locs hP hD hS => ?_)
    have hP : va_P (dC, dI) cls [(ht, .inr (4, [.ref q2, .ref q3, .ref q4, .ref q5, .int (nI (trn tr))])), (ad.1, .inl (cI, trc tr, .inl (trK tr))), (ad.2.1, .inl (cI, trc tr, .inl (trV tr))), (ad.2.2.1, .inl (cI, trc tr, .inl (trW tr))), (ad.2.2.2, .inl (cI, trc tr, .inl (trS tr))), (q2, .inl (cI, 2 * trn tr, .inl (cpn (trK tr) (trc tr)))), (q3, .inl (cI, 2 * trn tr, .inl (cpn (trV tr) (trc tr)))), (q4, .inl (cI, 2 * trn tr, .inl (cpn (trW tr) (trc tr)))), (q5, .inl (cI, 2 * trn tr, .inl (cpn (trS tr) (trc tr))))] H := hP
    have hD : va_D A [(ht, .inr (4, [.ref q2, .ref q3, .ref q4, .ref q5, .int (nI (trn tr))])), (ad.1, .inl (cI, trc tr, .inl (trK tr))), (ad.2.1, .inl (cI, trc tr, .inl (trV tr))), (ad.2.2.1, .inl (cI, trc tr, .inl (trW tr))), (ad.2.2.2, .inl (cI, trc tr, .inl (trS tr))), (q2, .inl (cI, 2 * trn tr, .inl (cpn (trK tr) (trc tr)))), (q3, .inl (cI, 2 * trn tr, .inl (cpn (trV tr) (trc tr)))), (q4, .inl (cI, 2 * trn tr, .inl (cpn (trW tr) (trc tr)))), (q5, .inl (cI, 2 * trn tr, .inl (cpn (trS tr) (trc tr))))] := hD
    refine W.widen (k := rcT tr) (n := rsT tr) (by rw [hrc]; exact Nat.le_refl _) (by rw [hrs]; omega) ?_
    exact W.vret hx hb hr (fun t ht9 hW => ⟨⟨((q2, q3, q4, q5), (cpn (trK tr) (trc tr), cpn (trV tr) (trc tr), cpn (trW tr) (trc tr), cpn (trS tr) (trc tr), trn tr, 2 * trn tr)), rfl, (by unfold t_room; rw [if_pos heq]), by rw [ht9]; exact hP.sub [0, 5, 6, 7, 8] rfl, va_K.moved hW.alike hK, hD.sub [0, 5, 6, 7, 8] (by decide) rfl⟩, hS.F ht9⟩) hS.2.2 d_Tr_makeRoom_67
set_option maxRecDepth 100000 in
set_option maxHeartbeats 4000000 in
theorem m_Tr_open (l : Launch) (dC : Nat → ClassId) (dI : Nat → Nat → Nat) (cI cZ : ClassId) (sa rk ht : Nat) (ad : AD) (tr : TR) (htr : okTr tr) (sz : Nat) (kind : Int32) (value : Int32) (wh : Int32) (hb20 : trn tr < 2 ^ 20) (h0 : 0 < trc tr) : cMi l y_Tr_open c_Tr_open 4 .int 3 300 (rcT tr) (rsT tr) (dC, dI) cI cZ sa rk [.ref ht, .int kind, .int value, .int wh] (wT cI ht (ad, tr)) sz (fun (r : Int32) (u : AD × TR) => r = nI (trn tr) ∧ u.2 = t_open tr kind value wh) (wT cI ht) := by
  refine Met.ofW (cc := c_Tr_open) (maxL := 4) (ret := (some .int)) (by decide) rfl ?_
  intro p e s m args below meth c s₁ B hml hv
  obtain ⟨rfl, hsz, hP, hK, hD0, hC, hZ⟩ := hv
  have hx := B.exec
  have hb := B.bytes
  have hr := B.returns
  have hts0 := atoms_spec (ws := wy y_Tr_open c_Tr_open 4 (some .int)) B.pre
  have hts := htsL hts0
  have hown : s.vm.findClass R_Tr = some m.cls := findClass_of_methodNamed B.named
  have hlocks := B.notSynchronized
  subst hsz
  have hD := hD0.self (sz := s.heap.size)
  generalize hAe : va_A (wT cI ht (ad, tr)) s.heap.size = A at hD hZ ⊢
  have hA : ∀ q : Nat, s.heap.size ≤ q → A q := fun q h => by rw [← hAe]; exact Or.inr h
  have hS : va_S A s.heap s.heap [] := va_S.rf
  have hl := lv_entry ([.ref ht, .int kind, .int value, .int wh]) (n := 4) (Nat.le_of_ble_eq_true rfl)
  rw [lg_entry_eq]
  generalize (lg_sl ([.ref ht, .int kind, .int value, .int wh]) ++ List.replicate (4 - (lg_sl ([.ref ht, .int kind, .int value, .int wh])).length) Slot.unset).toArray = ls at hl ⊢
  have hl : lv_has ls 4 [(0, .ref ht), (1, .int kind), (2, .int value), (3, .int wh)] := hl
  refine lv_aload_n hx hb d_Tr_open_0 rfl (lv_at hl 0 rfl) ?_
  refine mu_Vv (S := AD × TR) (w' := wT cI ht) (wr := []) (As := []) (rest := []) ⟨hx, hb, hml, hown, hts0⟩ (m_Tr_makeRoom l dC dI cI cZ sa rk ht ad tr htr _ hb20 h0) hP hD hK hS hA hC hZ [0, 1, 2, 3, 4] [] rfl rfl (by decide) (by decide) (by decide) 0 4 rfl rfl L_420 L_422 L_3 L_85 L_423 ⟨rfl, k_Tr_makeRoom⟩ ⟨Nat.le_of_ble_eq_true rfl, Nat.le_of_ble_eq_true rfl⟩ hl.1 ⟨by show 0 + rcT tr ≤ rcT tr; omega, by show 0 + rsT tr ≤ rsT tr; omega⟩ (Nat.le_of_ble_eq_true rfl) d_Tr_open_1 rfl (fun u H locs hw hP hD hS => ?_)
  obtain ⟨ad1, t9⟩ := u
  have hw : t9 = (t_room tr) := hw
  subst hw
  have hP : va_P (dC, dI) cls [(ht, .inr (4, [.ref ad1.1, .ref ad1.2.1, .ref ad1.2.2.1, .ref ad1.2.2.2, .int (nI (trn ((t_room tr))))])), (ad1.1, .inl (cI, trc ((t_room tr)), .inl (trK ((t_room tr))))), (ad1.2.1, .inl (cI, trc ((t_room tr)), .inl (trV ((t_room tr))))), (ad1.2.2.1, .inl (cI, trc ((t_room tr)), .inl (trW ((t_room tr))))), (ad1.2.2.2, .inl (cI, trc ((t_room tr)), .inl (trS ((t_room tr)))))] H := hP
  have hD : va_D A [(ht, .inr (4, [.ref ad1.1, .ref ad1.2.1, .ref ad1.2.2.1, .ref ad1.2.2.2, .int (nI (trn ((t_room tr))))])), (ad1.1, .inl (cI, trc ((t_room tr)), .inl (trK ((t_room tr))))), (ad1.2.1, .inl (cI, trc ((t_room tr)), .inl (trV ((t_room tr))))), (ad1.2.2.1, .inl (cI, trc ((t_room tr)), .inl (trW ((t_room tr))))), (ad1.2.2.2, .inl (cI, trc ((t_room tr)), .inl (trS ((t_room tr)))))] := hD
  have hn1 : trn (t_room tr) = trn tr := t_room_n tr
  have hin : vp_in (nI (trn (t_room tr))) (trc (t_room tr)) := vp_in_nI (by rw [hn1]; exact t_room_c htr h0) (t_room_ok htr hb20).2
  refine lv_aload_n hx hb d_Tr_open_4 rfl (lv_at hl 0 rfl) ?_
  refine lv_aload_n hx hb d_Tr_open_5 rfl (lv_at hl 0 rfl) ?_
  refine va_get (D := (dC, dI)) (ci := 4) (v := .int (nI (trn ((t_room tr))))) (C := R_Tr) (T := T_Tr) (N := 5) hx hb hts u_Tr hown hK hP 0 rfl rfl 4 (by decide) (hts _ L_142) (fun _ h9 => h9) rfl d_Tr_open_6 ?_
  refine lv_iload_n hx hb d_Tr_open_9 rfl (lv_at hl 1 rfl) ?_
  refine lv_iload_n hx hb d_Tr_open_10 rfl (lv_at hl 2 rfl) ?_
  refine lv_iload_n hx hb d_Tr_open_11 rfl (lv_at hl 3 rfl) ?_
  refine lv_iconst (v := 1) hx hb d_Tr_open_12 (by decide) ?_
  refine mu_Vv (S := AD × TR) (w' := wT cI ht) (wr := []) (As := [.int (nI (trn ((t_room tr)))), .int kind, .int value, .int wh, .int 1]) (rest := []) ⟨hx, hb, hml, hown, hts0⟩ (m_Tr_put l dC dI cI cZ sa rk ht ad1 (t_room tr) (t_room_ok htr hb20) _ (nI (trn ((t_room tr)))) kind value wh 1 hin) hP hD hK hS hA hC hZ [0, 1, 2, 3, 4] [] rfl rfl (by decide) (by decide) (by decide) 0 4 rfl rfl L_425 L_427 L_4 L_85 L_428 ⟨rfl, k_Tr_put⟩ ⟨Nat.le_of_ble_eq_true rfl, Nat.le_of_ble_eq_true rfl⟩ hl.1 ⟨by show 0 + rcT tr + 0 ≤ rcT tr; omega, by show 0 + rsT tr + 0 ≤ rsT tr; omega⟩ (Nat.le_of_ble_eq_true rfl) d_Tr_open_13 rfl (fun u H locs hw hP hD hS => ?_)
  obtain ⟨ad2, t9⟩ := u
  have hw : t9 = (t_put (t_room tr) (nI (trn (t_room tr))).toNatClampNeg kind value wh 1) := hw
  subst hw
  have hP : va_P (dC, dI) cls [(ht, .inr (4, [.ref ad2.1, .ref ad2.2.1, .ref ad2.2.2.1, .ref ad2.2.2.2, .int (nI (trn ((t_put (t_room tr) (nI (trn (t_room tr))).toNatClampNeg kind value wh 1))))])), (ad2.1, .inl (cI, trc ((t_put (t_room tr) (nI (trn (t_room tr))).toNatClampNeg kind value wh 1)), .inl (trK ((t_put (t_room tr) (nI (trn (t_room tr))).toNatClampNeg kind value wh 1))))), (ad2.2.1, .inl (cI, trc ((t_put (t_room tr) (nI (trn (t_room tr))).toNatClampNeg kind value wh 1)), .inl (trV ((t_put (t_room tr) (nI (trn (t_room tr))).toNatClampNeg kind value wh 1))))), (ad2.2.2.1, .inl (cI, trc ((t_put (t_room tr) (nI (trn (t_room tr))).toNatClampNeg kind value wh 1)), .inl (trW ((t_put (t_room tr) (nI (trn (t_room tr))).toNatClampNeg kind value wh 1))))), (ad2.2.2.2, .inl (cI, trc ((t_put (t_room tr) (nI (trn (t_room tr))).toNatClampNeg kind value wh 1)), .inl (trS ((t_put (t_room tr) (nI (trn (t_room tr))).toNatClampNeg kind value wh 1)))))] H := hP
  have hD : va_D A [(ht, .inr (4, [.ref ad2.1, .ref ad2.2.1, .ref ad2.2.2.1, .ref ad2.2.2.2, .int (nI (trn ((t_put (t_room tr) (nI (trn (t_room tr))).toNatClampNeg kind value wh 1))))])), (ad2.1, .inl (cI, trc ((t_put (t_room tr) (nI (trn (t_room tr))).toNatClampNeg kind value wh 1)), .inl (trK ((t_put (t_room tr) (nI (trn (t_room tr))).toNatClampNeg kind value wh 1))))), (ad2.2.1, .inl (cI, trc ((t_put (t_room tr) (nI (trn (t_room tr))).toNatClampNeg kind value wh 1)), .inl (trV ((t_put (t_room tr) (nI (trn (t_room tr))).toNatClampNeg kind value wh 1))))), (ad2.2.2.1, .inl (cI, trc ((t_put (t_room tr) (nI (trn (t_room tr))).toNatClampNeg kind value wh 1)), .inl (trW ((t_put (t_room tr) (nI (trn (t_room tr))).toNatClampNeg kind value wh 1))))), (ad2.2.2.2, .inl (cI, trc ((t_put (t_room tr) (nI (trn (t_room tr))).toNatClampNeg kind value wh 1)), .inl (trS ((t_put (t_room tr) (nI (trn (t_room tr))).toNatClampNeg kind value wh 1)))))] := hD
  refine lv_aload_n hx hb d_Tr_open_16 rfl (lv_at hl 0 rfl) ?_
  refine lv_dup hx hb d_Tr_open_17 rfl ?_
  refine va_get (D := (dC, dI)) (ci := 4) (v := .int (nI (trn ((t_put (t_room tr) (nI (trn (t_room tr))).toNatClampNeg kind value wh 1))))) (C := R_Tr) (T := T_Tr) (N := 5) hx hb hts u_Tr hown hK hP 0 rfl rfl 4 (by decide) (hts _ L_142) (fun _ h9 => h9) rfl d_Tr_open_18 ?_
  refine lv_iconst (v := 1) hx hb d_Tr_open_21 (by decide) ?_
  refine lv_iadd hx hb d_Tr_open_22 ?_
  refine lv_eqi (y := (nI (trn (t_put (t_room tr) (nI (trn (t_room tr))).toNatClampNeg kind value wh 1) + 1))) (nI_1 _) ?_
  refine va_put (D := (dC, dI)) (ci := 4) (v := .int (nI (trn (t_put (t_room tr) (nI (trn (t_room tr))).toNatClampNeg kind value wh 1) + 1))) (ty := .int) (C := R_Tr) (T := T_Tr) (N := 5) hx hb hts u_Tr ty_Tr tk_Tr nm_Tr hown hK hP hD hS 0 rfl rfl 4 (by decide) (hts _ L_142) (fun _ h9 => h9) rfl (by decide +kernel) rfl rfl (Nat.le_of_ble_eq_true rfl) d_Tr_open_23 (fun H locs hP hD hS => ?_)
  have hP : va_P (dC, dI) cls [(ht, .inr (4, [.ref ad2.1, .ref ad2.2.1, .ref ad2.2.2.1, .ref ad2.2.2.2, .int (nI (trn (t_put (t_room tr) (nI (trn (t_room tr))).toNatClampNeg kind value wh 1) + 1))])), (ad2.1, .inl (cI, trc ((t_put (t_room tr) (nI (trn (t_room tr))).toNatClampNeg kind value wh 1)), .inl (trK ((t_put (t_room tr) (nI (trn (t_room tr))).toNatClampNeg kind value wh 1))))), (ad2.2.1, .inl (cI, trc ((t_put (t_room tr) (nI (trn (t_room tr))).toNatClampNeg kind value wh 1)), .inl (trV ((t_put (t_room tr) (nI (trn (t_room tr))).toNatClampNeg kind value wh 1))))), (ad2.2.2.1, .inl (cI, trc ((t_put (t_room tr) (nI (trn (t_room tr))).toNatClampNeg kind value wh 1)), .inl (trW ((t_put (t_room tr) (nI (trn (t_room tr))).toNatClampNeg kind value wh 1))))), (ad2.2.2.2, .inl (cI, trc ((t_put (t_room tr) (nI (trn (t_room tr))).toNatClampNeg kind value wh 1)), .inl (trS ((t_put (t_room tr) (nI (trn (t_room tr))).toNatClampNeg kind value wh 1)))))] H := hP
  have hD : va_D A [(ht, .inr (4, [.ref ad2.1, .ref ad2.2.1, .ref ad2.2.2.1, .ref ad2.2.2.2, .int (nI (trn (t_put (t_room tr) (nI (trn (t_room tr))).toNatClampNeg kind value wh 1) + 1))])), (ad2.1, .inl (cI, trc ((t_put (t_room tr) (nI (trn (t_room tr))).toNatClampNeg kind value wh 1)), .inl (trK ((t_put (t_room tr) (nI (trn (t_room tr))).toNatClampNeg kind value wh 1))))), (ad2.2.1, .inl (cI, trc ((t_put (t_room tr) (nI (trn (t_room tr))).toNatClampNeg kind value wh 1)), .inl (trV ((t_put (t_room tr) (nI (trn (t_room tr))).toNatClampNeg kind value wh 1))))), (ad2.2.2.1, .inl (cI, trc ((t_put (t_room tr) (nI (trn (t_room tr))).toNatClampNeg kind value wh 1)), .inl (trW ((t_put (t_room tr) (nI (trn (t_room tr))).toNatClampNeg kind value wh 1))))), (ad2.2.2.2, .inl (cI, trc ((t_put (t_room tr) (nI (trn (t_room tr))).toNatClampNeg kind value wh 1)), .inl (trS ((t_put (t_room tr) (nI (trn (t_room tr))).toNatClampNeg kind value wh 1)))))] := hD
  refine lv_aload_n hx hb d_Tr_open_26 rfl (lv_at hl 0 rfl) ?_
  refine va_get (D := (dC, dI)) (ci := 4) (v := .int (nI (trn (t_put (t_room tr) (nI (trn (t_room tr))).toNatClampNeg kind value wh 1) + 1))) (C := R_Tr) (T := T_Tr) (N := 5) hx hb hts u_Tr hown hK hP 0 rfl rfl 4 (by decide) (hts _ L_142) (fun _ h9 => h9) rfl d_Tr_open_27 ?_
  refine lv_iconst (v := 1) hx hb d_Tr_open_30 (by decide) ?_
  refine lv_isub hx hb d_Tr_open_31 ?_
  refine lv_eqi (y := (nI (trn tr))) (by rw [nI_pred]; show nI (trn (t_room tr)) = _; rw [hn1]) ?_
  refine W.widen (k := rcT tr) (n := rsT tr) (by omega) (by omega) ?_
  exact W.iret (v := nI (trn tr)) hx hb hr (fun t ht9 hW => ⟨⟨nI (trn tr), (ad2, t_inc (t_put (t_room tr) (nI (trn (t_room tr))).toNatClampNeg kind value wh 1)), rfl, ⟨rfl, (by show t_inc (t_put (t_room tr) (nI (trn (t_room tr))).toNatClampNeg kind value wh 1) = t_open tr kind value wh; unfold t_open; rw [nI_clamp (Nat.lt_of_le_of_lt (t_room_ok htr hb20).1 (t_room_ok htr hb20).2), hn1])⟩, by rw [ht9]; exact hP.sub [0, 1, 2, 3, 4] rfl, va_K.moved hW.alike hK, hD.sub [0, 1, 2, 3, 4] (by decide) rfl⟩, hS.F ht9⟩) hS.2.2 d_Tr_open_32
