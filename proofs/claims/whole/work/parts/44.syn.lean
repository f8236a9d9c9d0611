/-! SyntaxTree's own methods -/
abbrev ISE : String := "java/lang/IllegalStateException"
abbrev IOB : String := "java/lang/IndexOutOfBoundsException"
abbrev setTk (s : ST) (v : TK) : ST := (v, s.2.1, s.2.2.1, s.2.2.2.1, s.2.2.2.2.1, s.2.2.2.2.2.1, s.2.2.2.2.2.2.1, s.2.2.2.2.2.2.2.1, s.2.2.2.2.2.2.2.2)
/-- the tokens' arrays, the code's cell, the tree's arrays, the parser's state, refusedAt -/
abbrev UY : Type := AD × Nat × AD × ST × Int32
abbrev uS (u : UY) : ST := u.2.2.2.1
abbrev uR (u : UY) : Int32 := u.2.2.2.2
abbrev wY (cI cZ : ClassId) (hy hp h ht hq n1 n2 : Nat) (u : UY) : va_W := (hy, .inr (5, [.ref h, .ref ht, .ref hp, .int u.2.2.2.2])) :: wQ cI cZ hp u.2.1 h u.1.1 u.1.2.1 u.1.2.2.1 u.1.2.2.2 ht hq n1 n2 (u.2.2.1, u.2.2.2.1)
def CY (sb : Nat → Nat) (U : State) : Prop := (vk_R R_Sy 44 "no such token" (sb 44) U ∧ vk_R R_Sy 55 "too many tokens" (sb 55) U ∧ vk_R R_Sy 69 "the tokens are refused" (sb 69) U ∧ vk_R R_Sy 72 "no such question" (sb 72) U ∧ vk_R R_Sy 80 "no such node" (sb 80) U ∧ vk_R R_Sy 100 "no such child" (sb 100) U) ∧ va_Nw (.castable ISE ISE) U ∧ va_Nw (.castable IOB IOB) U
theorem CY.warm {sb : Nat → Nat} {s U : State} (hW : s.WarmedH U.vm) (h : CY sb s) : CY sb U :=
  ⟨⟨vk_R.warm hW h.1.1, vk_R.warm hW h.1.2.1, vk_R.warm hW h.1.2.2.1, vk_R.warm hW h.1.2.2.2.1, vk_R.warm hW h.1.2.2.2.2.1, vk_R.warm hW h.1.2.2.2.2.2⟩, va_Nw.warmC hW h.2.1, va_Nw.warmC hW h.2.2⟩
theorem CY.same {sb : Nat → Nat} {u U : State} (hv : u.vm = U.vm) (h : CY sb u) : CY sb U :=
  ⟨⟨vk_R.same hv.symm h.1.1, vk_R.same hv.symm h.1.2.1, vk_R.same hv.symm h.1.2.2.1, vk_R.same hv.symm h.1.2.2.2.1, vk_R.same hv.symm h.1.2.2.2.2.1, vk_R.same hv.symm h.1.2.2.2.2.2⟩, va_Nw.same rfl hv h.2.1, va_Nw.same rfl hv h.2.2⟩
abbrev prY (D : va_G) (cI cZ : ClassId) (sa rk : Nat) (sb : Nat → Nat) (av : List Value) (w : va_W) (sz : Nat) : Array Value → State → Prop :=
  va_Pc av (fun U => (U.heap.size = sz ∧ va_P D cls w U.heap ∧ va_K D cls (ty2 cI cZ) U ∧ va_D (fun _ => True) w ∧ XX cI sa rk w sz U) ∧ CY sb U)
theorem prY_blind {D : va_G} {cI cZ : ClassId} {sa rk : Nat} {sb : Nat → Nat} {av : List Value} {w : va_W} {sz : Nat} : FrameBlind (prY D cI cZ sa rk sb av w sz) :=
  fun a U g mk q => ⟨q.1, ⟨q.2.1.1, q.2.1.2.1, va_K.moved (u := U) (U := U.calling g mk a) (Vm.Alike.refl U.vm) q.2.1.2.2.1, q.2.1.2.2.2.1, XX.call q.2.1.2.2.2.2⟩, CY.same rfl q.2.2⟩
/-- a method of SyntaxTree: it gives an int back, or throws -/
abbrev cY (l : Launch) (y : MethodName) (cc : ByteArray) (ml fr lo mc ms : Nat) (D : va_G) (cI cZ : ClassId) (sa rk : Nat) (sb : Nat → Nat) (hy hp h ht hq n1 n2 : Nat) (u0 : UY) (sz : Nat) (av : List Value) (post : Int32 → UY → Prop) (px : String → UY → Prop) : Prop :=
  vx_Met l y (wy y cc ml (some .int)) { frames := fr, cells := mc, slots := ms, locals := lo } (prY D cI cZ sa rk sb av (wY cI cZ hy hp h ht hq n1 n2 u0) sz)
    (va_Qi post (wB D cI cZ (va_A (wY cI cZ hy hp h ht hq n1 n2 u0) sz) (wY cI cZ hy hp h ht hq n1 n2)) (va_A (wY cI cZ hy hp h ht hq n1 n2 u0) sz))
    (vx_X (fun _ : UY => True) (fun E u t => px E u ∧ wB D cI cZ (va_A (wY cI cZ hy hp h ht hq n1 n2 u0) sz) (wY cI cZ hy hp h ht hq n1 n2) u t) (va_A (wY cI cZ hy hp h ht hq n1 n2 u0) sz)) mc ms (va_A (wY cI cZ hy hp h ht hq n1 n2 u0) sz)
theorem thrY_46 : ∀ w ∈ (vx_atS R_Sy 46 IAE ["java/lang/RuntimeException", "java/lang/Exception"]).filter goodWord, w ∈ LL := fun w hw => List.mem_filter.mpr ⟨(by decide +kernel : ∀ w ∈ (vx_atS R_Sy 46 IAE ["java/lang/RuntimeException", "java/lang/Exception"]).filter goodWord, w ∈ lw_tbl) w hw, (List.mem_filter.mp hw).2⟩
theorem thrY_57 : ∀ w ∈ (vx_atS R_Sy 57 ISE ["java/lang/RuntimeException", "java/lang/Exception"]).filter goodWord, w ∈ LL := fun w hw => List.mem_filter.mpr ⟨(by decide +kernel : ∀ w ∈ (vx_atS R_Sy 57 ISE ["java/lang/RuntimeException", "java/lang/Exception"]).filter goodWord, w ∈ lw_tbl) w hw, (List.mem_filter.mp hw).2⟩
theorem thrY_82 : ∀ w ∈ (vx_atS R_Sy 82 IOB ["java/lang/RuntimeException", "java/lang/Exception"]).filter goodWord, w ∈ LL := fun w hw => List.mem_filter.mpr ⟨(by decide +kernel : ∀ w ∈ (vx_atS R_Sy 82 IOB ["java/lang/RuntimeException", "java/lang/Exception"]).filter goodWord, w ∈ lw_tbl) w hw, (List.mem_filter.mp hw).2⟩
set_option maxRecDepth 100000 in
set_option maxHeartbeats 4000000 in
theorem m_Sy_place (l : Launch) (hlt : l.stackTraces = false) (dC : Nat → ClassId) (dI : Nat → Nat → Nat) (cI cZ : ClassId) (sa rk : Nat) (sb : Nat → Nat) (hy hp h ht hq n1 n2 : Nat) (u0 : UY) (hst : okSt (uS u0)) (sz : Nat)   : cY l y_Sy_place c_Sy_place 1 0 0 0 0 (dC, dI) cI cZ sa rk sb hy hp h ht hq n1 n2 u0 sz [.ref hy] (fun r u => r = uR u0 ∧ u = u0) (fun _ _ => False) := by
  refine vx_ofW (cc := c_Sy_place) (maxL := 1) (ret := some .int) (by decide) rfl ?_
  intro p e s m args below meth c s₁ B hml hnt hv
  obtain ⟨rfl, ⟨hsz, hP, hK, hD0, hC, hZ⟩, hY⟩ := hv
  have hx := B.exec
  have hb := B.bytes
  have hr := B.returns
  have hts0 := atoms_spec (ws := wy y_Sy_place c_Sy_place 1 (some .int)) B.pre
  have hts := htsL hts0
  have hown : s.vm.findClass R_Sy = some m.cls := findClass_of_methodNamed B.named
  have hlocks := B.notSynchronized
  subst hsz
  have hD := hD0.self (sz := s.heap.size)
  generalize hAe : va_A (wY cI cZ hy hp h ht hq n1 n2 u0) s.heap.size = A at hD hZ ⊢
  have hA : ∀ q : Nat, s.heap.size ≤ q → A q := fun q h => by rw [← hAe]; exact Or.inr h
  have hS : va_S A s.heap s.heap [] := va_S.rf
  have hl := lv_entry ([.ref hy]) (n := 1) (Nat.le_of_ble_eq_true rfl)
  rw [lg_entry_eq]
  generalize (lg_sl ([.ref hy]) ++ List.replicate (1 - (lg_sl ([.ref hy])).length) Slot.unset).toArray = ls at hl ⊢
  have hl : lv_has ls 1 [(0, .ref hy)] := hl
  refine lv_aload_n hx hb d_Sy_place_0 rfl (lv_at hl 0 rfl) ?_
  refine va_get (D := (dC, dI)) (ci := 5) (v := .int (uR u0)) (C := R_Sy) (T := T_Sy) (N := 4) hx hb hts u_Sy hown hK hP 0 rfl rfl 3 (by decide) (hts _ L_241) (fun _ h9 => h9) rfl d_Sy_place_1 ?_
  refine vx_ret ?_
  refine W.widen (k := 0) (n := 0) (Nat.zero_le _) (Nat.zero_le _) ?_
  exact W.iret hx hb hr (fun t ht9 hW => ⟨⟨(uR u0), u0, rfl, ⟨rfl, rfl⟩, by rw [ht9]; exact hP, va_K.moved hW.alike hK, hD⟩, hS.F ht9⟩) hS.2.2 d_Sy_place_4
set_option maxRecDepth 100000 in
set_option maxHeartbeats 4000000 in
theorem m_Sy_child (l : Launch) (hlt : l.stackTraces = false) (dC : Nat → ClassId) (dI : Nat → Nat → Nat) (cI cZ : ClassId) (sa rk : Nat) (sb : Nat → Nat) (hy hp h ht hq n1 n2 : Nat) (u0 : UY) (hst : okSt (uS u0)) (sz : Nat) (k : Int32) (i : Int32) (v : Int32) (hv : f_Tr_part (sTr (uS u0)) k i = some v) : cY l y_Sy_child c_Sy_child 4 6 100 1 6 (dC, dI) cI cZ sa rk sb hy hp h ht hq n1 n2 u0 sz [.ref hy, .int k, .int i] (fun r u => r = v ∧ ¬ v = -1 ∧ u = u0) (fun E u => E = IOB ∧ v = -1 ∧ u = u0) := by
  refine vx_ofW (cc := c_Sy_child) (maxL := 4) (ret := some .int) (by decide) rfl ?_
  intro p e s m args below meth c s₁ B hml hnt hv
  obtain ⟨rfl, ⟨hsz, hP, hK, hD0, hC, hZ⟩, hY⟩ := hv
  have hx := B.exec
  have hb := B.bytes
  have hr := B.returns
  have hts0 := atoms_spec (ws := wy y_Sy_child c_Sy_child 4 (some .int)) B.pre
  have hts := htsL hts0
  have hown : s.vm.findClass R_Sy = some m.cls := findClass_of_methodNamed B.named
  have hlocks := B.notSynchronized
  subst hsz
  have hD := hD0.self (sz := s.heap.size)
  generalize hAe : va_A (wY cI cZ hy hp h ht hq n1 n2 u0) s.heap.size = A at hD hZ ⊢
  have hA : ∀ q : Nat, s.heap.size ≤ q → A q := fun q h => by rw [← hAe]; exact Or.inr h
  have hS : va_S A s.heap s.heap [] := va_S.rf
  have hl := lv_entry ([.ref hy, .int k, .int i]) (n := 4) (Nat.le_of_ble_eq_true rfl)
  rw [lg_entry_eq]
  generalize (lg_sl ([.ref hy, .int k, .int i]) ++ List.replicate (4 - (lg_sl ([.ref hy, .int k, .int i])).length) Slot.unset).toArray = ls at hl ⊢
  have hl : lv_has ls 4 [(0, .ref hy), (1, .int k), (2, .int i)] := hl
  refine lv_aload_n hx hb d_Sy_child_0 rfl (lv_at hl 0 rfl) ?_
  refine va_get (D := (dC, dI)) (ci := 5) (v := .ref ht) (C := R_Sy) (T := T_Sy) (N := 4) hx hb hts u_Sy hown hK hP 0 rfl rfl 1 (by decide) (hts _ L_239) (fun _ h9 => h9) rfl d_Sy_child_1 ?_
  refine lv_iload_n hx hb d_Sy_child_4 rfl (lv_at hl 1 rfl) ?_
  refine lv_iload_n hx hb d_Sy_child_5 rfl (lv_at hl 2 rfl) ?_
  refine rd_V (v := v) (As := [.int k, .int i]) (rest := []) ⟨hx, hb, hml, hown, hts0⟩ (m_Tr_part l dC dI cI cZ ht u0.2.2.1.1 u0.2.2.1.2.1 u0.2.2.1.2.2.1 u0.2.2.1.2.2.2 (sTr (uS u0)) hst.2.1 k i v hv) hP hK [8, 9, 10, 11, 12] rfl [0, 1] rfl 0 4 rfl rfl L_910 L_911 L_912 L_85 L_913 ⟨rfl, k_Tr_part⟩ ⟨Nat.le_of_ble_eq_true rfl, Nat.le_of_ble_eq_true rfl⟩ hl.1 ⟨Nat.zero_le _, Nat.zero_le _⟩ (Nat.le_of_ble_eq_true rfl) d_Sy_child_6 rfl ?_
  refine lv_istore_n (lv' := [(3, .int v), (0, .ref hy), (1, .int k), (2, .int i)]) hx hb d_Sy_child_9 rfl hl (by decide) rfl (fun ls hl => ?_)
  refine lv_iload_n hx hb d_Sy_child_10 rfl (lv_at hl 0 rfl) ?_
  refine lv_iconst (v := (-1)) hx hb d_Sy_child_11 (by decide) ?_
  refine lv_icmp_ne (tgt := 25) hx hb d_Sy_child_12 (by decide) (fun c_1 => ?_) (fun c_1 => ?_)
  · refine lv_iload_n hx hb d_Sy_child_25 rfl (lv_at hl 0 rfl) ?_
    refine vx_ret ?_
    refine W.widen (k := 1) (n := 6) (Nat.zero_le _) (Nat.zero_le _) ?_
    exact W.iret hx hb hr (fun t ht9 hW => ⟨⟨v, u0, rfl, ⟨rfl, c_1, rfl⟩, by rw [ht9]; exact hP, va_K.moved hW.alike hK, hD⟩, hS.F ht9⟩) hS.2.2 d_Sy_child_26
  · refine vx_throwS hx hb hlt (own := R_Sy) (cls := IOB) (text := "no such child") (names := ["java/lang/RuntimeException", "java/lang/Exception"]) (ik := 78) (is := 100) (ic := 82) (sa := sb 100) (A := A) hown (by decide +kernel) (by decide +kernel) (hts _ L_883) (hts _ L_100) hY.1.2.2.2.2.2 ?_ (by decide +kernel) hZ.1 hZ.2.1 hS (hl.1.trans hml.symm) d_Sy_child_15 d_Sy_child_18 d_Sy_child_19 d_Sy_child_21 d_Sy_child_24 (fun x hx => (hnt x hx).elim) (by show 2 + 3 < 6; decide) (Nat.le_of_ble_eq_true rfl) (Nat.le_of_ble_eq_true rfl) (Nat.le_of_ble_eq_true rfl) hlocks ?_ hS.2.2 (Nat.le_of_ble_eq_true rfl) (Nat.le_of_ble_eq_true rfl)
    · exact vx_hat (L := vx_atS R_Sy 82 IOB ["java/lang/RuntimeException", "java/lang/Exception"]) (B := [.declares (Bundle.initS "java/lang/RuntimeException"), .declares (Bundle.initS "java/lang/Exception"), .declares (Bundle.initS Bundle.tN), .castable IOB IOB]) (fun w hw => hts w (thrY_82 w hw)) (by decide +kernel) (vx_c (va_Nw.use rfl hC.2.2.1.1) (vx_c (va_Nw.use rfl hC.2.2.1.2.1) (vx_c (va_Nw.use rfl hC.2.2.1.2.2.1) (vx_c (va_Nw.use rfl hY.2.2) vx_n))))
    · exact fun t hvm hz hq9 => ⟨u0, trivial, ⟨⟨rfl, c_1, rfl⟩, hP.kept (fun k q hk => hq9 _ (hP k q hk).lt), va_K.moved hvm hK, hD⟩, Nat.le_trans hS.1 hz, fun q h1 h2 => (hq9 q (Nat.lt_of_lt_of_le h1 hS.1)).trans (hS.2.1 q h1 h2)⟩
set_option maxRecDepth 100000 in
set_option maxHeartbeats 4000000 in
theorem m_Sy_node (l : Launch) (hlt : l.stackTraces = false) (dC : Nat → ClassId) (dI : Nat → Nat → Nat) (cI cZ : ClassId) (sa rk : Nat) (sb : Nat → Nat) (hy hp h ht hq n1 n2 : Nat) (u0 : UY) (hst : okSt (uS u0)) (sz : Nat) (k : Int32) (what : Int32) (v : Int32) (hv : f_Tr_children (sTr (uS u0)) k = some v) : cY l y_Sy_node c_Sy_node 3 6 100 1 6 (dC, dI) cI cZ sa rk sb hy hp h ht hq n1 n2 u0 sz [.ref hy, .int k, .int what] (fun r u => ¬ what < 0 ∧ ¬ 3 < what ∧ ¬ f_Tr_has (sTr (uS u0)) k = 0 ∧ r = (if what = 0 then f_Tr_kind (sTr (uS u0)) k else if what = 1 then v else if what = 2 then f_Tr_value (sTr (uS u0)) k else f_Tr_where (sTr (uS u0)) k) ∧ u = u0) (fun E u => ((E = IAE ∧ (what < 0 ∨ 3 < what)) ∨ (E = IOB ∧ ¬ what < 0 ∧ ¬ 3 < what ∧ f_Tr_has (sTr (uS u0)) k = 0)) ∧ u = u0) := by
  refine vx_ofW (cc := c_Sy_node) (maxL := 3) (ret := some .int) (by decide) rfl ?_
  intro p e s m args below meth c s₁ B hml hnt hv
  obtain ⟨rfl, ⟨hsz, hP, hK, hD0, hC, hZ⟩, hY⟩ := hv
  have hx := B.exec
  have hb := B.bytes
  have hr := B.returns
  have hts0 := atoms_spec (ws := wy y_Sy_node c_Sy_node 3 (some .int)) B.pre
  have hts := htsL hts0
  have hown : s.vm.findClass R_Sy = some m.cls := findClass_of_methodNamed B.named
  have hlocks := B.notSynchronized
  subst hsz
  have hD := hD0.self (sz := s.heap.size)
  generalize hAe : va_A (wY cI cZ hy hp h ht hq n1 n2 u0) s.heap.size = A at hD hZ ⊢
  have hA : ∀ q : Nat, s.heap.size ≤ q → A q := fun q h => by rw [← hAe]; exact Or.inr h
  have hS : va_S A s.heap s.heap [] := va_S.rf
  have hl := lv_entry ([.ref hy, .int k, .int what]) (n := 3) (Nat.le_of_ble_eq_true rfl)
  rw [lg_entry_eq]
  generalize (lg_sl ([.ref hy, .int k, .int what]) ++ List.replicate (3 - (lg_sl ([.ref hy, .int k, .int what])).length) Slot.unset).toArray = ls at hl ⊢
  have hl : lv_has ls 3 [(0, .ref hy), (1, .int k), (2, .int what)] := hl
  refine lv_iload_n hx hb d_Sy_node_0 rfl (lv_at hl 2 rfl) ?_
  refine lv_if_lt (tgt := 9) hx hb d_Sy_node_1 (by decide) (fun c_1 => ?_) (fun c_1 => ?_)
  · refine vx_throwS hx hb hlt (own := R_Sy) (cls := IAE) (text := "no such question") (names := ["java/lang/RuntimeException", "java/lang/Exception"]) (ik := 42) (is := 72) (ic := 46) (sa := sb 72) (A := A) hown (by decide +kernel) (by decide +kernel) (hts _ L_276) (hts _ L_94) hY.1.2.2.2.1 ?_ (by decide +kernel) hZ.1 hZ.2.1 hS (hl.1.trans hml.symm) d_Sy_node_9 d_Sy_node_12 d_Sy_node_13 d_Sy_node_15 d_Sy_node_18 (fun x hx => (hnt x hx).elim) (by show 2 + 3 < 6; decide) (Nat.le_of_ble_eq_true rfl) (Nat.le_of_ble_eq_true rfl) (Nat.le_of_ble_eq_true rfl) hlocks ?_ hS.2.2 (Nat.le_of_ble_eq_true rfl) (Nat.le_of_ble_eq_true rfl)
    · exact vx_hat (L := vx_atS R_Sy 46 IAE ["java/lang/RuntimeException", "java/lang/Exception"]) (B := [.declares (Bundle.initS "java/lang/RuntimeException"), .declares (Bundle.initS "java/lang/Exception"), .declares (Bundle.initS Bundle.tN), .castable IAE IAE]) (fun w hw => hts w (thrY_46 w hw)) (by decide +kernel) (vx_c (va_Nw.use rfl hC.2.2.1.1) (vx_c (va_Nw.use rfl hC.2.2.1.2.1) (vx_c (va_Nw.use rfl hC.2.2.1.2.2.1) (vx_c (va_Nw.use rfl hC.2.2.1.2.2.2) vx_n))))
    · exact fun t hvm hz hq9 => ⟨u0, trivial, ⟨⟨Or.inl ⟨rfl, Or.inl c_1⟩, rfl⟩, hP.kept (fun k q hk => hq9 _ (hP k q hk).lt), va_K.moved hvm hK, hD⟩, Nat.le_trans hS.1 hz, fun q h1 h2 => (hq9 q (Nat.lt_of_lt_of_le h1 hS.1)).trans (hS.2.1 q h1 h2)⟩
  · refine lv_iload_n hx hb d_Sy_node_4 rfl (lv_at hl 2 rfl) ?_
    refine lv_iconst (v := 3) hx hb d_Sy_node_5 (by decide) ?_
    refine lv_icmp_le (tgt := 19) hx hb d_Sy_node_6 (by decide) (fun c_2 => ?_) (fun c_2 => ?_)
    · have c_3 : ¬ 3 < what := Int32.not_lt.mpr c_2
      refine lv_aload_n hx hb d_Sy_node_19 rfl (lv_at hl 0 rfl) ?_
      refine va_get (D := (dC, dI)) (ci := 5) (v := .ref ht) (C := R_Sy) (T := T_Sy) (N := 4) hx hb hts u_Sy hown hK hP 0 rfl rfl 1 (by decide) (hts _ L_239) (fun _ h9 => h9) rfl d_Sy_node_20 ?_
      refine lv_iload_n hx hb d_Sy_node_23 rfl (lv_at hl 1 rfl) ?_
      refine rd_V (v := (f_Tr_has (sTr (uS u0)) k)) (As := [.int k]) (rest := []) ⟨hx, hb, hml, hown, hts0⟩ (m_Tr_has l dC dI cI cZ ht u0.2.2.1.1 u0.2.2.1.2.1 u0.2.2.1.2.2.1 u0.2.2.1.2.2.2 (sTr (uS u0)) hst.2.1 k) hP hK [8, 9, 10, 11, 12] rfl [0, 1] rfl 0 4 rfl rfl L_882 L_493 L_494 L_85 L_495 ⟨rfl, k_Tr_has⟩ ⟨Nat.le_of_ble_eq_true rfl, Nat.le_of_ble_eq_true rfl⟩ hl.1 ⟨Nat.zero_le _, Nat.zero_le _⟩ (Nat.le_of_ble_eq_true rfl) d_Sy_node_24 rfl ?_
      refine lv_if_ne (tgt := 40) hx hb d_Sy_node_27 (by decide) (fun c_4 => ?_) (fun c_4 => ?_)
      · refine lv_iload_n hx hb d_Sy_node_40 rfl (lv_at hl 2 rfl) ?_
        refine sw_tab hx hb [(0, 68), (1, 77), (2, 86)] 95 d_Sy_node_41 (by decide +kernel) (by decide) (by decide +kernel) ?_
        refine ⟨fun c_5 => ?_, fun c_5 => ?_⟩
        · refine lv_aload_n hx hb d_Sy_node_68 rfl (lv_at hl 0 rfl) ?_
          refine va_get (D := (dC, dI)) (ci := 5) (v := .ref ht) (C := R_Sy) (T := T_Sy) (N := 4) hx hb hts u_Sy hown hK hP 0 rfl rfl 1 (by decide) (hts _ L_239) (fun _ h9 => h9) rfl d_Sy_node_69 ?_
          refine lv_iload_n hx hb d_Sy_node_72 rfl (lv_at hl 1 rfl) ?_
          refine rd_V (v := (f_Tr_kind (sTr (uS u0)) k)) (As := [.int k]) (rest := []) ⟨hx, hb, hml, hown, hts0⟩ (m_Tr_kind l dC dI cI cZ ht u0.2.2.1.1 u0.2.2.1.2.1 u0.2.2.1.2.2.1 u0.2.2.1.2.2.2 (sTr (uS u0)) hst.2.1 k) hP hK [8, 9, 10, 11, 12] rfl [0, 1] rfl 0 4 rfl rfl L_899 L_529 L_530 L_85 L_531 ⟨rfl, k_Tr_kind⟩ ⟨Nat.le_of_ble_eq_true rfl, Nat.le_of_ble_eq_true rfl⟩ hl.1 ⟨Nat.zero_le _, Nat.zero_le _⟩ (Nat.le_of_ble_eq_true rfl) d_Sy_node_73 rfl ?_
          refine vx_ret ?_
          refine W.widen (k := 1) (n := 6) (Nat.zero_le _) (Nat.zero_le _) ?_
          exact W.iret hx hb hr (fun t ht9 hW => ⟨⟨(f_Tr_kind (sTr (uS u0)) k), u0, rfl, ⟨c_1, c_3, c_4, (by rw [if_pos c_5]), rfl⟩, by rw [ht9]; exact hP, va_K.moved hW.alike hK, hD⟩, hS.F ht9⟩) hS.2.2 d_Sy_node_76
        · refine ⟨fun c_6 => ?_, fun c_6 => ?_⟩
          · refine lv_aload_n hx hb d_Sy_node_77 rfl (lv_at hl 0 rfl) ?_
            refine va_get (D := (dC, dI)) (ci := 5) (v := .ref ht) (C := R_Sy) (T := T_Sy) (N := 4) hx hb hts u_Sy hown hK hP 0 rfl rfl 1 (by decide) (hts _ L_239) (fun _ h9 => h9) rfl d_Sy_node_78 ?_
            refine lv_iload_n hx hb d_Sy_node_81 rfl (lv_at hl 1 rfl) ?_
            refine rd_V (v := v) (As := [.int k]) (rest := []) ⟨hx, hb, hml, hown, hts0⟩ (m_Tr_children l dC dI cI cZ ht u0.2.2.1.1 u0.2.2.1.2.1 u0.2.2.1.2.2.1 u0.2.2.1.2.2.2 (sTr (uS u0)) hst.2.1 k v hv) hP hK [8, 9, 10, 11, 12] rfl [0, 1] rfl 0 4 rfl rfl L_900 L_763 L_764 L_85 L_765 ⟨rfl, k_Tr_children⟩ ⟨Nat.le_of_ble_eq_true rfl, Nat.le_of_ble_eq_true rfl⟩ hl.1 ⟨Nat.zero_le _, Nat.zero_le _⟩ (Nat.le_of_ble_eq_true rfl) d_Sy_node_82 rfl ?_
            refine vx_ret ?_
            refine W.widen (k := 1) (n := 6) (Nat.zero_le _) (Nat.zero_le _) ?_
            exact W.iret hx hb hr (fun t ht9 hW => ⟨⟨v, u0, rfl, ⟨c_1, c_3, c_4, (by rw [if_neg c_5, if_pos c_6]), rfl⟩, by rw [ht9]; exact hP, va_K.moved hW.alike hK, hD⟩, hS.F ht9⟩) hS.2.2 d_Sy_node_85
          · refine ⟨fun c_7 => ?_, fun c_7 => ?_⟩
            · refine lv_aload_n hx hb d_Sy_node_86 rfl (lv_at hl 0 rfl) ?_
              refine va_get (D := (dC, dI)) (ci := 5) (v := .ref ht) (C := R_Sy) (T := T_Sy) (N := 4) hx hb hts u_Sy hown hK hP 0 rfl rfl 1 (by decide) (hts _ L_239) (fun _ h9 => h9) rfl d_Sy_node_87 ?_
              refine lv_iload_n hx hb d_Sy_node_90 rfl (lv_at hl 1 rfl) ?_
              refine rd_V (v := (f_Tr_value (sTr (uS u0)) k)) (As := [.int k]) (rest := []) ⟨hx, hb, hml, hown, hts0⟩ (m_Tr_value l dC dI cI cZ ht u0.2.2.1.1 u0.2.2.1.2.1 u0.2.2.1.2.2.1 u0.2.2.1.2.2.2 (sTr (uS u0)) hst.2.1 k) hP hK [8, 9, 10, 11, 12] rfl [0, 1] rfl 0 4 rfl rfl L_901 L_533 L_534 L_85 L_535 ⟨rfl, k_Tr_value⟩ ⟨Nat.le_of_ble_eq_true rfl, Nat.le_of_ble_eq_true rfl⟩ hl.1 ⟨Nat.zero_le _, Nat.zero_le _⟩ (Nat.le_of_ble_eq_true rfl) d_Sy_node_91 rfl ?_
              refine vx_ret ?_
              refine W.widen (k := 1) (n := 6) (Nat.zero_le _) (Nat.zero_le _) ?_
              exact W.iret hx hb hr (fun t ht9 hW => ⟨⟨(f_Tr_value (sTr (uS u0)) k), u0, rfl, ⟨c_1, c_3, c_4, (by rw [if_neg c_5, if_neg c_6, if_pos c_7]), rfl⟩, by rw [ht9]; exact hP, va_K.moved hW.alike hK, hD⟩, hS.F ht9⟩) hS.2.2 d_Sy_node_94
            · refine lv_aload_n hx hb d_Sy_node_95 rfl (lv_at hl 0 rfl) ?_
              refine va_get (D := (dC, dI)) (ci := 5) (v := .ref ht) (C := R_Sy) (T := T_Sy) (N := 4) hx hb hts u_Sy hown hK hP 0 rfl rfl 1 (by decide) (hts _ L_239) (fun _ h9 => h9) rfl d_Sy_node_96 ?_
              refine lv_iload_n hx hb d_Sy_node_99 rfl (lv_at hl 1 rfl) ?_
              refine rd_V (v := (f_Tr_where (sTr (uS u0)) k)) (As := [.int k]) (rest := []) ⟨hx, hb, hml, hown, hts0⟩ (m_Tr_where l dC dI cI cZ ht u0.2.2.1.1 u0.2.2.1.2.1 u0.2.2.1.2.2.1 u0.2.2.1.2.2.2 (sTr (uS u0)) hst.2.1 k) hP hK [8, 9, 10, 11, 12] rfl [0, 1] rfl 0 4 rfl rfl L_902 L_858 L_859 L_85 L_860 ⟨rfl, k_Tr_where⟩ ⟨Nat.le_of_ble_eq_true rfl, Nat.le_of_ble_eq_true rfl⟩ hl.1 ⟨Nat.zero_le _, Nat.zero_le _⟩ (Nat.le_of_ble_eq_true rfl) d_Sy_node_100 rfl ?_
              refine vx_ret ?_
              refine W.widen (k := 1) (n := 6) (Nat.zero_le _) (Nat.zero_le _) ?_
              exact W.iret hx hb hr (fun t ht9 hW => ⟨⟨(f_Tr_where (sTr (uS u0)) k), u0, rfl, ⟨c_1, c_3, c_4, (by rw [if_neg c_5, if_neg c_6, if_neg c_7]), rfl⟩, by rw [ht9]; exact hP, va_K.moved hW.alike hK, hD⟩, hS.F ht9⟩) hS.2.2 d_Sy_node_103
      · refine vx_throwS hx hb hlt (own := R_Sy) (cls := IOB) (text := "no such node") (names := ["java/lang/RuntimeException", "java/lang/Exception"]) (ik := 78) (is := 80) (ic := 82) (sa := sb 80) (A := A) hown (by decide +kernel) (by decide +kernel) (hts _ L_883) (hts _ L_100) hY.1.2.2.2.2.1 ?_ (by decide +kernel) hZ.1 hZ.2.1 hS (hl.1.trans hml.symm) d_Sy_node_30 d_Sy_node_33 d_Sy_node_34 d_Sy_node_36 d_Sy_node_39 (fun x hx => (hnt x hx).elim) (by show 2 + 3 < 6; decide) (Nat.le_of_ble_eq_true rfl) (Nat.le_of_ble_eq_true rfl) (Nat.le_of_ble_eq_true rfl) hlocks ?_ hS.2.2 (Nat.le_of_ble_eq_true rfl) (Nat.le_of_ble_eq_true rfl)
        · exact vx_hat (L := vx_atS R_Sy 82 IOB ["java/lang/RuntimeException", "java/lang/Exception"]) (B := [.declares (Bundle.initS "java/lang/RuntimeException"), .declares (Bundle.initS "java/lang/Exception"), .declares (Bundle.initS Bundle.tN), .castable IOB IOB]) (fun w hw => hts w (thrY_82 w hw)) (by decide +kernel) (vx_c (va_Nw.use rfl hC.2.2.1.1) (vx_c (va_Nw.use rfl hC.2.2.1.2.1) (vx_c (va_Nw.use rfl hC.2.2.1.2.2.1) (vx_c (va_Nw.use rfl hY.2.2) vx_n))))
        · exact fun t hvm hz hq9 => ⟨u0, trivial, ⟨⟨Or.inr ⟨rfl, c_1, c_3, c_4⟩, rfl⟩, hP.kept (fun k q hk => hq9 _ (hP k q hk).lt), va_K.moved hvm hK, hD⟩, Nat.le_trans hS.1 hz, fun q h1 h2 => (hq9 q (Nat.lt_of_lt_of_le h1 hS.1)).trans (hS.2.1 q h1 h2)⟩
    · refine vx_throwS hx hb hlt (own := R_Sy) (cls := IAE) (text := "no such question") (names := ["java/lang/RuntimeException", "java/lang/Exception"]) (ik := 42) (is := 72) (ic := 46) (sa := sb 72) (A := A) hown (by decide +kernel) (by decide +kernel) (hts _ L_276) (hts _ L_94) hY.1.2.2.2.1 ?_ (by decide +kernel) hZ.1 hZ.2.1 hS (hl.1.trans hml.symm) d_Sy_node_9 d_Sy_node_12 d_Sy_node_13 d_Sy_node_15 d_Sy_node_18 (fun x hx => (hnt x hx).elim) (by show 2 + 3 < 6; decide) (Nat.le_of_ble_eq_true rfl) (Nat.le_of_ble_eq_true rfl) (Nat.le_of_ble_eq_true rfl) hlocks ?_ hS.2.2 (Nat.le_of_ble_eq_true rfl) (Nat.le_of_ble_eq_true rfl)
      · exact vx_hat (L := vx_atS R_Sy 46 IAE ["java/lang/RuntimeException", "java/lang/Exception"]) (B := [.declares (Bundle.initS "java/lang/RuntimeException"), .declares (Bundle.initS "java/lang/Exception"), .declares (Bundle.initS Bundle.tN), .castable IAE IAE]) (fun w hw => hts w (thrY_46 w hw)) (by decide +kernel) (vx_c (va_Nw.use rfl hC.2.2.1.1) (vx_c (va_Nw.use rfl hC.2.2.1.2.1) (vx_c (va_Nw.use rfl hC.2.2.1.2.2.1) (vx_c (va_Nw.use rfl hC.2.2.1.2.2.2) vx_n))))
      · exact fun t hvm hz hq9 => ⟨u0, trivial, ⟨⟨Or.inl ⟨rfl, Or.inr (Int32.not_le.mp c_2)⟩, rfl⟩, hP.kept (fun k q hk => hq9 _ (hP k q hk).lt), va_K.moved hvm hK, hD⟩, Nat.le_trans hS.1 hz, fun q h1 h2 => (hq9 q (Nat.lt_of_lt_of_le h1 hS.1)).trans (hS.2.1 q h1 h2)⟩
