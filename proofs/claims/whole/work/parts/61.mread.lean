section TLRG
variable {p : Program} {l : Launch} {e : Env} {R : Room} {s : State} {m : MethodId} {args : Array Value} {below : List Frame} {meth : Method} {c : Code} {H : Heap} {locs : List Loc} {Q : State → Prop} {cells slots : Nat}
variable {cc bytes : ByteArray} {pc maxL fr lo idx nL : Nat} {ls : Array Slot} {rest st0 As : List Value} {x : Cond} {own : String} {y : MethodName} {rt : FieldType}
variable {D : va_G} {cI cZ : ClassId} {sa rk hm : Nat} {ma : Nat → Nat} {mo : MO} {g : Rm} {A : Nat → Prop}
/-- a call of a method that never throws, wherever the caller stands with its cells -/
theorem mr_ViG (CF : CallFix p m c cc nL s args (x :: LL) own) (hM : cXi l y bytes maxL rt fr lo D cI cZ sa rk hm ma mo H.size (.ref hm :: As) g)
    (hP : va_P D cls (wM cI cZ hm ma mo) H) (hD : va_D A (wM cI cZ hm ma mo)) (hK : va_K D cls (ty2 cI cZ) s) (hS : va_S A s.heap H locs) (hA : ∀ q, s.heap.size ≤ q → A q) (hC : CX cI sa s) (hZ : ZX rk A s s.heap)
    (l1 : Cond.methodLink own idx y ∈ LL) (l2 : Cond.instanceMethod y ∈ LL) (l3 : Cond.selects R_Mo y y ∈ LL) (l4 : Cond.initialized y.cls ∈ LL) (l5 : Cond.code y bytes maxL (some rt) ∈ LL)
    (hd : y.cls ≠ "java/lang/invoke/MethodHandle" ∧ y.cls ≠ "java/lang/invoke/VarHandle" ∧ (parseMethodDescriptor y.desc).map (fun d => d.parameters.length) = some As.length)
    (hR : fr + 1 ≤ R.frames ∧ 8 + (maxL + 11) + lo ≤ R.locals) (hcap : cells + 1 ≤ R.cells ∧ slots + 6 ≤ R.slots) (hls : ls.size = nL) (hst : (rest.map fun v => v.category).sum ≤ 8) (hdg : decode cc pc = .ok (.invokevirtual idx, 3)) (h0 : st0 = As.reverse ++ .ref hm :: rest)
    (hno : ∀ u, g ≠ some (.inl u))
    (kk : ∀ (r : Int32) (mo1 : MO) (H1 : Heap) (locs1 : List Loc), g = some (.inr (r, mo1)) → va_P D cls (wM cI cZ hm ma mo1) H1 → va_D A (wM cI cZ hm ma mo1) → va_S A s.heap H1 locs1 → W p l e R s m args below meth c H1 locs1 cells slots Q (F0 m (pc + 3) ls (.int r :: rest))) :
    W p l e R s m args below meth c H locs cells slots Q (F0 m pc ls st0) := by
  have hF := va_free (wc := wM cI cZ hm ma mo) hD hS hA [0, 1, 2, 3, 4, 5, 6, 7, 8, 9, 10, 11, 12, 13, 14, 15, 16] rfl
  refine vx_calli (vy_runV (As := As) (rest := rest) CF hM ⟨prM_blind, va_recv hK hP (ci := 6) (q0 := 0) rfl rfl, fun U hU hW => ⟨rfl, by rw [hU], by rw [hU]; exact hP, va_K.moved hW.alike hK, hD.weaken (fun _ _ _ _ => trivial), XX.use hC hZ hS hF hU hW⟩⟩ l1 l2 l3 l4 l5 hd hR rfl hls h0 (lv_room hst) hdg hcap) hS (fun q _ h => hF q h) hF (fun q _ h => hF q h) (fun E ce q9 u t H1 locs1 ht1 hvm hp1 hB hz hk hS1 hce hcv hcl1 => absurd hp1 (hno u)) (fun r u t H1 locs1 ht1 hvm hp1 hB hz hk hS1 => ?_)
  obtain ⟨hP1, hK1, hD1⟩ := hB
  rw [ht1] at hP1
  have k := kk r u H1 locs1 hp1 hP1 (hD1.weaken (fun _ _ _ z => hF _ z)) hS1
  have m1 : mcM g = 0 := by rw [hp1]; rfl
  have m2 : msM g = 0 := by rw [hp1]; rfl
  rw [m1, m2]; exact k
/-- a call of a method that never throws, wherever the caller stands with its cells -/
theorem mr_VvG (CF : CallFix p m c cc nL s args (x :: LL) own) (hM : cXv l y bytes maxL fr lo D cI cZ sa rk hm ma mo H.size (.ref hm :: As) g)
    (hP : va_P D cls (wM cI cZ hm ma mo) H) (hD : va_D A (wM cI cZ hm ma mo)) (hK : va_K D cls (ty2 cI cZ) s) (hS : va_S A s.heap H locs) (hA : ∀ q, s.heap.size ≤ q → A q) (hC : CX cI sa s) (hZ : ZX rk A s s.heap)
    (l1 : Cond.methodLink own idx y ∈ LL) (l2 : Cond.instanceMethod y ∈ LL) (l3 : Cond.selects R_Mo y y ∈ LL) (l4 : Cond.initialized y.cls ∈ LL) (l5 : Cond.code y bytes maxL none ∈ LL)
    (hd : y.cls ≠ "java/lang/invoke/MethodHandle" ∧ y.cls ≠ "java/lang/invoke/VarHandle" ∧ (parseMethodDescriptor y.desc).map (fun d => d.parameters.length) = some As.length)
    (hR : fr + 1 ≤ R.frames ∧ 8 + (maxL + 11) + lo ≤ R.locals) (hcap : cells + 1 ≤ R.cells ∧ slots + 6 ≤ R.slots) (hls : ls.size = nL) (hst : (rest.map fun v => v.category).sum ≤ 8) (hdg : decode cc pc = .ok (.invokevirtual idx, 3)) (h0 : st0 = As.reverse ++ .ref hm :: rest)
    (hno : ∀ u, g ≠ some (.inl u))
    (kk : ∀ (mo1 : MO) (H1 : Heap) (locs1 : List Loc), g = some (.inr (0, mo1)) → va_P D cls (wM cI cZ hm ma mo1) H1 → va_D A (wM cI cZ hm ma mo1) → va_S A s.heap H1 locs1 → W p l e R s m args below meth c H1 locs1 cells slots Q (F0 m (pc + 3) ls rest)) :
    W p l e R s m args below meth c H locs cells slots Q (F0 m pc ls st0) := by
  have hF := va_free (wc := wM cI cZ hm ma mo) hD hS hA [0, 1, 2, 3, 4, 5, 6, 7, 8, 9, 10, 11, 12, 13, 14, 15, 16] rfl
  refine vx_callv (vy_runV (As := As) (rest := rest) CF hM ⟨prM_blind, va_recv hK hP (ci := 6) (q0 := 0) rfl rfl, fun U hU hW => ⟨rfl, by rw [hU], by rw [hU]; exact hP, va_K.moved hW.alike hK, hD.weaken (fun _ _ _ _ => trivial), XX.use hC hZ hS hF hU hW⟩⟩ l1 l2 l3 l4 l5 hd hR rfl hls h0 (lv_room hst) hdg hcap) hS (fun q _ h => hF q h) hF (fun q _ h => hF q h) (fun E ce q9 u t H1 locs1 ht1 hvm hp1 hB hz hk hS1 hce hcv hcl1 => absurd hp1 (hno u)) (fun u t H1 locs1 ht1 hvm hp1 hB hz hk hS1 => ?_)
  obtain ⟨hP1, hK1, hD1⟩ := hB
  rw [ht1] at hP1
  have k := kk u H1 locs1 hp1 hP1 (hD1.weaken (fun _ _ _ z => hF _ z)) hS1
  have m1 : mcM g = 0 := by rw [hp1]; rfl
  have m2 : msM g = 0 := by rw [hp1]; rfl
  rw [m1, m2]; exact k
end TLRG
def f_readM (mo : MO) : Rm := match f_isProg mo with
  | none => none
  | some (r, m1) => bndM (f_Mo_throwing (s_count m1 0) (if r = 0 then 1 else 0) 0) (fun t m2 => if t = 0 then bndM (f_Mo_numberAll m2) (fun _ m3 => some (.inr (q_nodes m3, m3))) else some (.inr (0, s_nodes m2 0)))
theorem readM_e {mo m1 : MO} {r : Int32} (h : f_isProg mo = some (r, m1)) : f_readM mo = bndM (f_Mo_throwing (s_count m1 0) (if r = 0 then 1 else 0) 0) (fun t m2 => if t = 0 then bndM (f_Mo_numberAll m2) (fun _ m3 => some (.inr (q_nodes m3, m3))) else some (.inr (0, s_nodes m2 0))) := by unfold f_readM; rw [h]
set_option maxRecDepth 100000 in
set_option maxHeartbeats 4000000 in
theorem m_Mo_read (l : Launch) (hlt : l.stackTraces = false) (dC : Nat → ClassId) (dI : Nat → Nat → Nat) (cI cZ : ClassId) (sa rk hm : Nat) (ma : Nat → Nat) (mo : MO) (sz : Nat) (hg : f_readM mo ≠ none) (hbg : ∀ u, f_Mo_begin mo ≠ some (.inl u)) (hth : ∀ m a b u, f_Mo_throwing m a b ≠ some (.inl u)) (hnu : ∀ m u, f_Mo_numberAll m ≠ some (.inl u)) :
    Met l y_Mo_read (wy y_Mo_read c_Mo_read 2 (some .int)) { frames := 2010, cells := 2, slots := 12, locals := 42000 } (prM (dC, dI) cI cZ sa rk [.ref hm] (wM cI cZ hm ma mo) sz)
      (va_Qi (fun r (u : MO) => f_readM mo = some (.inr (r, u))) (wB (dC, dI) cI cZ (va_A (wM cI cZ hm ma mo) sz) (wM cI cZ hm ma)) (va_A (wM cI cZ hm ma mo) sz)) 2 12 (va_A (wM cI cZ hm ma mo) sz) := by
  have hg1 : f_progM mo ≠ none := fun z => hg (by unfold f_readM f_isProg; rw [z])
  refine Met.ofW (cc := c_Mo_read) (maxL := 2) (ret := some .int) (by decide) rfl ?_
  intro p e s m args below meth c s₁ B hml hv
  obtain ⟨rfl, hsz, hP, hK, hD0, hC, hZ⟩ := hv
  have hx := B.exec
  have hb := B.bytes
  have hr := B.returns
  have hts0 := atoms_spec (ws := wy y_Mo_read c_Mo_read 2 (some .int)) B.pre
  have hts := htsL hts0
  have hown : s.vm.findClass R_Mo = some m.cls := findClass_of_methodNamed B.named
  have hlocks := B.notSynchronized
  subst hsz
  have hD := hD0.self (sz := s.heap.size)
  generalize hAe : va_A (wM cI cZ hm ma mo) s.heap.size = A at hD hZ ⊢
  have hA : ∀ q : Nat, s.heap.size ≤ q → A q := fun q h => by rw [← hAe]; exact Or.inr h
  have hS : va_S A s.heap s.heap [] := va_S.rf
  have hl := lv_entry ([.ref hm]) (n := 2) (Nat.le_of_ble_eq_true rfl)
  rw [lg_entry_eq]
  generalize (lg_sl ([.ref hm]) ++ List.replicate (2 - (lg_sl ([.ref hm])).length) Slot.unset).toArray = ls at hl ⊢
  have hl : lv_has ls 2 [(0, .ref hm)] := hl
  refine lv_aload_n hx hb d_Mo_read_0 rfl (lv_at hl 0 rfl) ?_
  have hF := va_free (wc := wM cI cZ hm ma mo) hD hS hA [0, 1, 2, 3, 4, 5, 6, 7, 8, 9, 10, 11, 12, 13, 14, 15, 16] rfl
  refine vx_calli (vx_runVX (As := []) (rest := []) ⟨hx, hb, hml, hown, hts0⟩ (m_Mo_isProgram l hlt dC dI cI cZ sa rk hm ma mo s.heap.size hg1 hbg) (vx_cwVW 0 hts0 (gLL ?_) rfl rfl rfl ⟨rfl, k_Mo_isProgram⟩ ⟨(by show 2000 + 1 ≤ 2010; decide), (by show 8 + (2 + 11) + 41000 ≤ 42000; decide)⟩) ⟨prM_blind, va_recv hK hP (ci := 6) (q0 := 0) rfl rfl, fun U hU hW => ⟨rfl, by rw [hU], by rw [hU]; exact hP, va_K.moved hW.alike hK, hD.weaken (fun _ _ _ _ => trivial), XX.use hC hZ hS hF hU hW⟩⟩ rfl rfl hl.1 rfl (lv_room (Nat.le_of_ble_eq_true rfl)) d_Mo_read_1 ⟨(by show 0 + 1 ≤ 2; decide), (by show 0 + 6 ≤ 12; decide)⟩) hS (fun q _ h => hF q h) hF (fun q _ h => hF q h) (fun E ce q9 u t H1 locs1 ht1 hvm hp1 hB hz hk hS1 hce hcv hcl1 => hp1.elim) (fun r m1 t H locs ht1 hvm hp1 hB hz hk hS => ?_)
  · intro w hw
    simp only [wsV, wyH, List.cons_append, List.nil_append, List.mem_cons] at hw
    rcases hw with rfl | rfl | rfl | rfl | rfl | hw
    · exact L_1037
    · exact L_1039
    · exact L_57
    · exact L_90
    · exact L_1040
    · exact hw
  obtain ⟨hP1, hK1, hD1⟩ := hB
  rw [ht1] at hP1
  have hP := hP1
  have hD := hD1.weaken (fun _ _ _ z => hF _ z)
  have hgr := readM_e hp1
  refine lv_istore_n (lv' := [(1, .int r), (0, .ref hm)]) hx hb d_Mo_read_4 rfl hl (by decide) rfl (fun ls hl => ?_)
  refine lv_aload_n hx hb d_Mo_read_5 rfl (lv_at hl 1 rfl) ?_
  refine lv_iconst (v := 0) hx hb d_Mo_read_6 (by decide) ?_
  refine va_put (D := (dC, dI)) (ci := 6) (v := .int 0) (ty := .int) (C := R_Mo) (T := T_Mo) (N := 31) hx hb hts u_Mo ty_Mo tk_Mo nm_Mo hown hK hP hD hS 0 rfl rfl 5 (by decide) (hts _ L_926) (fun _ h9 => h9) rfl (by decide +kernel) rfl rfl (Nat.le_of_ble_eq_true rfl) d_Mo_read_7 (fun H locs hP hD hS => ?_)
  have hP : va_P (dC, dI) cls (wM cI cZ hm ma (s_count m1 0)) H := hP
  have hD : va_D A (wM cI cZ hm ma (s_count m1 0)) := hD
  refine lv_aload_n hx hb d_Mo_read_10 rfl (lv_at hl 1 rfl) ?_
  refine lv_iload_n hx hb d_Mo_read_11 rfl (lv_at hl 0 rfl) ?_
  have hk2 : ∀ v : Int32, v = (if r = 0 then 1 else 0) → W p l e (headSpec (wy y_Mo_read c_Mo_read 2 (some .int)) { frames := 2010, cells := 2, slots := 12, locals := 42000 }).room s m [Value.ref hm].toArray below meth c H locs (0 + 1) (0 + 6) (MQ below (va_Qi (fun r (u : MO) => f_readM mo = some (.inr (r, u))) (wB (dC, dI) cI cZ A (wM cI cZ hm ma)) A) [Value.ref hm].toArray s 2 12 A) (F0 m 20 ls [.int v, .ref hm]) := by
    intro v hv
    subst hv
    refine lv_iconst (v := 0) hx hb d_Mo_read_20 (by decide) ?_
    refine mr_ViG (g := f_Mo_throwing (s_count m1 0) (if r = 0 then 1 else 0) 0) (As := [.int (if r = 0 then 1 else 0), .int 0]) (rest := []) ⟨hx, hb, hml, hown, hts0⟩ (m_Mo_throwing l hlt dC dI cI cZ sa rk hm ma (s_count m1 0) _ (if r = 0 then 1 else 0) 0 (fun z => hg (by rw [hgr, bndM_n z]))) hP hD hK hS hA hC hZ L_1029 L_1031 L_56 L_90 L_1032 k_Mo_throwing ⟨Nat.le_of_ble_eq_true rfl, Nat.le_of_ble_eq_true rfl⟩ ⟨Nat.le_of_ble_eq_true rfl, Nat.le_of_ble_eq_true rfl⟩ hl.1 (Nat.le_of_ble_eq_true rfl) d_Mo_read_21 rfl (hth _ _ _) (fun t m2 H locs w_2 hP hD hS => ?_)
    refine lv_if_eq (tgt := 34) hx hb d_Mo_read_24 (by decide) (fun c_1 => ?_) (fun c_1 => ?_)
    · refine lv_aload_n hx hb d_Mo_read_34 rfl (lv_at hl 1 rfl) ?_
      refine mr_VvG (g := f_Mo_numberAll m2) (As := []) (rest := []) ⟨hx, hb, hml, hown, hts0⟩ (m_Mo_numberAll l hlt dC dI cI cZ sa rk hm ma m2 _ (fun z => hg (by rw [hgr, bndM_r w_2, if_pos c_1, bndM_n z]))) hP hD hK hS hA hC hZ L_1261 L_1263 L_80 L_90 L_1264 k_Mo_numberAll ⟨Nat.le_of_ble_eq_true rfl, Nat.le_of_ble_eq_true rfl⟩ ⟨Nat.le_of_ble_eq_true rfl, Nat.le_of_ble_eq_true rfl⟩ hl.1 (Nat.le_of_ble_eq_true rfl) d_Mo_read_35 rfl (hnu _) (fun m3 H locs w_3 hP hD hS => ?_)
      refine lv_aload_n hx hb d_Mo_read_38 rfl (lv_at hl 1 rfl) ?_
      refine va_get (D := (dC, dI)) (ci := 6) (v := .int (q_nodes m3)) (C := R_Mo) (T := T_Mo) (N := 31) hx hb hts u_Mo hown hK hP 0 rfl rfl 15 (by decide) (hts _ L_936) (fun _ h9 => h9) rfl d_Mo_read_39 ?_
      refine W.widen (k := 2) (n := 12) (by decide) (by decide) ?_
      exact W.iret hx hb hr (fun t ht hW => ⟨⟨q_nodes m3, m3, rfl, (by rw [hgr, bndM_r w_2, if_pos c_1, bndM_r w_3]), by rw [ht]; exact hP, va_K.moved hW.alike hK, hD⟩, hS.F ht⟩) hS.2.2 d_Mo_read_42
    · refine lv_aload_n hx hb d_Mo_read_27 rfl (lv_at hl 1 rfl) ?_
      refine lv_iconst (v := 0) hx hb d_Mo_read_28 (by decide) ?_
      refine va_put (D := (dC, dI)) (ci := 6) (v := .int 0) (ty := .int) (C := R_Mo) (T := T_Mo) (N := 31) hx hb hts u_Mo ty_Mo tk_Mo nm_Mo hown hK hP hD hS 0 rfl rfl 15 (by decide) (hts _ L_936) (fun _ h9 => h9) rfl (by decide +kernel) rfl rfl (Nat.le_of_ble_eq_true rfl) d_Mo_read_29 (fun H locs hP hD hS => ?_)
      have hP : va_P (dC, dI) cls (wM cI cZ hm ma (s_nodes m2 0)) H := hP
      have hD : va_D A (wM cI cZ hm ma (s_nodes m2 0)) := hD
      refine lv_iconst (v := 0) hx hb d_Mo_read_32 (by decide) ?_
      refine W.widen (k := 2) (n := 12) (by decide) (by decide) ?_
      exact W.iret hx hb hr (fun t ht hW => ⟨⟨0, s_nodes m2 0, rfl, (by rw [hgr, bndM_r w_2, if_neg c_1]), by rw [ht]; exact hP, va_K.moved hW.alike hK, hD⟩, hS.F ht⟩) hS.2.2 d_Mo_read_33
  refine lv_if_ne (tgt := 19) hx hb d_Mo_read_12 (by decide) (fun c_1 => ?_) (fun c_1 => ?_)
  · refine lv_iconst (v := 0) hx hb d_Mo_read_19 (by decide) ?_
    exact hk2 0 (by rw [if_neg c_1])
  · refine lv_iconst (v := 1) hx hb d_Mo_read_15 (by decide) ?_
    refine lv_goto (tgt := 20) hx hb d_Mo_read_16 (by decide) ?_
    exact hk2 1 (by rw [if_pos c_1])
