/-! tools 5: calls of the parser's methods in one row; their ends; the throw -/
abbrev setAt (s : ST) (v : Int32) : ST := (s.1, s.2.1, s.2.2.1, s.2.2.2.1, v, s.2.2.2.2.2.1, s.2.2.2.2.2.2.1, s.2.2.2.2.2.2.2.1, s.2.2.2.2.2.2.2.2)
abbrev setRa (s : ST) (v : Int32) : ST := (s.1, s.2.1, s.2.2.1, s.2.2.2.1, s.2.2.2.2.1, v, s.2.2.2.2.2.2.1, s.2.2.2.2.2.2.2.1, s.2.2.2.2.2.2.2.2)
abbrev setLi (s : ST) (v : Int32) : ST := (s.1, s.2.1, s.2.2.1, s.2.2.2.1, s.2.2.2.2.1, s.2.2.2.2.2.1, v, s.2.2.2.2.2.2.2.1, s.2.2.2.2.2.2.2.2)
abbrev setCo (s : ST) (v : CO) : ST := (s.1, s.2.1, s.2.2.1, v, s.2.2.2.2.1, s.2.2.2.2.2.1, s.2.2.2.2.2.2.1, s.2.2.2.2.2.2.2.1, s.2.2.2.2.2.2.2.2)
abbrev setTr (s : ST) (v : TR) : ST := (s.1, v, s.2.2.1, s.2.2.2.1, s.2.2.2.2.1, s.2.2.2.2.2.1, s.2.2.2.2.2.2.1, s.2.2.2.2.2.2.2.1, s.2.2.2.2.2.2.2.2)
abbrev setLb (s : ST) (v : LB) : ST := (s.1, s.2.1, v, s.2.2.2.1, s.2.2.2.2.1, s.2.2.2.2.2.1, s.2.2.2.2.2.2.1, s.2.2.2.2.2.2.2.1, s.2.2.2.2.2.2.2.2)
abbrev setB (s : ST) (x y : Nat) : ST := (s.1, s.2.1, s.2.2.1, s.2.2.2.1, s.2.2.2.2.1, s.2.2.2.2.2.1, s.2.2.2.2.2.2.1, x, y)
theorem cl_next {a b c d : Nat} (h : a + b ≤ d) (h1 : c ≤ b) : (a + (b - c)) + c ≤ d := by omega
section TLQ
variable {p : Program} {l : Launch} {e : Env} {R : Room} {s : State} {m : MethodId} {args : Array Value} {below : List Frame} {meth : Method} {c : Code} {H : Heap} {locs : List Loc} {cells slots : Nat}
variable {cc bytes : ByteArray} {pc maxL fr lo idx nL : Nat} {ls : Array Slot} {rest st0 As : List Value} {x : Cond} {own : String} {y : MethodName} {rt : FieldType}
variable {D : va_G} {cI cZ : ClassId} {sa rk hp hc h a1 a2 a3 a4 ht hq n1 n2 : Nat} {ad : AD} {st stO : ST} {g G : Rz} {A : Nat → Prop} {Qc : Array Value → State → Outcome → State → Prop}
theorem mx_iret {v : Int32} {stF : ST} (hx : p.tables.exec = Jvm.exec) (hb : c.code = cc) (hr : meth.sig.returnType = some .int) (hlocks : meth.locks = false) (hK : va_K D cls (ty2 cI cZ) s) (hP : va_P D cls (wQ cI cZ hp hc h a1 a2 a3 a4 ht hq n1 n2 (ad, stF)) H) (hD : va_D A (wQ cI cZ hp hc h a1 a2 a3 a4 ht hq n1 n2 (ad, stF))) (hS : va_S A s.heap H locs)
    (hcl : cells + bC stF ≤ bC stO) (hsl : slots + bS stF ≤ bS stO) (hG : G = some (.inr (v, stF))) (ok : okSt stF) (hdg : decode cc pc = .ok (.ireturn, 1)) :
    W p l e R s m args below meth c H locs cells slots (vx_MQ below (va_Qi (poN G stO) (wB D cI cZ A (wQ cI cZ hp hc h a1 a2 a3 a4 ht hq n1 n2)) A) (xP D cI cZ hp h a1 a2 a3 a4 ht hq n1 n2 G stO A) args s (mcO stO G) (msO stO G) A) (F0 m pc ls [.int v]) := by
  refine vx_ret ?_
  refine W.widen (k := mcO stO G) (n := msO stO G) (by rw [hG]; simp only [mcO]; omega) (by rw [hG]; simp only [msO]; omega) ?_
  exact W.iret hx hb hr (fun t ht hW => ⟨⟨v, (ad, stF), rfl, ⟨hG, ok, Nat.le_trans (Nat.le_add_left _ _) hcl, Nat.le_trans (Nat.le_add_left _ _) hsl⟩, by rw [ht]; exact hP, va_K.moved hW.alike hK, hD⟩, hS.F ht⟩) hS.2.2 hdg
theorem mx_zret {v : Int32} {stF : ST} (hx : p.tables.exec = Jvm.exec) (hb : c.code = cc) (hr : meth.sig.returnType = some .boolean) (hn : narrow .boolean (.int v) = .int v) (hlocks : meth.locks = false) (hK : va_K D cls (ty2 cI cZ) s) (hP : va_P D cls (wQ cI cZ hp hc h a1 a2 a3 a4 ht hq n1 n2 (ad, stF)) H) (hD : va_D A (wQ cI cZ hp hc h a1 a2 a3 a4 ht hq n1 n2 (ad, stF))) (hS : va_S A s.heap H locs)
    (hcl : cells + bC stF ≤ bC stO) (hsl : slots + bS stF ≤ bS stO) (hG : G = some (.inr (v, stF))) (ok : okSt stF) (hdg : decode cc pc = .ok (.ireturn, 1)) :
    W p l e R s m args below meth c H locs cells slots (vx_MQ below (va_Qi (poN G stO) (wB D cI cZ A (wQ cI cZ hp hc h a1 a2 a3 a4 ht hq n1 n2)) A) (xP D cI cZ hp h a1 a2 a3 a4 ht hq n1 n2 G stO A) args s (mcO stO G) (msO stO G) A) (F0 m pc ls [.int v]) := by
  refine vx_ret ?_
  refine W.widen (k := mcO stO G) (n := msO stO G) (by rw [hG]; simp only [mcO]; omega) (by rw [hG]; simp only [msO]; omega) ?_
  exact W.zret hx hb hr hn (fun t ht hW => ⟨⟨v, (ad, stF), rfl, ⟨hG, ok, Nat.le_trans (Nat.le_add_left _ _) hcl, Nat.le_trans (Nat.le_add_left _ _) hsl⟩, by rw [ht]; exact hP, va_K.moved hW.alike hK, hD⟩, hS.F ht⟩) hS.2.2 hdg
theorem mx_vret {stF : ST} (hx : p.tables.exec = Jvm.exec) (hb : c.code = cc) (hr : meth.sig.returnType = none) (hlocks : meth.locks = false) (hK : va_K D cls (ty2 cI cZ) s) (hP : va_P D cls (wQ cI cZ hp hc h a1 a2 a3 a4 ht hq n1 n2 (ad, stF)) H) (hD : va_D A (wQ cI cZ hp hc h a1 a2 a3 a4 ht hq n1 n2 (ad, stF))) (hS : va_S A s.heap H locs)
    (hcl : cells + bC stF ≤ bC stO) (hsl : slots + bS stF ≤ bS stO) (hG : G = some (.inr (0, stF))) (ok : okSt stF) (hdg : decode cc pc = .ok (.return_, 1)) :
    W p l e R s m args below meth c H locs cells slots (vx_MQ below (va_Qv (poN G stO 0) (wB D cI cZ A (wQ cI cZ hp hc h a1 a2 a3 a4 ht hq n1 n2)) A) (xP D cI cZ hp h a1 a2 a3 a4 ht hq n1 n2 G stO A) args s (mcO stO G) (msO stO G) A) (F0 m pc ls []) := by
  refine vx_ret ?_
  refine W.widen (k := mcO stO G) (n := msO stO G) (by rw [hG]; simp only [mcO]; omega) (by rw [hG]; simp only [msO]; omega) ?_
  exact W.vret hx hb hr (fun t ht hW => ⟨⟨(ad, stF), rfl, ⟨hG, ok, Nat.le_trans (Nat.le_add_left _ _) hcl, Nat.le_trans (Nat.le_add_left _ _) hsl⟩, by rw [ht]; exact hP, va_K.moved hW.alike hK, hD⟩, hS.F ht⟩) hS.2.2 hdg
theorem mx_Vv (CF : CallFix p m c cc nL s args (x :: LL) own) (hM : cPv l y bytes maxL fr lo D cI cZ sa rk hp hc h a1 a2 a3 a4 ht hq n1 n2 ad st H.size (.ref hp :: As) g)
    (hP : va_P D cls (wQ cI cZ hp hc h a1 a2 a3 a4 ht hq n1 n2 (ad, st)) H) (hD : va_D A (wQ cI cZ hp hc h a1 a2 a3 a4 ht hq n1 n2 (ad, st))) (hK : va_K D cls (ty2 cI cZ) s) (hS : va_S A s.heap H locs) (hA : ∀ q, s.heap.size ≤ q → A q) (hC : CX cI sa s) (hZ : ZX rk A s s.heap) (hnt : ∀ x ∈ c.exceptionTable.toList, False) (hlocks : meth.locks = false)
    (l1 : Cond.methodLink own idx y ∈ LL) (l2 : Cond.instanceMethod y ∈ LL) (l3 : Cond.selects R_Pa y y ∈ LL) (l4 : Cond.initialized y.cls ∈ LL) (l5 : Cond.code y bytes maxL none ∈ LL)
    (hd : y.cls ≠ "java/lang/invoke/MethodHandle" ∧ y.cls ≠ "java/lang/invoke/VarHandle" ∧ (parseMethodDescriptor y.desc).map (fun d => d.parameters.length) = some As.length)
    (hR : fr + 1 ≤ R.frames ∧ 8 + (maxL + 11) + lo ≤ R.locals) (hRc : R.cells = bC stO) (hRs : R.slots = bS stO) (hls : ls.size = nL) (hst : (rest.map fun v => v.category).sum ≤ 8) (hdg : decode cc pc = .ok (.invokevirtual idx, 3)) (h0 : st0 = As.reverse ++ .ref hp :: rest)
    (hX : ∀ q, g = some (.inl q) → G = some (.inl q)) (hcl : cells + bC st ≤ bC stO) (hsl : slots + bS st ≤ bS stO)
    (kk : ∀ (ad1 : AD) (st1 : ST) (H1 : Heap) (locs1 : List Loc), g = some (.inr (0, st1)) → okSt st1 → bC st1 ≤ bC st → bS st1 ≤ bS st →
      va_P D cls (wQ cI cZ hp hc h a1 a2 a3 a4 ht hq n1 n2 (ad1, st1)) H1 → va_D A (wQ cI cZ hp hc h a1 a2 a3 a4 ht hq n1 n2 (ad1, st1)) → va_S A s.heap H1 locs1 →
      W p l e R s m args below meth c H1 locs1 (cells + (bC st - bC st1)) (slots + (bS st - bS st1)) (vx_MQ below Qc (xP D cI cZ hp h a1 a2 a3 a4 ht hq n1 n2 G stO A) args s (mcO stO G) (msO stO G) A) (F0 m (pc + 3) ls rest)) :
    W p l e R s m args below meth c H locs cells slots (vx_MQ below Qc (xP D cI cZ hp h a1 a2 a3 a4 ht hq n1 n2 G stO A) args s (mcO stO G) (msO stO G) A) (F0 m pc ls st0) := by
  have hF := va_free (wc := wQ cI cZ hp hc h a1 a2 a3 a4 ht hq n1 n2 (ad, st)) hD hS hA [0, 1, 2, 3, 4, 5, 6, 7, 8, 9, 10, 11, 12, 13, 14] rfl
  exact mx_v (vy_runV (As := As) (rest := rest) CF hM ⟨prM_blind, va_recv hK hP (ci := 2) (q0 := 0) rfl rfl, fun U hU hW => ⟨rfl, by rw [hU], by rw [hU]; exact hP, va_K.moved hW.alike hK, hD.weaken (fun _ _ _ _ => trivial), XX.use hC hZ hS hF hU hW⟩⟩ l1 l2 l3 l4 l5 hd hR rfl hls h0 (lv_room hst) hdg ⟨by rw [hRc]; exact hcl, by rw [hRs]; exact hsl⟩) hS hF hnt hlocks hX hcl hsl kk
theorem mx_Uv {xm : MethodName} {owner : String} (CF : CallFix p m c cc nL s args (x :: LL) own) (hM : cPv l y bytes maxL fr lo D cI cZ sa rk hp hc h a1 a2 a3 a4 ht hq n1 n2 ad st H.size (.ref hp :: As) g)
    (hP : va_P D cls (wQ cI cZ hp hc h a1 a2 a3 a4 ht hq n1 n2 (ad, st)) H) (hD : va_D A (wQ cI cZ hp hc h a1 a2 a3 a4 ht hq n1 n2 (ad, st))) (hK : va_K D cls (ty2 cI cZ) s) (hS : va_S A s.heap H locs) (hA : ∀ q, s.heap.size ≤ q → A q) (hC : CX cI sa s) (hZ : ZX rk A s s.heap) (hnt : ∀ x ∈ c.exceptionTable.toList, False) (hlocks : meth.locks = false)
    (l1 : Cond.methodLink own idx xm ∈ LL) (l2 : Cond.sameMethod xm.cls owner xm.name xm.desc ∈ LL) (l3 : Cond.selects R_Pa xm y ∈ LL) (l4 : Cond.instanceMethod y ∈ LL) (l5 : Cond.initialized y.cls ∈ LL) (l6 : Cond.code y bytes maxL none ∈ LL)
    (hyx : y = ⟨owner, xm.name, xm.desc⟩) (hd : owner ≠ "java/lang/invoke/MethodHandle" ∧ owner ≠ "java/lang/invoke/VarHandle" ∧ (parseMethodDescriptor xm.desc).map (fun d => d.parameters.length) = some As.length)
    (hR : fr + 1 ≤ R.frames ∧ 8 + (maxL + 11) + lo ≤ R.locals) (hRc : R.cells = bC stO) (hRs : R.slots = bS stO) (hls : ls.size = nL) (hst : (rest.map fun v => v.category).sum ≤ 8) (hdg : decode cc pc = .ok (.invokevirtual idx, 3)) (h0 : st0 = As.reverse ++ .ref hp :: rest)
    (hX : ∀ q, g = some (.inl q) → G = some (.inl q)) (hcl : cells + bC st ≤ bC stO) (hsl : slots + bS st ≤ bS stO)
    (kk : ∀ (ad1 : AD) (st1 : ST) (H1 : Heap) (locs1 : List Loc), g = some (.inr (0, st1)) → okSt st1 → bC st1 ≤ bC st → bS st1 ≤ bS st →
      va_P D cls (wQ cI cZ hp hc h a1 a2 a3 a4 ht hq n1 n2 (ad1, st1)) H1 → va_D A (wQ cI cZ hp hc h a1 a2 a3 a4 ht hq n1 n2 (ad1, st1)) → va_S A s.heap H1 locs1 →
      W p l e R s m args below meth c H1 locs1 (cells + (bC st - bC st1)) (slots + (bS st - bS st1)) (vx_MQ below Qc (xP D cI cZ hp h a1 a2 a3 a4 ht hq n1 n2 G stO A) args s (mcO stO G) (msO stO G) A) (F0 m (pc + 3) ls rest)) :
    W p l e R s m args below meth c H locs cells slots (vx_MQ below Qc (xP D cI cZ hp h a1 a2 a3 a4 ht hq n1 n2 G stO A) args s (mcO stO G) (msO stO G) A) (F0 m pc ls st0) := by
  have hF := va_free (wc := wQ cI cZ hp hc h a1 a2 a3 a4 ht hq n1 n2 (ad, st)) hD hS hA [0, 1, 2, 3, 4, 5, 6, 7, 8, 9, 10, 11, 12, 13, 14] rfl
  exact mx_v (vy_runU (As := As) (rest := rest) CF hM ⟨prM_blind, va_recv hK hP (ci := 2) (q0 := 0) rfl rfl, fun U hU hW => ⟨rfl, by rw [hU], by rw [hU]; exact hP, va_K.moved hW.alike hK, hD.weaken (fun _ _ _ _ => trivial), XX.use hC hZ hS hF hU hW⟩⟩ l1 l2 l3 l4 l5 l6 hyx hd hR rfl hls h0 (lv_room hst) hdg ⟨by rw [hRc]; exact hcl, by rw [hRs]; exact hsl⟩) hS hF hnt hlocks hX hcl hsl kk
theorem mx_Vi (CF : CallFix p m c cc nL s args (x :: LL) own) (hM : cPi l y bytes maxL rt fr lo D cI cZ sa rk hp hc h a1 a2 a3 a4 ht hq n1 n2 ad st H.size (.ref hp :: As) g)
    (hP : va_P D cls (wQ cI cZ hp hc h a1 a2 a3 a4 ht hq n1 n2 (ad, st)) H) (hD : va_D A (wQ cI cZ hp hc h a1 a2 a3 a4 ht hq n1 n2 (ad, st))) (hK : va_K D cls (ty2 cI cZ) s) (hS : va_S A s.heap H locs) (hA : ∀ q, s.heap.size ≤ q → A q) (hC : CX cI sa s) (hZ : ZX rk A s s.heap) (hnt : ∀ x ∈ c.exceptionTable.toList, False) (hlocks : meth.locks = false)
    (l1 : Cond.methodLink own idx y ∈ LL) (l2 : Cond.instanceMethod y ∈ LL) (l3 : Cond.selects R_Pa y y ∈ LL) (l4 : Cond.initialized y.cls ∈ LL) (l5 : Cond.code y bytes maxL (some rt) ∈ LL)
    (hd : y.cls ≠ "java/lang/invoke/MethodHandle" ∧ y.cls ≠ "java/lang/invoke/VarHandle" ∧ (parseMethodDescriptor y.desc).map (fun d => d.parameters.length) = some As.length)
    (hR : fr + 1 ≤ R.frames ∧ 8 + (maxL + 11) + lo ≤ R.locals) (hRc : R.cells = bC stO) (hRs : R.slots = bS stO) (hls : ls.size = nL) (hst : (rest.map fun v => v.category).sum ≤ 8) (hdg : decode cc pc = .ok (.invokevirtual idx, 3)) (h0 : st0 = As.reverse ++ .ref hp :: rest)
    (hX : ∀ q, g = some (.inl q) → G = some (.inl q)) (hcl : cells + bC st ≤ bC stO) (hsl : slots + bS st ≤ bS stO)
    (kk : ∀ (r : Int32) (ad1 : AD) (st1 : ST) (H1 : Heap) (locs1 : List Loc), g = some (.inr (r, st1)) → okSt st1 → bC st1 ≤ bC st → bS st1 ≤ bS st →
      va_P D cls (wQ cI cZ hp hc h a1 a2 a3 a4 ht hq n1 n2 (ad1, st1)) H1 → va_D A (wQ cI cZ hp hc h a1 a2 a3 a4 ht hq n1 n2 (ad1, st1)) → va_S A s.heap H1 locs1 →
      W p l e R s m args below meth c H1 locs1 (cells + (bC st - bC st1)) (slots + (bS st - bS st1)) (vx_MQ below Qc (xP D cI cZ hp h a1 a2 a3 a4 ht hq n1 n2 G stO A) args s (mcO stO G) (msO stO G) A) (F0 m (pc + 3) ls (.int r :: rest))) :
    W p l e R s m args below meth c H locs cells slots (vx_MQ below Qc (xP D cI cZ hp h a1 a2 a3 a4 ht hq n1 n2 G stO A) args s (mcO stO G) (msO stO G) A) (F0 m pc ls st0) := by
  have hF := va_free (wc := wQ cI cZ hp hc h a1 a2 a3 a4 ht hq n1 n2 (ad, st)) hD hS hA [0, 1, 2, 3, 4, 5, 6, 7, 8, 9, 10, 11, 12, 13, 14] rfl
  exact mx_i (vy_runV (As := As) (rest := rest) CF hM ⟨prM_blind, va_recv hK hP (ci := 2) (q0 := 0) rfl rfl, fun U hU hW => ⟨rfl, by rw [hU], by rw [hU]; exact hP, va_K.moved hW.alike hK, hD.weaken (fun _ _ _ _ => trivial), XX.use hC hZ hS hF hU hW⟩⟩ l1 l2 l3 l4 l5 hd hR rfl hls h0 (lv_room hst) hdg ⟨by rw [hRc]; exact hcl, by rw [hRs]; exact hsl⟩) hS hF hnt hlocks hX hcl hsl kk
theorem mx_Ui {xm : MethodName} {owner : String} (CF : CallFix p m c cc nL s args (x :: LL) own) (hM : cPi l y bytes maxL rt fr lo D cI cZ sa rk hp hc h a1 a2 a3 a4 ht hq n1 n2 ad st H.size (.ref hp :: As) g)
    (hP : va_P D cls (wQ cI cZ hp hc h a1 a2 a3 a4 ht hq n1 n2 (ad, st)) H) (hD : va_D A (wQ cI cZ hp hc h a1 a2 a3 a4 ht hq n1 n2 (ad, st))) (hK : va_K D cls (ty2 cI cZ) s) (hS : va_S A s.heap H locs) (hA : ∀ q, s.heap.size ≤ q → A q) (hC : CX cI sa s) (hZ : ZX rk A s s.heap) (hnt : ∀ x ∈ c.exceptionTable.toList, False) (hlocks : meth.locks = false)
    (l1 : Cond.methodLink own idx xm ∈ LL) (l2 : Cond.sameMethod xm.cls owner xm.name xm.desc ∈ LL) (l3 : Cond.selects R_Pa xm y ∈ LL) (l4 : Cond.instanceMethod y ∈ LL) (l5 : Cond.initialized y.cls ∈ LL) (l6 : Cond.code y bytes maxL (some rt) ∈ LL)
    (hyx : y = ⟨owner, xm.name, xm.desc⟩) (hd : owner ≠ "java/lang/invoke/MethodHandle" ∧ owner ≠ "java/lang/invoke/VarHandle" ∧ (parseMethodDescriptor xm.desc).map (fun d => d.parameters.length) = some As.length)
    (hR : fr + 1 ≤ R.frames ∧ 8 + (maxL + 11) + lo ≤ R.locals) (hRc : R.cells = bC stO) (hRs : R.slots = bS stO) (hls : ls.size = nL) (hst : (rest.map fun v => v.category).sum ≤ 8) (hdg : decode cc pc = .ok (.invokevirtual idx, 3)) (h0 : st0 = As.reverse ++ .ref hp :: rest)
    (hX : ∀ q, g = some (.inl q) → G = some (.inl q)) (hcl : cells + bC st ≤ bC stO) (hsl : slots + bS st ≤ bS stO)
    (kk : ∀ (r : Int32) (ad1 : AD) (st1 : ST) (H1 : Heap) (locs1 : List Loc), g = some (.inr (r, st1)) → okSt st1 → bC st1 ≤ bC st → bS st1 ≤ bS st →
      va_P D cls (wQ cI cZ hp hc h a1 a2 a3 a4 ht hq n1 n2 (ad1, st1)) H1 → va_D A (wQ cI cZ hp hc h a1 a2 a3 a4 ht hq n1 n2 (ad1, st1)) → va_S A s.heap H1 locs1 →
      W p l e R s m args below meth c H1 locs1 (cells + (bC st - bC st1)) (slots + (bS st - bS st1)) (vx_MQ below Qc (xP D cI cZ hp h a1 a2 a3 a4 ht hq n1 n2 G stO A) args s (mcO stO G) (msO stO G) A) (F0 m (pc + 3) ls (.int r :: rest))) :
    W p l e R s m args below meth c H locs cells slots (vx_MQ below Qc (xP D cI cZ hp h a1 a2 a3 a4 ht hq n1 n2 G stO A) args s (mcO stO G) (msO stO G) A) (F0 m pc ls st0) := by
  have hF := va_free (wc := wQ cI cZ hp hc h a1 a2 a3 a4 ht hq n1 n2 (ad, st)) hD hS hA [0, 1, 2, 3, 4, 5, 6, 7, 8, 9, 10, 11, 12, 13, 14] rfl
  exact mx_i (vy_runU (As := As) (rest := rest) CF hM ⟨prM_blind, va_recv hK hP (ci := 2) (q0 := 0) rfl rfl, fun U hU hW => ⟨rfl, by rw [hU], by rw [hU]; exact hP, va_K.moved hW.alike hK, hD.weaken (fun _ _ _ _ => trivial), XX.use hC hZ hS hF hU hW⟩⟩ l1 l2 l3 l4 l5 l6 hyx hd hR rfl hls h0 (lv_room hst) hdg ⟨by rw [hRc]; exact hcl, by rw [hRs]; exact hsl⟩) hS hF hnt hlocks hX hcl hsl kk
end TLQ
