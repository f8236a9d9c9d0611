/-! the law's calls -/
abbrev wW (cI cZ cL : ClassId) (ho hy hp h ht hq n1 n2 : Nat) (u : UO) (hm : Nat) (ma : Nat → Nat) (mo : MO) : va_W := wO cI cZ cL ho hy hp h ht hq n1 n2 u ++ wM cI cZ hm ma mo
section LWC
variable {p : Program} {l : Launch} {e : Env} {R : Room} {s : State} {m : MethodId} {args : Array Value} {below : List Frame} {meth : Method} {c : Code} {H : Heap} {locs : List Loc} {Q : State → Prop} {cells slots : Nat}
variable {cc bytes : ByteArray} {pc maxL fr lo mc ms idx nL : Nat} {ls : Array Slot} {rest st0 As : List Value} {x : Cond} {own : String} {y : MethodName} {rt : FieldType}
variable {D : va_G} {cI cZ cL : ClassId} {sa rk ho hy hp h ht hq n1 n2 hm : Nat} {ma : Nat → Nat} {mo : MO} {sb : Nat → Nat} {u0 : UO} {A : Nat → Prop} {post : Int32 → UO → Prop} {hh : List (Nat × Nat × Nat × Nat)}
theorem lw_O (CF : CallFix p m c cc nL s args (x :: LL) own) (hM : cO l y bytes maxL hh fr lo mc ms D cI cZ cL sa rk sb ho hy hp h ht hq n1 n2 u0 H.size As post)
    (hP : va_P D cls (wW cI cZ cL ho hy hp h ht hq n1 n2 u0 hm ma mo) H) (hD : va_D A (wW cI cZ cL ho hy hp h ht hq n1 n2 u0 hm ma mo)) (hK : va_K D cls (ty3 cI cZ cL) s) (hS : va_S A s.heap H locs) (hA : ∀ q, s.heap.size ≤ q → A q) (hC : CX cI sa s) (hZ : ZX rk A s s.heap) (hY : CY sb s) (hO : CKO s)
    (l1 : Cond.methodLink own idx y ∈ LL) (l2 : Cond.static y ∈ LL) (l4 : Cond.initialized y.cls ∈ LL) (l5 : Cond.codeWith y bytes maxL (some .int) hh ∈ LL)
    (hd : y.cls ≠ "java/lang/invoke/MethodHandle" ∧ y.cls ≠ "java/lang/invoke/VarHandle" ∧ (parseMethodDescriptor y.desc).map (fun d => d.parameters.length) = some As.length)
    (hR : fr + 1 ≤ R.frames ∧ 8 + (maxL + 11) + lo ≤ R.locals) (hcap : cells + mc ≤ R.cells ∧ slots + ms ≤ R.slots) (hls : ls.size = nL) (hst : (rest.map fun v => v.category).sum ≤ 8) (hdg : decode cc pc = .ok (.invokestatic idx, 3)) (h0 : st0 = As.reverse ++ rest)
    (kk : ∀ (r : Int32) (u1 : UO) (H1 : Heap) (locs1 : List Loc), post r u1 → va_P D cls (wW cI cZ cL ho hy hp h ht hq n1 n2 u1 hm ma mo) H1 → va_D A (wW cI cZ cL ho hy hp h ht hq n1 n2 u1 hm ma mo) → va_S A s.heap H1 locs1 → W p l e R s m args below meth c H1 locs1 (cells + mc) (slots + ms) Q (F0 m (pc + 3) ls (.int r :: rest))) :
    W p l e R s m args below meth c H locs cells slots Q (F0 m pc ls st0) := by
  have hPc := hP.sub (ws' := wO cI cZ cL ho hy hp h ht hq n1 n2 u0) [0, 1, 2, 3, 4, 5, 6, 7, 8, 9, 10, 11, 12, 13, 14, 15, 16] rfl
  have hDc := hD.sub (ws' := wO cI cZ cL ho hy hp h ht hq n1 n2 u0) [0, 1, 2, 3, 4, 5, 6, 7, 8, 9, 10, 11, 12, 13, 14, 15, 16] (by decide) rfl
  have hF := va_free (wc := wO cI cZ cL ho hy hp h ht hq n1 n2 u0) hD hS hA [0, 1, 2, 3, 4, 5, 6, 7, 8, 9, 10, 11, 12, 13, 14, 15, 16] rfl
  refine vx_calli (vx_runSX (As := As) (rest := rest) CF hM (vx_cwSW As.length CF.2.2.2.2 (gLL ?_) rfl rfl rfl hd hR) ⟨prO_blind, fun U hU hW => ⟨rfl, ⟨by rw [hU], by rw [hU]; exact hPc, va_K.moved hW.alike hK, hDc.weaken (fun _ _ _ _ => trivial), XX.use hC hZ hS hF hU hW⟩, CY.warm hW hY, CKO.moved hW.alike hO⟩⟩ rfl rfl hls h0 (lv_room hst) hdg hcap) hS (fun q _ h => hF q h) hF (fun q _ h => hF q h) (fun E ce q9 u t H1 locs1 ht1 hvm hp1 hB hz hk hS1 hce hcv hcl1 => hp1.elim) (fun r u t H1 locs1 ht1 hvm hp1 hB hz hk hS1 => ?_)
  · intro w hw
    simp only [va_wsS, wyH, List.cons_append, List.nil_append, List.mem_cons] at hw
    rcases hw with rfl | rfl | rfl | rfl | hw
    · exact l1
    · exact l2
    · exact l4
    · exact l5
    · exact hw
  · obtain ⟨hP1, hK1, hD1⟩ := hB
    rw [ht1] at hP1
    obtain ⟨hP2, hD2⟩ := va_join (wr := wM cI cZ hm ma mo) (w1 := wO cI cZ cL ho hy hp h ht hq n1 n2 u) hP hD [0, 1, 2, 3, 4, 5, 6, 7, 8, 9, 10, 11, 12, 13, 14, 15, 16] [17, 18, 19, 20, 21, 22, 23, 24, 25, 26, 27, 28, 29, 30, 31, 32, 33] rfl rfl (by decide) (by decide) hk hF hP1 hD1
    exact kk r u H1 locs1 hp1 (hP2.sub (ws' := wW cI cZ cL ho hy hp h ht hq n1 n2 u hm ma mo) [17, 18, 19, 20, 21, 22, 23, 24, 25, 26, 27, 28, 29, 30, 31, 32, 33, 0, 1, 2, 3, 4, 5, 6, 7, 8, 9, 10, 11, 12, 13, 14, 15, 16] rfl) (hD2.sub (ws' := wW cI cZ cL ho hy hp h ht hq n1 n2 u hm ma mo) [17, 18, 19, 20, 21, 22, 23, 24, 25, 26, 27, 28, 29, 30, 31, 32, 33, 0, 1, 2, 3, 4, 5, 6, 7, 8, 9, 10, 11, 12, 13, 14, 15, 16] (by decide) rfl) hS1
theorem lw_M {g : Rm} {r0 : Int32} {mo1 : MO} (CF : CallFix p m c cc nL s args (x :: LL) own) (hM : cXi l y bytes maxL rt fr lo D cI cZ sa rk hm ma mo H.size (.ref hm :: As) g) (hg : g = some (.inr (r0, mo1)))
    (hP : va_P D cls (wW cI cZ cL ho hy hp h ht hq n1 n2 u0 hm ma mo) H) (hD : va_D A (wW cI cZ cL ho hy hp h ht hq n1 n2 u0 hm ma mo)) (hK : va_K D cls (ty3 cI cZ cL) s) (hS : va_S A s.heap H locs) (hA : ∀ q, s.heap.size ≤ q → A q) (hC : CX cI sa s) (hZ : ZX rk A s s.heap)
    (l1 : Cond.methodLink own idx y ∈ LL) (l2 : Cond.instanceMethod y ∈ LL) (l3 : Cond.selects R_Mo y y ∈ LL) (l4 : Cond.initialized y.cls ∈ LL) (l5 : Cond.code y bytes maxL (some rt) ∈ LL)
    (hd : y.cls ≠ "java/lang/invoke/MethodHandle" ∧ y.cls ≠ "java/lang/invoke/VarHandle" ∧ (parseMethodDescriptor y.desc).map (fun d => d.parameters.length) = some As.length)
    (hR : fr + 1 ≤ R.frames ∧ 8 + (maxL + 11) + lo ≤ R.locals) (hcap : cells + 1 ≤ R.cells ∧ slots + 6 ≤ R.slots) (hls : ls.size = nL) (hst : (rest.map fun v => v.category).sum ≤ 8) (hdg : decode cc pc = .ok (.invokevirtual idx, 3)) (h0 : st0 = As.reverse ++ .ref hm :: rest)
    (kk : ∀ (H1 : Heap) (locs1 : List Loc), va_P D cls (wW cI cZ cL ho hy hp h ht hq n1 n2 u0 hm ma mo1) H1 → va_D A (wW cI cZ cL ho hy hp h ht hq n1 n2 u0 hm ma mo1) → va_S A s.heap H1 locs1 → W p l e R s m args below meth c H1 locs1 cells slots Q (F0 m (pc + 3) ls (.int r0 :: rest))) :
    W p l e R s m args below meth c H locs cells slots Q (F0 m pc ls st0) := by
  have hPc := hP.sub (ws' := wM cI cZ hm ma mo) [17, 18, 19, 20, 21, 22, 23, 24, 25, 26, 27, 28, 29, 30, 31, 32, 33] rfl
  have hDc := hD.sub (ws' := wM cI cZ hm ma mo) [17, 18, 19, 20, 21, 22, 23, 24, 25, 26, 27, 28, 29, 30, 31, 32, 33] (by decide) rfl
  have hKc := hK.sub (tys' := ty2 cI cZ) [0, 1] rfl
  have hF := va_free (wc := wM cI cZ hm ma mo) hD hS hA [17, 18, 19, 20, 21, 22, 23, 24, 25, 26, 27, 28, 29, 30, 31, 32, 33] rfl
  subst hg
  refine vx_calli (vy_runV (As := As) (rest := rest) CF hM ⟨prM_blind, va_recv hKc hPc (ci := 6) (q0 := 0) rfl rfl, fun U hU hW => ⟨rfl, by rw [hU], by rw [hU]; exact hPc, va_K.moved hW.alike hKc, hDc.weaken (fun _ _ _ _ => trivial), XX.use hC hZ hS hF hU hW⟩⟩ l1 l2 l3 l4 l5 hd hR rfl hls h0 (lv_room hst) hdg hcap) hS (fun q _ h => hF q h) hF (fun q _ h => hF q h) (fun E ce q9 u t H1 locs1 ht1 hvm hp1 hB hz hk hS1 hce hcv hcl1 => by cases hp1) (fun r u t H1 locs1 ht1 hvm hp1 hB hz hk hS1 => ?_)
  cases hp1
  obtain ⟨hP1, hK1, hD1⟩ := hB
  rw [ht1] at hP1
  obtain ⟨hP2, hD2⟩ := va_join (wr := wO cI cZ cL ho hy hp h ht hq n1 n2 u0) (w1 := wM cI cZ hm ma mo1) hP hD [17, 18, 19, 20, 21, 22, 23, 24, 25, 26, 27, 28, 29, 30, 31, 32, 33] [0, 1, 2, 3, 4, 5, 6, 7, 8, 9, 10, 11, 12, 13, 14, 15, 16] rfl rfl (by decide) (by decide) hk hF hP1 hD1
  exact kk H1 locs1 hP2 hD2 hS1
theorem lw_R {postM : Int32 → MO → Prop} (CF : CallFix p m c cc nL s args (x :: LL) own) (hM : cMi l y bytes maxL rt fr lo mc ms D cI cZ sa rk (.ref hm :: As) (wM cI cZ hm ma mo) H.size postM (wM cI cZ hm ma))
    (hP : va_P D cls (wW cI cZ cL ho hy hp h ht hq n1 n2 u0 hm ma mo) H) (hD : va_D A (wW cI cZ cL ho hy hp h ht hq n1 n2 u0 hm ma mo)) (hK : va_K D cls (ty3 cI cZ cL) s) (hS : va_S A s.heap H locs) (hA : ∀ q, s.heap.size ≤ q → A q) (hC : CX cI sa s) (hZ : ZX rk A s s.heap)
    (l1 : Cond.methodLink own idx y ∈ LL) (l2 : Cond.instanceMethod y ∈ LL) (l3 : Cond.selects R_Mo y y ∈ LL) (l4 : Cond.initialized R_Mo ∈ LL) (l5 : Cond.code y bytes maxL (some rt) ∈ LL)
    (hd : y.cls = R_Mo ∧ y.cls ≠ "java/lang/invoke/MethodHandle" ∧ y.cls ≠ "java/lang/invoke/VarHandle" ∧ (parseMethodDescriptor y.desc).map (fun d => d.parameters.length) = some As.length)
    (hR : fr + 1 ≤ R.frames ∧ 8 + (maxL + 11) + lo ≤ R.locals) (hcap : cells + mc ≤ R.cells ∧ slots + ms ≤ R.slots) (hls : ls.size = nL) (hst : (rest.map fun v => v.category).sum ≤ 8) (hdg : decode cc pc = .ok (.invokevirtual idx, 3)) (h0 : st0 = As.reverse ++ .ref hm :: rest)
    (kk : ∀ (r : Int32) (mo1 : MO) (H1 : Heap) (locs1 : List Loc), postM r mo1 → va_P D cls (wW cI cZ cL ho hy hp h ht hq n1 n2 u0 hm ma mo1) H1 → va_D A (wW cI cZ cL ho hy hp h ht hq n1 n2 u0 hm ma mo1) → va_S A s.heap H1 locs1 → W p l e R s m args below meth c H1 locs1 (cells + mc) (slots + ms) Q (F0 m (pc + 3) ls (.int r :: rest))) :
    W p l e R s m args below meth c H locs cells slots Q (F0 m pc ls st0) := by
  have hKc := hK.sub (tys' := ty2 cI cZ) [0, 1] rfl
  exact mu_Vi (C := R_Mo) (T := T_Mo) (N := 31) (wr := wO cI cZ cL ho hy hp h ht hq n1 n2 u0) CF hM hP hD hKc hS hA hC hZ [17, 18, 19, 20, 21, 22, 23, 24, 25, 26, 27, 28, 29, 30, 31, 32, 33] [0, 1, 2, 3, 4, 5, 6, 7, 8, 9, 10, 11, 12, 13, 14, 15, 16] rfl rfl (by decide) (by decide) (by decide) 0 6 rfl rfl l1 l2 l3 l4 l5 hd hR hls hcap hst hdg h0 kk
theorem lw_Y (CF : CallFix p m c cc nL s args (x :: LL) own) (hM : cY l y bytes maxL fr lo mc ms D cI cZ sa rk sb hy hp h ht hq n1 n2 u0.2 H.size (.ref hy :: As) (fun r u => r = uR u0.2 ∧ u = u0.2) (fun _ _ => False))
    (hP : va_P D cls (wW cI cZ cL ho hy hp h ht hq n1 n2 u0 hm ma mo) H) (hD : va_D A (wW cI cZ cL ho hy hp h ht hq n1 n2 u0 hm ma mo)) (hK : va_K D cls (ty3 cI cZ cL) s) (hS : va_S A s.heap H locs) (hA : ∀ q, s.heap.size ≤ q → A q) (hC : CX cI sa s) (hZ : ZX rk A s s.heap) (hY : CY sb s)
    (l1 : Cond.methodLink own idx y ∈ LL) (l2 : Cond.instanceMethod y ∈ LL) (l3 : Cond.selects R_Sy y y ∈ LL) (l4 : Cond.initialized y.cls ∈ LL) (l5 : Cond.code y bytes maxL (some .int) ∈ LL)
    (hd : y.cls ≠ "java/lang/invoke/MethodHandle" ∧ y.cls ≠ "java/lang/invoke/VarHandle" ∧ (parseMethodDescriptor y.desc).map (fun d => d.parameters.length) = some As.length)
    (hR : fr + 1 ≤ R.frames ∧ 8 + (maxL + 11) + lo ≤ R.locals) (hcap : cells + mc ≤ R.cells ∧ slots + ms ≤ R.slots) (hls : ls.size = nL) (hst : (rest.map fun v => v.category).sum ≤ 8) (hdg : decode cc pc = .ok (.invokevirtual idx, 3)) (h0 : st0 = As.reverse ++ .ref hy :: rest)
    (kk : ∀ (H1 : Heap) (locs1 : List Loc), va_P D cls (wW cI cZ cL ho hy hp h ht hq n1 n2 u0 hm ma mo) H1 → va_D A (wW cI cZ cL ho hy hp h ht hq n1 n2 u0 hm ma mo) → va_S A s.heap H1 locs1 → W p l e R s m args below meth c H1 locs1 (cells + mc) (slots + ms) Q (F0 m (pc + 3) ls (.int (uR u0.2) :: rest))) :
    W p l e R s m args below meth c H locs cells slots Q (F0 m pc ls st0) := by
  have hPc := hP.sub (ws' := wY cI cZ hy hp h ht hq n1 n2 u0.2) [1, 2, 3, 4, 5, 6, 7, 8, 9, 10, 11, 12, 13, 14, 15, 16] rfl
  have hDc := hD.sub (ws' := wY cI cZ hy hp h ht hq n1 n2 u0.2) [1, 2, 3, 4, 5, 6, 7, 8, 9, 10, 11, 12, 13, 14, 15, 16] (by decide) rfl
  have hKc := hK.sub (tys' := ty2 cI cZ) [0, 1] rfl
  have hF := va_free (wc := wY cI cZ hy hp h ht hq n1 n2 u0.2) hD hS hA [1, 2, 3, 4, 5, 6, 7, 8, 9, 10, 11, 12, 13, 14, 15, 16] rfl
  refine vx_calli (vy_runV (As := As) (rest := rest) CF hM ⟨prY_blind, va_recv hKc hPc (ci := 5) (q0 := 0) rfl rfl, fun U hU hW => ⟨rfl, ⟨by rw [hU], by rw [hU]; exact hPc, va_K.moved hW.alike hKc, hDc.weaken (fun _ _ _ _ => trivial), XX.use hC hZ hS hF hU hW⟩, CY.warm hW hY⟩⟩ l1 l2 l3 l4 l5 hd hR rfl hls h0 (lv_room hst) hdg hcap) hS (fun q _ h => hF q h) hF (fun q _ h => hF q h) (fun E ce q9 u t H1 locs1 ht1 hvm hp1 hB hz hk hS1 hce hcv hcl1 => hB.1.elim) (fun r u t H1 locs1 ht1 hvm hp1 hB hz hk hS1 => ?_)
  obtain ⟨rfl, rfl⟩ := hp1
  obtain ⟨hP1, hK1, hD1⟩ := hB
  rw [ht1] at hP1
  obtain ⟨hP2, hD2⟩ := va_join (wr := (ho, .inl (cL, 1, .inr (.inl u0.1))) :: wM cI cZ hm ma mo) (w1 := wY cI cZ hy hp h ht hq n1 n2 u0.2) hP hD [1, 2, 3, 4, 5, 6, 7, 8, 9, 10, 11, 12, 13, 14, 15, 16] [0, 17, 18, 19, 20, 21, 22, 23, 24, 25, 26, 27, 28, 29, 30, 31, 32, 33] rfl rfl (by decide) (by decide) hk hF hP1 hD1
  exact kk H1 locs1 (hP2.sub (ws' := wW cI cZ cL ho hy hp h ht hq n1 n2 u0 hm ma mo) [0, 18, 19, 20, 21, 22, 23, 24, 25, 26, 27, 28, 29, 30, 31, 32, 33, 1, 2, 3, 4, 5, 6, 7, 8, 9, 10, 11, 12, 13, 14, 15, 16, 17] rfl) (hD2.sub (ws' := wW cI cZ cL ho hy hp h ht hq n1 n2 u0 hm ma mo) [0, 18, 19, 20, 21, 22, 23, 24, 25, 26, 27, 28, 29, 30, 31, 32, 33, 1, 2, 3, 4, 5, 6, 7, 8, 9, 10, 11, 12, 13, 14, 15, 16, 17] (by decide) rfl) hS1
end LWC
