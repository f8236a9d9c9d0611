/-! tools 2: what every contract carries (CX of the tables, ZX of statics that nobody writes); contracts of methods that write, and their calls -/
theorem fm_of {α β : Type} {f : α → Option β} {l : List α} {w : List β} (h : l.map f = w.map some) : l.filterMap f = w := by
  have h1 : l.filterMap f = (l.map f).filterMap id := by rw [List.filterMap_map]; rfl
  rw [h1, h, List.filterMap_map]
  induction w with
  | nil => rfl
  | cons a r ih => simp
def rkF : Nat → Value := fun j => .int (([0, 1, 2, 3, 4, 5, 6, 6, 6, 6, 7, 7, 7, 7, 7, 7, 8, 8, 8, 9, 9, 10, 10, 10] : List Int32).getD j 0)
def CX (cI : ClassId) (sa : Nat) (U : State) : Prop := U.vm.findClass "[I" = some cI ∧ vk_R R_Cu 31 "refused" sa U ∧
  (va_Nw (.declares (Bundle.initS "java/lang/RuntimeException")) U ∧ va_Nw (.declares (Bundle.initS "java/lang/Exception")) U ∧ va_Nw (.declares (Bundle.initS Bundle.tN)) U ∧ va_Nw (.castable "java/lang/IllegalArgumentException" "java/lang/IllegalArgumentException") U) ∧
  (va_Nw (.declares (Bundle.init0 "java/lang/RuntimeException")) U ∧ va_Nw (.declares (Bundle.init0 "java/lang/Exception")) U ∧ va_Nw (.declares (Bundle.init0 Bundle.tN)) U ∧ va_Nw (.castable "java/lang/UnsupportedOperationException" "java/lang/UnsupportedOperationException") U)
theorem CX.warm {cI : ClassId} {sa : Nat} {s U : State} (hW : s.WarmedH U.vm) (h : CX cI sa s) : CX cI sa U :=
  ⟨by rw [hW.alike.findClass]; exact h.1, vk_R.warm hW h.2.1, ⟨va_Nw.warmD hW h.2.2.1.1, va_Nw.warmD hW h.2.2.1.2.1, va_Nw.warmD hW h.2.2.1.2.2.1, va_Nw.warmC hW h.2.2.1.2.2.2⟩,
   ⟨va_Nw.warmD hW h.2.2.2.1, va_Nw.warmD hW h.2.2.2.2.1, va_Nw.warmD hW h.2.2.2.2.2.1, va_Nw.warmC hW h.2.2.2.2.2.2⟩⟩
theorem CX.same {cI : ClassId} {sa : Nat} {u U : State} (hv : u.vm = U.vm) (h : CX cI sa u) : CX cI sa U :=
  ⟨by rw [← hv]; exact h.1, vk_R.same hv.symm h.2.1, ⟨va_Nw.same rfl hv h.2.2.1.1, va_Nw.same rfl hv h.2.2.1.2.1, va_Nw.same rfl hv h.2.2.1.2.2.1, va_Nw.same rfl hv h.2.2.1.2.2.2⟩,
   ⟨va_Nw.same rfl hv h.2.2.2.1, va_Nw.same rfl hv h.2.2.2.2.1, va_Nw.same rfl hv h.2.2.2.2.2.1, va_Nw.same rfl hv h.2.2.2.2.2.2⟩⟩
def ZX (rk : Nat) (A : Nat → Prop) (U : State) (H : Heap) : Prop := vx_Zq Bundle.tN "UNASSIGNED_STACK" Bundle.steD A U H ∧ vx_Zq Bundle.tN "SUPPRESSED_SENTINEL" Bundle.listD A U H ∧ va_Z "SyntaxTree$Parser" "RANKS" "[I" (.ref rk) A U H ∧ va_T .int rk 24 rkF A U H
theorem ZX.moved {rk : Nat} {A : Nat → Prop} {u U : State} {H : Heap} (hvm : u.vm.Alike U.vm) (h : ZX rk A u H) : ZX rk A U H := ⟨vx_Zq.moved hvm h.1, vx_Zq.moved hvm h.2.1, va_Z.moved hvm h.2.2.1, va_T.moved hvm h.2.2.2⟩
theorem ZX.kept {rk : Nat} {A : Nat → Prop} {U : State} {H H1 : Heap} (h : ZX rk A U H) (hq : ∀ a : Nat, a < H.size → ¬ A a → H1[a]? = H[a]?) : ZX rk A U H1 := ⟨vx_Zq.kept h.1 hq, vx_Zq.kept h.2.1 hq, va_Z.kept h.2.2.1 hq, va_T.kept h.2.2.2 hq⟩
theorem ZX.narrow {rk : Nat} {A B : Nat → Prop} {U : State} {H : Heap} (h : ZX rk A U H) (hAB : ∀ q, B q → A q) : ZX rk B U H := ⟨vx_Zq.narrow h.1 hAB, vx_Zq.narrow h.2.1 hAB, va_Z.narrow h.2.2.1 hAB, va_T.narrow h.2.2.2 hAB⟩
def XX (cI : ClassId) (sa rk : Nat) (w : va_W) (sz : Nat) (U : State) : Prop := CX cI sa U ∧ ZX rk (va_A w sz) U U.heap
theorem XX.call {cI : ClassId} {sa rk : Nat} {w : va_W} {sz : Nat} {U : State} {g : JFrame} {mk : MethodId} {a : Array Value} (h : XX cI sa rk w sz U) : XX cI sa rk w sz (U.calling g mk a) := ⟨CX.same rfl h.1, ZX.moved (Vm.Alike.refl U.vm) h.2⟩
theorem XX.use {cI : ClassId} {sa rk : Nat} {A : Nat → Prop} {wc : va_W} {s U : State} {H : Heap} {locs : List Loc} (hC : CX cI sa s) (hZ : ZX rk A s s.heap) (hS : va_S A s.heap H locs) (hF : ∀ q, va_A wc H.size q → A q) (hU : U.heap = H) (hW : s.WarmedH U.vm) : XX cI sa rk wc H.size U :=
  ⟨CX.warm hW hC, by rw [hU]; exact ZX.moved hW.alike ((hZ.kept hS.2.1).narrow hF)⟩
abbrev prM (D : va_G) (cI cZ : ClassId) (sa rk : Nat) (av : List Value) (w : va_W) (sz : Nat) : Array Value → State → Prop :=
  va_Pc av (fun U => U.heap.size = sz ∧ va_P D cls w U.heap ∧ va_K D cls (ty2 cI cZ) U ∧ va_D (fun _ => True) w ∧ XX cI sa rk w sz U)
abbrev wB {S : Type} (D : va_G) (cI cZ : ClassId) (A : Nat → Prop) (w' : S → va_W) (u : S) (t : State) : Prop := va_P D cls (w' u) t.heap ∧ va_K D cls (ty2 cI cZ) t ∧ va_D A (w' u)
/-- the contract of a method that writes and gives nothing back -/
abbrev cMv {S : Type} (l : Launch) (y : MethodName) (cc : ByteArray) (ml fr lo mc ms : Nat) (D : va_G) (cI cZ : ClassId) (sa rk : Nat) (av : List Value) (w : va_W) (sz : Nat) (post : S → Prop) (w' : S → va_W) : Prop :=
  Met l y (wy y cc ml none) { frames := fr, cells := mc, slots := ms, locals := lo } (prM D cI cZ sa rk av w sz) (va_Qv post (wB D cI cZ (va_A w sz) w') (va_A w sz)) mc ms (va_A w sz)
/-- the contract of a method that writes and gives an int (or boolean) back -/
abbrev cMi {S : Type} (l : Launch) (y : MethodName) (cc : ByteArray) (ml : Nat) (rt : FieldType) (fr lo mc ms : Nat) (D : va_G) (cI cZ : ClassId) (sa rk : Nat) (av : List Value) (w : va_W) (sz : Nat) (post : Int32 → S → Prop) (w' : S → va_W) : Prop :=
  Met l y (wy y cc ml (some rt)) { frames := fr, cells := mc, slots := ms, locals := lo } (prM D cI cZ sa rk av w sz) (va_Qi post (wB D cI cZ (va_A w sz) w') (va_A w sz)) mc ms (va_A w sz)
theorem prM_blind {D : va_G} {cI cZ : ClassId} {sa rk : Nat} {av : List Value} {w : va_W} {sz : Nat} : FrameBlind (prM D cI cZ sa rk av w sz) :=
  fun a U g mk q => ⟨q.1, q.2.1, q.2.2.1, va_K.moved (u := U) (U := U.calling g mk a) (Vm.Alike.refl U.vm) q.2.2.2.1, q.2.2.2.2.1, XX.call q.2.2.2.2.2⟩
section TLM
variable {p : Program} {l : Launch} {e : Env} {R : Room} {s : State} {m : MethodId} {args : Array Value} {below : List Frame} {meth : Method} {c : Code} {H : Heap} {locs : List Loc} {cells slots : Nat} {Q : State → Prop}
variable {cc : ByteArray} {pc : Nat} {ls : Array Slot} {rest : List Value}
theorem lv_eqi {x y : Int32} (h : x = y) (k : W p l e R s m args below meth c H locs cells slots Q (F0 m pc ls (.int y :: rest))) : W p l e R s m args below meth c H locs cells slots Q (F0 m pc ls (.int x :: rest)) := by
  subst h; exact k
variable {y : MethodName} {bytes : ByteArray} {maxL fr lo mc ms idx nL : Nat} {rt : FieldType} {D : va_G} {cI cZ : ClassId} {sa rk : Nat} {As : List Value} {b : Nat} {ws wc wr : va_W} {x : Cond} {own C : String} {T : u_T} {N : Nat} {fs : List Value} {st0 : List Value} {A : Nat → Prop} {S : Type} {w' : S → va_W}
theorem mu_Vv {post : S → Prop} (CF : CallFix p m c cc nL s args (x :: LL) own) (hM : cMv l y bytes maxL fr lo mc ms D cI cZ sa rk (.ref b :: As) wc H.size post w')
    (hP : va_P D cls ws H) (hD : va_D A ws) (hK : va_K D cls (ty2 cI cZ) s) (hS : va_S A s.heap H locs) (hA : ∀ q, s.heap.size ≤ q → A q) (hC : CX cI sa s) (hZ : ZX rk A s s.heap)
    (iC iR : List Nat) (h1 : iC.map (fun i => ws[i]?) = wc.map some) (h2 : iR.map (fun i => ws[i]?) = wr.map some) (h3 : va_nd iC = true) (h4 : va_nd iR = true) (h5 : ∀ i ∈ iR, i ∉ iC)
    (q0 ci : Nat) (he : wc[q0]? = some (b, .inr (ci, fs))) (hc : cls[ci]? = some (C, T, N))
    (l1 : Cond.methodLink own idx y ∈ LL) (l2 : Cond.instanceMethod y ∈ LL) (l3 : Cond.selects C y y ∈ LL) (l4 : Cond.initialized C ∈ LL) (l5 : Cond.code y bytes maxL none ∈ LL)
    (hd : y.cls = C ∧ y.cls ≠ "java/lang/invoke/MethodHandle" ∧ y.cls ≠ "java/lang/invoke/VarHandle" ∧ (parseMethodDescriptor y.desc).map (fun d => d.parameters.length) = some As.length)
    (hR : fr + 1 ≤ R.frames ∧ 8 + (maxL + 11) + lo ≤ R.locals) (hls : ls.size = nL) (hcap : cells + mc ≤ R.cells ∧ slots + ms ≤ R.slots) (hst : (rest.map fun v => v.category).sum ≤ 8) (hdg : decode cc pc = .ok (.invokevirtual idx, 3)) (h0 : st0 = As.reverse ++ .ref b :: rest)
    (kk : ∀ (u : S) (H1 : Heap) (locs1 : List Loc), post u → va_P D cls (wr ++ w' u) H1 → va_D A (wr ++ w' u) → va_S A s.heap H1 locs1 → W p l e R s m args below meth c H1 locs1 (cells + mc) (slots + ms) Q (F0 m (pc + 3) ls rest)) : W p l e R s m args below meth c H locs cells slots Q (F0 m pc ls st0) := by
  have hPc := hP.sub iC (fm_of h1)
  have hDc := hD.sub iC h3 h1
  have hF := va_free hD hS hA iC h1
  refine va_callv (va_runV (As := As) (rest := rest) CF hM (cwV As.length CF.2.2.2.2 (gLL ?_) rfl rfl rfl hd hR) ⟨prM_blind, va_recv hK hPc hc he, fun U hU hW => ⟨rfl, by rw [hU], by rw [hU]; exact hPc, va_K.moved hW.alike hK, hDc.weaken (fun _ _ _ _ => trivial), XX.use hC hZ hS hF hU hW⟩⟩ rfl rfl hls h0 (lv_room hst) hdg hcap) hS (fun q _ h => hF q h) hF (fun u t H1 locs1 ht hvm hw hB hz1 hk1 hS1 => ?_)
  · intro w hw
    simp only [wsV, wy, List.cons_append, List.nil_append, List.mem_cons] at hw
    rcases hw with rfl | rfl | rfl | rfl | rfl | hw
    · exact l1
    · exact l2
    · exact l3
    · exact l4
    · exact l5
    · exact hw
  · obtain ⟨hP1, hK1, hD1⟩ := hB
    rw [ht] at hP1
    obtain ⟨hP2, hD2⟩ := va_join (wr := wr) (w1 := w' u) hP hD iC iR h1 h2 h4 h5 hk1 hF hP1 hD1
    exact kk u H1 locs1 hw hP2 hD2 hS1
theorem mu_Vi {post : Int32 → S → Prop} (CF : CallFix p m c cc nL s args (x :: LL) own) (hM : cMi l y bytes maxL rt fr lo mc ms D cI cZ sa rk (.ref b :: As) wc H.size post w')
    (hP : va_P D cls ws H) (hD : va_D A ws) (hK : va_K D cls (ty2 cI cZ) s) (hS : va_S A s.heap H locs) (hA : ∀ q, s.heap.size ≤ q → A q) (hC : CX cI sa s) (hZ : ZX rk A s s.heap)
    (iC iR : List Nat) (h1 : iC.map (fun i => ws[i]?) = wc.map some) (h2 : iR.map (fun i => ws[i]?) = wr.map some) (h3 : va_nd iC = true) (h4 : va_nd iR = true) (h5 : ∀ i ∈ iR, i ∉ iC)
    (q0 ci : Nat) (he : wc[q0]? = some (b, .inr (ci, fs))) (hc : cls[ci]? = some (C, T, N))
    (l1 : Cond.methodLink own idx y ∈ LL) (l2 : Cond.instanceMethod y ∈ LL) (l3 : Cond.selects C y y ∈ LL) (l4 : Cond.initialized C ∈ LL) (l5 : Cond.code y bytes maxL (some rt) ∈ LL)
    (hd : y.cls = C ∧ y.cls ≠ "java/lang/invoke/MethodHandle" ∧ y.cls ≠ "java/lang/invoke/VarHandle" ∧ (parseMethodDescriptor y.desc).map (fun d => d.parameters.length) = some As.length)
    (hR : fr + 1 ≤ R.frames ∧ 8 + (maxL + 11) + lo ≤ R.locals) (hls : ls.size = nL) (hcap : cells + mc ≤ R.cells ∧ slots + ms ≤ R.slots) (hst : (rest.map fun v => v.category).sum ≤ 8) (hdg : decode cc pc = .ok (.invokevirtual idx, 3)) (h0 : st0 = As.reverse ++ .ref b :: rest)
    (kk : ∀ (r : Int32) (u : S) (H1 : Heap) (locs1 : List Loc), post r u → va_P D cls (wr ++ w' u) H1 → va_D A (wr ++ w' u) → va_S A s.heap H1 locs1 → W p l e R s m args below meth c H1 locs1 (cells + mc) (slots + ms) Q (F0 m (pc + 3) ls (.int r :: rest))) : W p l e R s m args below meth c H locs cells slots Q (F0 m pc ls st0) := by
  have hPc := hP.sub iC (fm_of h1)
  have hDc := hD.sub iC h3 h1
  have hF := va_free hD hS hA iC h1
  refine va_calli (va_runV (As := As) (rest := rest) CF hM (cwV As.length CF.2.2.2.2 (gLL ?_) rfl rfl rfl hd hR) ⟨prM_blind, va_recv hK hPc hc he, fun U hU hW => ⟨rfl, by rw [hU], by rw [hU]; exact hPc, va_K.moved hW.alike hK, hDc.weaken (fun _ _ _ _ => trivial), XX.use hC hZ hS hF hU hW⟩⟩ rfl rfl hls h0 (lv_room hst) hdg hcap) hS (fun q _ h => hF q h) hF (fun r u t H1 locs1 ht hvm hw hB hz1 hk1 hS1 => ?_)
  · intro w hw
    simp only [wsV, wy, List.cons_append, List.nil_append, List.mem_cons] at hw
    rcases hw with rfl | rfl | rfl | rfl | rfl | hw
    · exact l1
    · exact l2
    · exact l3
    · exact l4
    · exact l5
    · exact hw
  · obtain ⟨hP1, hK1, hD1⟩ := hB
    rw [ht] at hP1
    obtain ⟨hP2, hD2⟩ := va_join (wr := wr) (w1 := w' u) hP hD iC iR h1 h2 h4 h5 hk1 hF hP1 hD1
    exact kk r u H1 locs1 hw hP2 hD2 hS1
end TLM
