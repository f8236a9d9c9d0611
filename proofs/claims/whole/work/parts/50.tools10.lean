/-! tools 10: the reference's contracts: a method ends with an answer and a state, or throws with a state -/
abbrev Rm : Type := Option (Sum MO (Int32 × MO))
def bndM (x : Rm) (k : Int32 → MO → Rm) : Rm := match x with
  | none => none
  | some (.inl q) => some (.inl q)
  | some (.inr q) => k q.1 q.2
theorem bndM_n {x : Rm} {k : Int32 → MO → Rm} (h : x = none) : bndM x k = none := by rw [h]; rfl
theorem bndM_l {x : Rm} {k : Int32 → MO → Rm} {q : MO} (h : x = some (.inl q)) : bndM x k = some (.inl q) := by rw [h]; rfl
theorem bndM_r {x : Rm} {k : Int32 → MO → Rm} {r : Int32} {s : MO} (h : x = some (.inr (r, s))) : bndM x k = k r s := by rw [h]; rfl
def mcM : Rm → Nat
  | some (.inl _) => 1
  | _ => 0
def msM : Rm → Nat
  | some (.inl _) => 6
  | _ => 0
abbrev UOE : String := "java/lang/UnsupportedOperationException"
abbrev xM (D : va_G) (cI cZ : ClassId) (hm : Nat) (ma : Nat → Nat) (g : Rm) (A : Nat → Prop) : String → State → State → Prop :=
  vx_X (fun u : MO => g = some (.inl u)) (fun E u t => E = UOE ∧ wB D cI cZ A (wM cI cZ hm ma) u t) A
abbrev cXi (l : Launch) (y : MethodName) (cc : ByteArray) (ml : Nat) (rt : FieldType) (fr lo : Nat) (D : va_G) (cI cZ : ClassId) (sa rk hm : Nat) (ma : Nat → Nat) (mo : MO) (sz : Nat) (av : List Value) (g : Rm) : Prop :=
  vx_Met l y (wy y cc ml (some rt)) { frames := fr, cells := 1, slots := 6, locals := lo } (prM D cI cZ sa rk av (wM cI cZ hm ma mo) sz)
    (va_Qi (fun r (u : MO) => g = some (.inr (r, u))) (wB D cI cZ (va_A (wM cI cZ hm ma mo) sz) (wM cI cZ hm ma)) (va_A (wM cI cZ hm ma mo) sz))
    (xM D cI cZ hm ma g (va_A (wM cI cZ hm ma mo) sz)) (mcM g) (msM g) (va_A (wM cI cZ hm ma mo) sz)
abbrev cXv (l : Launch) (y : MethodName) (cc : ByteArray) (ml : Nat) (fr lo : Nat) (D : va_G) (cI cZ : ClassId) (sa rk hm : Nat) (ma : Nat → Nat) (mo : MO) (sz : Nat) (av : List Value) (g : Rm) : Prop :=
  vx_Met l y (wy y cc ml none) { frames := fr, cells := 1, slots := 6, locals := lo } (prM D cI cZ sa rk av (wM cI cZ hm ma mo) sz)
    (va_Qv (fun u : MO => g = some (.inr (0, u))) (wB D cI cZ (va_A (wM cI cZ hm ma mo) sz) (wM cI cZ hm ma)) (va_A (wM cI cZ hm ma mo) sz))
    (xM D cI cZ hm ma g (va_A (wM cI cZ hm ma mo) sz)) (mcM g) (msM g) (va_A (wM cI cZ hm ma mo) sz)
section TLRM
variable {p : Program} {l : Launch} {e : Env} {R : Room} {s : State} {m : MethodId} {args : Array Value} {below : List Frame} {meth : Method} {c : Code} {H : Heap} {locs : List Loc}
variable {cc bytes : ByteArray} {pc maxL fr lo idx nL : Nat} {ls : Array Slot} {rest st0 As : List Value} {x : Cond} {own : String} {y : MethodName} {rt : FieldType} {a : Array Value}
variable {D : va_G} {cI cZ : ClassId} {sa rk hm : Nat} {ma : Nat → Nat} {mo : MO} {g G : Rm} {A : Nat → Prop} {Qc : Array Value → State → Outcome → State → Prop}
theorem mr_i (hr : vx_Run p l e R s m args below meth c H locs 0 0 (mcM g) (msM g) (F0 m pc ls st0) rest
      (va_Qi (fun r (u : MO) => g = some (.inr (r, u))) (wB D cI cZ (va_A (wM cI cZ hm ma mo) H.size) (wM cI cZ hm ma)) (va_A (wM cI cZ hm ma mo) H.size) a)
      (xM D cI cZ hm ma g (va_A (wM cI cZ hm ma mo) H.size)) (va_A (wM cI cZ hm ma mo) H.size))
    (hS : va_S A s.heap H locs) (hF : ∀ q, va_A (wM cI cZ hm ma mo) H.size q → A q) (hnt : ∀ x ∈ c.exceptionTable.toList, False) (hlocks : meth.locks = false) (hX : ∀ q, g = some (.inl q) → G = some (.inl q))
    (kk : ∀ (r : Int32) (mo1 : MO) (H1 : Heap) (locs1 : List Loc), g = some (.inr (r, mo1)) → va_P D cls (wM cI cZ hm ma mo1) H1 → va_D A (wM cI cZ hm ma mo1) → va_S A s.heap H1 locs1 →
      W p l e R s m args below meth c H1 locs1 0 0 (vx_MQ below Qc (xM D cI cZ hm ma G A) args s (mcM G) (msM G) A) (F0 m (pc + 3) ls (.int r :: rest))) :
    W p l e R s m args below meth c H locs 0 0 (vx_MQ below Qc (xM D cI cZ hm ma G A) args s (mcM G) (msM G) A) (F0 m pc ls st0) := by
  refine vx_calli hr hS (fun q _ h => hF q h) hF (fun q _ h => hF q h) (fun E ce q9 u t H1 locs1 ht1 hvm hp1 hB hz hk hS1 hce hcv hcl1 => ?_) (fun r u t H1 locs1 ht1 hvm hp1 hB hz hk hS1 => ?_)
  · obtain ⟨hE, hP1, hK1, hD1⟩ := hB
    have hG := hX _ hp1
    subst hE
    refine vx_out (fun x hx => (hnt x hx).elim) hlocks hce hcv hcl1 (fun t2 h2 hvm2 => ⟨u, hG, ⟨rfl, by rw [h2, ← ht1]; exact hP1, va_K.moved (hvm.symm.trans hvm2) hK1, hD1.weaken (fun _ _ _ z => hF _ z)⟩, by rw [h2]; exact hS1.1, fun q h1 h2' => by rw [h2]; exact hS1.2.1 q h1 h2'⟩) hS1.2.2 ?_ ?_
    · rw [hG, hp1]; exact Nat.le_of_eq (Nat.zero_add _)
    · rw [hG, hp1]; exact Nat.le_of_eq (Nat.zero_add _)
  · obtain ⟨hP1, hK1, hD1⟩ := hB
    rw [ht1] at hP1
    have k := kk r u H1 locs1 hp1 hP1 (hD1.weaken (fun _ _ _ z => hF _ z)) hS1
    have m1 : mcM g = 0 := by rw [hp1]; rfl
    have m2 : msM g = 0 := by rw [hp1]; rfl
    rw [m1, m2]; exact k
theorem mr_v (hr : vx_Run p l e R s m args below meth c H locs 0 0 (mcM g) (msM g) (F0 m pc ls st0) rest
      (va_Qv (fun u : MO => g = some (.inr (0, u))) (wB D cI cZ (va_A (wM cI cZ hm ma mo) H.size) (wM cI cZ hm ma)) (va_A (wM cI cZ hm ma mo) H.size) a)
      (xM D cI cZ hm ma g (va_A (wM cI cZ hm ma mo) H.size)) (va_A (wM cI cZ hm ma mo) H.size))
    (hS : va_S A s.heap H locs) (hF : ∀ q, va_A (wM cI cZ hm ma mo) H.size q → A q) (hnt : ∀ x ∈ c.exceptionTable.toList, False) (hlocks : meth.locks = false) (hX : ∀ q, g = some (.inl q) → G = some (.inl q))
    (kk : ∀ (mo1 : MO) (H1 : Heap) (locs1 : List Loc), g = some (.inr (0, mo1)) → va_P D cls (wM cI cZ hm ma mo1) H1 → va_D A (wM cI cZ hm ma mo1) → va_S A s.heap H1 locs1 →
      W p l e R s m args below meth c H1 locs1 0 0 (vx_MQ below Qc (xM D cI cZ hm ma G A) args s (mcM G) (msM G) A) (F0 m (pc + 3) ls rest)) :
    W p l e R s m args below meth c H locs 0 0 (vx_MQ below Qc (xM D cI cZ hm ma G A) args s (mcM G) (msM G) A) (F0 m pc ls st0) := by
  refine vx_callv hr hS (fun q _ h => hF q h) hF (fun q _ h => hF q h) (fun E ce q9 u t H1 locs1 ht1 hvm hp1 hB hz hk hS1 hce hcv hcl1 => ?_) (fun u t H1 locs1 ht1 hvm hp1 hB hz hk hS1 => ?_)
  · obtain ⟨hE, hP1, hK1, hD1⟩ := hB
    have hG := hX _ hp1
    subst hE
    refine vx_out (fun x hx => (hnt x hx).elim) hlocks hce hcv hcl1 (fun t2 h2 hvm2 => ⟨u, hG, ⟨rfl, by rw [h2, ← ht1]; exact hP1, va_K.moved (hvm.symm.trans hvm2) hK1, hD1.weaken (fun _ _ _ z => hF _ z)⟩, by rw [h2]; exact hS1.1, fun q h1 h2' => by rw [h2]; exact hS1.2.1 q h1 h2'⟩) hS1.2.2 ?_ ?_
    · rw [hG, hp1]; exact Nat.le_of_eq (Nat.zero_add _)
    · rw [hG, hp1]; exact Nat.le_of_eq (Nat.zero_add _)
  · obtain ⟨hP1, hK1, hD1⟩ := hB
    rw [ht1] at hP1
    have k := kk u H1 locs1 hp1 hP1 (hD1.weaken (fun _ _ _ z => hF _ z)) hS1
    have m1 : mcM g = 0 := by rw [hp1]; rfl
    have m2 : msM g = 0 := by rw [hp1]; rfl
    rw [m1, m2]; exact k
theorem mr_Vi (CF : CallFix p m c cc nL s args (x :: LL) own) (hM : cXi l y bytes maxL rt fr lo D cI cZ sa rk hm ma mo H.size (.ref hm :: As) g)
    (hP : va_P D cls (wM cI cZ hm ma mo) H) (hD : va_D A (wM cI cZ hm ma mo)) (hK : va_K D cls (ty2 cI cZ) s) (hS : va_S A s.heap H locs) (hA : ∀ q, s.heap.size ≤ q → A q) (hC : CX cI sa s) (hZ : ZX rk A s s.heap) (hnt : ∀ x ∈ c.exceptionTable.toList, False) (hlocks : meth.locks = false)
    (l1 : Cond.methodLink own idx y ∈ LL) (l2 : Cond.instanceMethod y ∈ LL) (l3 : Cond.selects R_Mo y y ∈ LL) (l4 : Cond.initialized y.cls ∈ LL) (l5 : Cond.code y bytes maxL (some rt) ∈ LL)
    (hd : y.cls ≠ "java/lang/invoke/MethodHandle" ∧ y.cls ≠ "java/lang/invoke/VarHandle" ∧ (parseMethodDescriptor y.desc).map (fun d => d.parameters.length) = some As.length)
    (hR : fr + 1 ≤ R.frames ∧ 8 + (maxL + 11) + lo ≤ R.locals) (hRc : R.cells = 1) (hRs : R.slots = 6) (hls : ls.size = nL) (hst : (rest.map fun v => v.category).sum ≤ 8) (hdg : decode cc pc = .ok (.invokevirtual idx, 3)) (h0 : st0 = As.reverse ++ .ref hm :: rest)
    (hX : ∀ q, g = some (.inl q) → G = some (.inl q))
    (kk : ∀ (r : Int32) (mo1 : MO) (H1 : Heap) (locs1 : List Loc), g = some (.inr (r, mo1)) → va_P D cls (wM cI cZ hm ma mo1) H1 → va_D A (wM cI cZ hm ma mo1) → va_S A s.heap H1 locs1 →
      W p l e R s m args below meth c H1 locs1 0 0 (vx_MQ below Qc (xM D cI cZ hm ma G A) args s (mcM G) (msM G) A) (F0 m (pc + 3) ls (.int r :: rest))) :
    W p l e R s m args below meth c H locs 0 0 (vx_MQ below Qc (xM D cI cZ hm ma G A) args s (mcM G) (msM G) A) (F0 m pc ls st0) := by
  have hF := va_free (wc := wM cI cZ hm ma mo) hD hS hA [0, 1, 2, 3, 4, 5, 6, 7, 8, 9, 10, 11, 12, 13, 14, 15, 16] rfl
  exact mr_i (vy_runV (As := As) (rest := rest) CF hM ⟨prM_blind, va_recv hK hP (ci := 6) (q0 := 0) rfl rfl, fun U hU hW => ⟨rfl, by rw [hU], by rw [hU]; exact hP, va_K.moved hW.alike hK, hD.weaken (fun _ _ _ _ => trivial), XX.use hC hZ hS hF hU hW⟩⟩ l1 l2 l3 l4 l5 hd hR rfl hls h0 (lv_room hst) hdg ⟨by rw [hRc]; exact Nat.le_of_eq (Nat.zero_add _), by rw [hRs]; exact Nat.le_of_eq (Nat.zero_add _)⟩) hS hF hnt hlocks hX kk
theorem mr_Vv (CF : CallFix p m c cc nL s args (x :: LL) own) (hM : cXv l y bytes maxL fr lo D cI cZ sa rk hm ma mo H.size (.ref hm :: As) g)
    (hP : va_P D cls (wM cI cZ hm ma mo) H) (hD : va_D A (wM cI cZ hm ma mo)) (hK : va_K D cls (ty2 cI cZ) s) (hS : va_S A s.heap H locs) (hA : ∀ q, s.heap.size ≤ q → A q) (hC : CX cI sa s) (hZ : ZX rk A s s.heap) (hnt : ∀ x ∈ c.exceptionTable.toList, False) (hlocks : meth.locks = false)
    (l1 : Cond.methodLink own idx y ∈ LL) (l2 : Cond.instanceMethod y ∈ LL) (l3 : Cond.selects R_Mo y y ∈ LL) (l4 : Cond.initialized y.cls ∈ LL) (l5 : Cond.code y bytes maxL none ∈ LL)
    (hd : y.cls ≠ "java/lang/invoke/MethodHandle" ∧ y.cls ≠ "java/lang/invoke/VarHandle" ∧ (parseMethodDescriptor y.desc).map (fun d => d.parameters.length) = some As.length)
    (hR : fr + 1 ≤ R.frames ∧ 8 + (maxL + 11) + lo ≤ R.locals) (hRc : R.cells = 1) (hRs : R.slots = 6) (hls : ls.size = nL) (hst : (rest.map fun v => v.category).sum ≤ 8) (hdg : decode cc pc = .ok (.invokevirtual idx, 3)) (h0 : st0 = As.reverse ++ .ref hm :: rest)
    (hX : ∀ q, g = some (.inl q) → G = some (.inl q))
    (kk : ∀ (mo1 : MO) (H1 : Heap) (locs1 : List Loc), g = some (.inr (0, mo1)) → va_P D cls (wM cI cZ hm ma mo1) H1 → va_D A (wM cI cZ hm ma mo1) → va_S A s.heap H1 locs1 →
      W p l e R s m args below meth c H1 locs1 0 0 (vx_MQ below Qc (xM D cI cZ hm ma G A) args s (mcM G) (msM G) A) (F0 m (pc + 3) ls rest)) :
    W p l e R s m args below meth c H locs 0 0 (vx_MQ below Qc (xM D cI cZ hm ma G A) args s (mcM G) (msM G) A) (F0 m pc ls st0) := by
  have hF := va_free (wc := wM cI cZ hm ma mo) hD hS hA [0, 1, 2, 3, 4, 5, 6, 7, 8, 9, 10, 11, 12, 13, 14, 15, 16] rfl
  exact mr_v (vy_runV (As := As) (rest := rest) CF hM ⟨prM_blind, va_recv hK hP (ci := 6) (q0 := 0) rfl rfl, fun U hU hW => ⟨rfl, by rw [hU], by rw [hU]; exact hP, va_K.moved hW.alike hK, hD.weaken (fun _ _ _ _ => trivial), XX.use hC hZ hS hF hU hW⟩⟩ l1 l2 l3 l4 l5 hd hR rfl hls h0 (lv_room hst) hdg ⟨by rw [hRc]; exact Nat.le_of_eq (Nat.zero_add _), by rw [hRs]; exact Nat.le_of_eq (Nat.zero_add _)⟩) hS hF hnt hlocks hX kk
theorem mr_Si (CF : CallFix p m c cc nL s args (x :: LL) own) (hM : cXi l y bytes maxL rt fr lo D cI cZ sa rk hm ma mo H.size As g)
    (hP : va_P D cls (wM cI cZ hm ma mo) H) (hD : va_D A (wM cI cZ hm ma mo)) (hK : va_K D cls (ty2 cI cZ) s) (hS : va_S A s.heap H locs) (hA : ∀ q, s.heap.size ≤ q → A q) (hC : CX cI sa s) (hZ : ZX rk A s s.heap) (hnt : ∀ x ∈ c.exceptionTable.toList, False) (hlocks : meth.locks = false)
    (l1 : Cond.methodLink own idx y ∈ LL) (l2 : Cond.static y ∈ LL) (l4 : Cond.initialized y.cls ∈ LL) (l5 : Cond.code y bytes maxL (some rt) ∈ LL)
    (hd : y.cls ≠ "java/lang/invoke/MethodHandle" ∧ y.cls ≠ "java/lang/invoke/VarHandle" ∧ (parseMethodDescriptor y.desc).map (fun d => d.parameters.length) = some As.length)
    (hR : fr + 1 ≤ R.frames ∧ 8 + (maxL + 11) + lo ≤ R.locals) (hRc : R.cells = 1) (hRs : R.slots = 6) (hls : ls.size = nL) (hst : (rest.map fun v => v.category).sum ≤ 8) (hdg : decode cc pc = .ok (.invokestatic idx, 3)) (h0 : st0 = As.reverse ++ rest)
    (hX : ∀ q, g = some (.inl q) → G = some (.inl q))
    (kk : ∀ (r : Int32) (mo1 : MO) (H1 : Heap) (locs1 : List Loc), g = some (.inr (r, mo1)) → va_P D cls (wM cI cZ hm ma mo1) H1 → va_D A (wM cI cZ hm ma mo1) → va_S A s.heap H1 locs1 →
      W p l e R s m args below meth c H1 locs1 0 0 (vx_MQ below Qc (xM D cI cZ hm ma G A) args s (mcM G) (msM G) A) (F0 m (pc + 3) ls (.int r :: rest))) :
    W p l e R s m args below meth c H locs 0 0 (vx_MQ below Qc (xM D cI cZ hm ma G A) args s (mcM G) (msM G) A) (F0 m pc ls st0) := by
  have hF := va_free (wc := wM cI cZ hm ma mo) hD hS hA [0, 1, 2, 3, 4, 5, 6, 7, 8, 9, 10, 11, 12, 13, 14, 15, 16] rfl
  exact mr_i (vy_runS (As := As) (rest := rest) CF hM ⟨prM_blind, fun U hU hW => ⟨rfl, by rw [hU], by rw [hU]; exact hP, va_K.moved hW.alike hK, hD.weaken (fun _ _ _ _ => trivial), XX.use hC hZ hS hF hU hW⟩⟩ l1 l2 l4 l5 hd hR rfl hls h0 (lv_room hst) hdg ⟨by rw [hRc]; exact Nat.le_of_eq (Nat.zero_add _), by rw [hRs]; exact Nat.le_of_eq (Nat.zero_add _)⟩) hS hF hnt hlocks hX kk
theorem mr_Sv (CF : CallFix p m c cc nL s args (x :: LL) own) (hM : cXv l y bytes maxL fr lo D cI cZ sa rk hm ma mo H.size As g)
    (hP : va_P D cls (wM cI cZ hm ma mo) H) (hD : va_D A (wM cI cZ hm ma mo)) (hK : va_K D cls (ty2 cI cZ) s) (hS : va_S A s.heap H locs) (hA : ∀ q, s.heap.size ≤ q → A q) (hC : CX cI sa s) (hZ : ZX rk A s s.heap) (hnt : ∀ x ∈ c.exceptionTable.toList, False) (hlocks : meth.locks = false)
    (l1 : Cond.methodLink own idx y ∈ LL) (l2 : Cond.static y ∈ LL) (l4 : Cond.initialized y.cls ∈ LL) (l5 : Cond.code y bytes maxL none ∈ LL)
    (hd : y.cls ≠ "java/lang/invoke/MethodHandle" ∧ y.cls ≠ "java/lang/invoke/VarHandle" ∧ (parseMethodDescriptor y.desc).map (fun d => d.parameters.length) = some As.length)
    (hR : fr + 1 ≤ R.frames ∧ 8 + (maxL + 11) + lo ≤ R.locals) (hRc : R.cells = 1) (hRs : R.slots = 6) (hls : ls.size = nL) (hst : (rest.map fun v => v.category).sum ≤ 8) (hdg : decode cc pc = .ok (.invokestatic idx, 3)) (h0 : st0 = As.reverse ++ rest)
    (hX : ∀ q, g = some (.inl q) → G = some (.inl q))
    (kk : ∀ (mo1 : MO) (H1 : Heap) (locs1 : List Loc), g = some (.inr (0, mo1)) → va_P D cls (wM cI cZ hm ma mo1) H1 → va_D A (wM cI cZ hm ma mo1) → va_S A s.heap H1 locs1 →
      W p l e R s m args below meth c H1 locs1 0 0 (vx_MQ below Qc (xM D cI cZ hm ma G A) args s (mcM G) (msM G) A) (F0 m (pc + 3) ls rest)) :
    W p l e R s m args below meth c H locs 0 0 (vx_MQ below Qc (xM D cI cZ hm ma G A) args s (mcM G) (msM G) A) (F0 m pc ls st0) := by
  have hF := va_free (wc := wM cI cZ hm ma mo) hD hS hA [0, 1, 2, 3, 4, 5, 6, 7, 8, 9, 10, 11, 12, 13, 14, 15, 16] rfl
  exact mr_v (vy_runS (As := As) (rest := rest) CF hM ⟨prM_blind, fun U hU hW => ⟨rfl, by rw [hU], by rw [hU]; exact hP, va_K.moved hW.alike hK, hD.weaken (fun _ _ _ _ => trivial), XX.use hC hZ hS hF hU hW⟩⟩ l1 l2 l4 l5 hd hR rfl hls h0 (lv_room hst) hdg ⟨by rw [hRc]; exact Nat.le_of_eq (Nat.zero_add _), by rw [hRs]; exact Nat.le_of_eq (Nat.zero_add _)⟩) hS hF hnt hlocks hX kk
theorem mr_iret {v : Int32} (hx : p.tables.exec = Jvm.exec) (hb : c.code = cc) (hr : meth.sig.returnType = some .int) (hlocks : meth.locks = false) (hK : va_K D cls (ty2 cI cZ) s) (hP : va_P D cls (wM cI cZ hm ma mo) H) (hD : va_D A (wM cI cZ hm ma mo)) (hS : va_S A s.heap H locs) (hG : G = some (.inr (v, mo))) (hdg : decode cc pc = .ok (.ireturn, 1)) :
    W p l e R s m args below meth c H locs 0 0 (vx_MQ below (va_Qi (fun r (u : MO) => G = some (.inr (r, u))) (wB D cI cZ A (wM cI cZ hm ma)) A) (xM D cI cZ hm ma G A) args s (mcM G) (msM G) A) (F0 m pc ls [.int v]) := by
  refine vx_ret ?_
  refine W.widen (k := mcM G) (n := msM G) (Nat.zero_le _) (Nat.zero_le _) ?_
  exact W.iret hx hb hr (fun t ht hW => ⟨⟨v, mo, rfl, hG, by rw [ht]; exact hP, va_K.moved hW.alike hK, hD⟩, hS.F ht⟩) hS.2.2 hdg
theorem mr_zret {v : Int32} (hx : p.tables.exec = Jvm.exec) (hb : c.code = cc) (hr : meth.sig.returnType = some .boolean) (hn : narrow .boolean (.int v) = .int v) (hlocks : meth.locks = false) (hK : va_K D cls (ty2 cI cZ) s) (hP : va_P D cls (wM cI cZ hm ma mo) H) (hD : va_D A (wM cI cZ hm ma mo)) (hS : va_S A s.heap H locs) (hG : G = some (.inr (v, mo))) (hdg : decode cc pc = .ok (.ireturn, 1)) :
    W p l e R s m args below meth c H locs 0 0 (vx_MQ below (va_Qi (fun r (u : MO) => G = some (.inr (r, u))) (wB D cI cZ A (wM cI cZ hm ma)) A) (xM D cI cZ hm ma G A) args s (mcM G) (msM G) A) (F0 m pc ls [.int v]) := by
  refine vx_ret ?_
  refine W.widen (k := mcM G) (n := msM G) (Nat.zero_le _) (Nat.zero_le _) ?_
  exact W.zret hx hb hr hn (fun t ht hW => ⟨⟨v, mo, rfl, hG, by rw [ht]; exact hP, va_K.moved hW.alike hK, hD⟩, hS.F ht⟩) hS.2.2 hdg
theorem mr_vret (hx : p.tables.exec = Jvm.exec) (hb : c.code = cc) (hr : meth.sig.returnType = none) (hlocks : meth.locks = false) (hK : va_K D cls (ty2 cI cZ) s) (hP : va_P D cls (wM cI cZ hm ma mo) H) (hD : va_D A (wM cI cZ hm ma mo)) (hS : va_S A s.heap H locs) (hG : G = some (.inr (0, mo))) (hdg : decode cc pc = .ok (.return_, 1)) :
    W p l e R s m args below meth c H locs 0 0 (vx_MQ below (va_Qv (fun u : MO => G = some (.inr (0, u))) (wB D cI cZ A (wM cI cZ hm ma)) A) (xM D cI cZ hm ma G A) args s (mcM G) (msM G) A) (F0 m pc ls []) := by
  refine vx_ret ?_
  refine W.widen (k := mcM G) (n := msM G) (Nat.zero_le _) (Nat.zero_le _) ?_
  exact W.vret hx hb hr (fun t ht hW => ⟨⟨mo, rfl, hG, by rw [ht]; exact hP, va_K.moved hW.alike hK, hD⟩, hS.F ht⟩) hS.2.2 hdg
end TLRM
def f_Mo_refuse (mo : MO) (k : Int32) : Rm := some (.inl (s_place mo k))
theorem thrM_in : ∀ w ∈ (vx_at0 R_Mo 83 UOE ["java/lang/RuntimeException", "java/lang/Exception"]).filter goodWord, w ∈ LL := fun w hw => List.mem_filter.mpr ⟨(by decide +kernel : ∀ w ∈ (vx_at0 R_Mo 83 UOE ["java/lang/RuntimeException", "java/lang/Exception"]).filter goodWord, w ∈ lw_tbl) w hw, (List.mem_filter.mp hw).2⟩
set_option maxRecDepth 100000 in
set_option maxHeartbeats 4000000 in
theorem m_Mo_refuse (l : Launch) (hlt : l.stackTraces = false) (dC : Nat → ClassId) (dI : Nat → Nat → Nat) (cI cZ : ClassId) (sa rk hm : Nat) (ma : Nat → Nat) (mo : MO) (sz : Nat) (k : Int32) : cXv l y_Mo_refuse c_Mo_refuse 2 6 81 (dC, dI) cI cZ sa rk hm ma mo sz [.ref hm, .int k] (f_Mo_refuse mo k) := by
  refine vx_ofW (cc := c_Mo_refuse) (maxL := 2) (ret := none) (by decide) rfl ?_
  intro p e s m args below meth c s₁ B hml hnt hv
  obtain ⟨rfl, hsz, hP, hK, hD0, hC, hZ⟩ := hv
  have hx := B.exec
  have hb := B.bytes
  have hr := B.returns
  have hts0 := atoms_spec (ws := wy y_Mo_refuse c_Mo_refuse 2 none) B.pre
  have hts := htsL hts0
  have hown : s.vm.findClass R_Mo = some m.cls := findClass_of_methodNamed B.named
  have hlocks := B.notSynchronized
  subst hsz
  have hD := hD0.self (sz := s.heap.size)
  generalize hAe : va_A (wM cI cZ hm ma mo) s.heap.size = A at hD hZ ⊢
  have hA : ∀ q : Nat, s.heap.size ≤ q → A q := fun q h => by rw [← hAe]; exact Or.inr h
  have hS : va_S A s.heap s.heap [] := va_S.rf
  have hl := lv_entry ([.ref hm, .int k]) (n := 2) (Nat.le_of_ble_eq_true rfl)
  rw [lg_entry_eq]
  generalize (lg_sl ([.ref hm, .int k]) ++ List.replicate (2 - (lg_sl ([.ref hm, .int k])).length) Slot.unset).toArray = ls at hl ⊢
  have hl : lv_has ls 2 [(0, .ref hm), (1, .int k)] := hl
  refine lv_aload_n hx hb d_Mo_refuse_0 rfl (lv_at hl 0 rfl) ?_
  refine lv_iload_n hx hb d_Mo_refuse_1 rfl (lv_at hl 1 rfl) ?_
  refine va_put (D := (dC, dI)) (ci := 6) (v := .int k) (ty := .int) (C := R_Mo) (T := T_Mo) (N := 31) hx hb hts u_Mo ty_Mo tk_Mo nm_Mo hown hK hP hD hS 0 rfl rfl 7 (by decide) (hts _ L_928) (fun _ h9 => h9) rfl (by decide +kernel) rfl rfl (Nat.le_of_ble_eq_true rfl) d_Mo_refuse_2 (fun H locs hP hD hS => ?_)
  have hP : va_P (dC, dI) cls (wM cI cZ hm ma (s_place mo k)) H := hP
  have hD : va_D A (wM cI cZ hm ma (s_place mo k)) := hD
  refine vx_throw0 hx hb hlt (own := R_Mo) (cls := UOE) (names := ["java/lang/RuntimeException", "java/lang/Exception"]) (ik := 81) (ic := 83) (A := A) hown (by decide +kernel) (by decide +kernel) (hts _ L_1041) (hts _ L_99) ?_ (by decide +kernel) hZ.1 hZ.2.1 hS (hl.1.trans hml.symm) d_Mo_refuse_5 d_Mo_refuse_8 d_Mo_refuse_9 d_Mo_refuse_12 (fun x hx => (hnt x hx).elim) (by show 2 + 3 < 6; decide) (by show 0 + (13 * (2 + 1) + 42) ≤ 81; decide) (by show 0 + 1 ≤ 1; decide) (by show 0 + 6 ≤ 6; decide) hlocks ?_ hS.2.2 (by show 0 + 1 ≤ 1; decide) (by show 0 + 6 ≤ 6; decide)
  · exact vx_hat (L := vx_at0 R_Mo 83 UOE ["java/lang/RuntimeException", "java/lang/Exception"]) (B := [.declares (Bundle.init0 "java/lang/RuntimeException"), .declares (Bundle.init0 "java/lang/Exception"), .declares (Bundle.init0 Bundle.tN), .castable UOE UOE]) (fun w hw => hts w (thrM_in w hw)) (by decide +kernel) (vx_c (va_Nw.use rfl hC.2.2.2.1) (vx_c (va_Nw.use rfl hC.2.2.2.2.1) (vx_c (va_Nw.use rfl hC.2.2.2.2.2.1) (vx_c (va_Nw.use rfl hC.2.2.2.2.2.2) vx_n))))
  · exact fun t hvm hz hq9 => ⟨s_place mo k, rfl, ⟨rfl, hP.kept (fun k q hk => hq9 _ (hP k q hk).lt), va_K.moved hvm hK, hD⟩, Nat.le_trans hS.1 hz, fun q h1 h2 => (hq9 q (Nat.lt_of_lt_of_le h1 hS.1)).trans (hS.2.1 q h1 h2)⟩
