/-! tools 9: the same calls beside one cell more (the code that waits while a function is read) -/
section TLF
variable {p : Program} {l : Launch} {e : Env} {R : Room} {s : State} {m : MethodId} {args : Array Value} {below : List Frame} {meth : Method} {c : Code} {H : Heap} {locs : List Loc} {cells slots : Nat}
variable {cc : ByteArray} {pc : Nat} {ls : Array Slot} {rest st0 : List Value} {a : Array Value}
variable {D : va_G} {cI cZ : ClassId} {sa rk hp hc h a1 a2 a3 a4 ht hq n1 n2 : Nat} {ad : AD} {st stO : ST} {g G : Rz} {A : Nat → Prop} {Qc : Array Value → State → Outcome → State → Prop} {xo : Nat × va_E}
theorem mx_iF (hr : vx_Run p l e R s m args below meth c H locs cells slots (mcO st g) (msO st g) (F0 m pc ls st0) rest
      (va_Qi (poN g st) (wB D cI cZ (va_A (wQ cI cZ hp hc h a1 a2 a3 a4 ht hq n1 n2 (ad, st)) H.size) (wQ cI cZ hp hc h a1 a2 a3 a4 ht hq n1 n2)) (va_A (wQ cI cZ hp hc h a1 a2 a3 a4 ht hq n1 n2 (ad, st)) H.size) a)
      (xP D cI cZ hp h a1 a2 a3 a4 ht hq n1 n2 g st (va_A (wQ cI cZ hp hc h a1 a2 a3 a4 ht hq n1 n2 (ad, st)) H.size)) (va_A (wQ cI cZ hp hc h a1 a2 a3 a4 ht hq n1 n2 (ad, st)) H.size))
    (hP0 : va_P D cls (xo :: wQ cI cZ hp hc h a1 a2 a3 a4 ht hq n1 n2 (ad, st)) H) (hD0 : va_D A (xo :: wQ cI cZ hp hc h a1 a2 a3 a4 ht hq n1 n2 (ad, st))) (hS : va_S A s.heap H locs) (hF : ∀ q, va_A (wQ cI cZ hp hc h a1 a2 a3 a4 ht hq n1 n2 (ad, st)) H.size q → A q) (hnt : ∀ x ∈ c.exceptionTable.toList, False) (hlocks : meth.locks = false)
    (hX : ∀ q, g = some (.inl q) → G = some (.inl q)) (hcl : cells + bC st ≤ bC stO) (hsl : slots + bS st ≤ bS stO)
    (kk : ∀ (r : Int32) (ad1 : AD) (st1 : ST) (H1 : Heap) (locs1 : List Loc), g = some (.inr (r, st1)) → okSt st1 → bC st1 ≤ bC st → bS st1 ≤ bS st →
      va_P D cls (xo :: wQ cI cZ hp hc h a1 a2 a3 a4 ht hq n1 n2 (ad1, st1)) H1 → va_D A (xo :: wQ cI cZ hp hc h a1 a2 a3 a4 ht hq n1 n2 (ad1, st1)) → va_S A s.heap H1 locs1 →
      W p l e R s m args below meth c H1 locs1 (cells + (bC st - bC st1)) (slots + (bS st - bS st1)) (vx_MQ below Qc (xP D cI cZ hp h a1 a2 a3 a4 ht hq n1 n2 G stO A) args s (mcO stO G) (msO stO G) A) (F0 m (pc + 3) ls (.int r :: rest))) :
    W p l e R s m args below meth c H locs cells slots (vx_MQ below Qc (xP D cI cZ hp h a1 a2 a3 a4 ht hq n1 n2 G stO A) args s (mcO stO G) (msO stO G) A) (F0 m pc ls st0) := by
  refine vx_calli hr hS (fun q _ h => hF q h) hF (fun q _ h => hF q h) (fun E ce q9 u t H1 locs1 ht1 hvm hp1 hB hz hk hS1 hce hcv hcl1 => ?_) (fun r u t H1 locs1 ht1 hvm hp1 hB hz hk hS1 => ?_)
  · obtain ⟨hE, hP1, hK1, hD1⟩ := hB
    obtain ⟨e1, e2, e3, e4⟩ := hp1
    have hG := hX _ e1
    subst hE
    refine vx_out (fun x hx => (hnt x hx).elim) hlocks hce hcv hcl1 (fun t2 h2 hvm2 => ⟨u, ⟨hG, e2, by omega, by omega⟩, ⟨rfl, by rw [h2, ← ht1]; exact hP1, va_K.moved (hvm.symm.trans hvm2) hK1, hD1.weaken (fun _ _ _ z => hF _ z)⟩, by rw [h2]; exact hS1.1, fun q h1 h2' => by rw [h2]; exact hS1.2.1 q h1 h2'⟩) hS1.2.2 ?_ ?_
    · rw [hG, e1]; simp only [mcO]; omega
    · rw [hG, e1]; simp only [msO]; omega
  · obtain ⟨hP1, hK1, hD1⟩ := hB
    obtain ⟨e1, e2, e3, e4⟩ := hp1
    rw [ht1] at hP1
    obtain ⟨hP2, hD2⟩ := va_join (wr := [xo]) (w1 := wQ cI cZ hp hc h a1 a2 a3 a4 ht hq n1 n2 u) hP0 hD0 [1, 2, 3, 4, 5, 6, 7, 8, 9, 10, 11, 12, 13, 14, 15] [0] rfl rfl (by decide) (by decide) hk hF hP1 hD1
    have k := kk r u.1 u.2 H1 locs1 e1 e2 e3 e4 hP2 hD2 hS1
    have m1 : mcO st g = bC st - bC u.2 := by rw [e1]; rfl
    have m2 : msO st g = bS st - bS u.2 := by rw [e1]; rfl
    rw [m1, m2]; exact k
theorem mx_vF (hr : vx_Run p l e R s m args below meth c H locs cells slots (mcO st g) (msO st g) (F0 m pc ls st0) rest
      (va_Qv (poN g st 0) (wB D cI cZ (va_A (wQ cI cZ hp hc h a1 a2 a3 a4 ht hq n1 n2 (ad, st)) H.size) (wQ cI cZ hp hc h a1 a2 a3 a4 ht hq n1 n2)) (va_A (wQ cI cZ hp hc h a1 a2 a3 a4 ht hq n1 n2 (ad, st)) H.size) a)
      (xP D cI cZ hp h a1 a2 a3 a4 ht hq n1 n2 g st (va_A (wQ cI cZ hp hc h a1 a2 a3 a4 ht hq n1 n2 (ad, st)) H.size)) (va_A (wQ cI cZ hp hc h a1 a2 a3 a4 ht hq n1 n2 (ad, st)) H.size))
    (hP0 : va_P D cls (xo :: wQ cI cZ hp hc h a1 a2 a3 a4 ht hq n1 n2 (ad, st)) H) (hD0 : va_D A (xo :: wQ cI cZ hp hc h a1 a2 a3 a4 ht hq n1 n2 (ad, st))) (hS : va_S A s.heap H locs) (hF : ∀ q, va_A (wQ cI cZ hp hc h a1 a2 a3 a4 ht hq n1 n2 (ad, st)) H.size q → A q) (hnt : ∀ x ∈ c.exceptionTable.toList, False) (hlocks : meth.locks = false)
    (hX : ∀ q, g = some (.inl q) → G = some (.inl q)) (hcl : cells + bC st ≤ bC stO) (hsl : slots + bS st ≤ bS stO)
    (kk : ∀ (ad1 : AD) (st1 : ST) (H1 : Heap) (locs1 : List Loc), g = some (.inr (0, st1)) → okSt st1 → bC st1 ≤ bC st → bS st1 ≤ bS st →
      va_P D cls (xo :: wQ cI cZ hp hc h a1 a2 a3 a4 ht hq n1 n2 (ad1, st1)) H1 → va_D A (xo :: wQ cI cZ hp hc h a1 a2 a3 a4 ht hq n1 n2 (ad1, st1)) → va_S A s.heap H1 locs1 →
      W p l e R s m args below meth c H1 locs1 (cells + (bC st - bC st1)) (slots + (bS st - bS st1)) (vx_MQ below Qc (xP D cI cZ hp h a1 a2 a3 a4 ht hq n1 n2 G stO A) args s (mcO stO G) (msO stO G) A) (F0 m (pc + 3) ls rest)) :
    W p l e R s m args below meth c H locs cells slots (vx_MQ below Qc (xP D cI cZ hp h a1 a2 a3 a4 ht hq n1 n2 G stO A) args s (mcO stO G) (msO stO G) A) (F0 m pc ls st0) := by
  refine vx_callv hr hS (fun q _ h => hF q h) hF (fun q _ h => hF q h) (fun E ce q9 u t H1 locs1 ht1 hvm hp1 hB hz hk hS1 hce hcv hcl1 => ?_) (fun u t H1 locs1 ht1 hvm hp1 hB hz hk hS1 => ?_)
  · obtain ⟨hE, hP1, hK1, hD1⟩ := hB
    obtain ⟨e1, e2, e3, e4⟩ := hp1
    have hG := hX _ e1
    subst hE
    refine vx_out (fun x hx => (hnt x hx).elim) hlocks hce hcv hcl1 (fun t2 h2 hvm2 => ⟨u, ⟨hG, e2, by omega, by omega⟩, ⟨rfl, by rw [h2, ← ht1]; exact hP1, va_K.moved (hvm.symm.trans hvm2) hK1, hD1.weaken (fun _ _ _ z => hF _ z)⟩, by rw [h2]; exact hS1.1, fun q h1 h2' => by rw [h2]; exact hS1.2.1 q h1 h2'⟩) hS1.2.2 ?_ ?_
    · rw [hG, e1]; simp only [mcO]; omega
    · rw [hG, e1]; simp only [msO]; omega
  · obtain ⟨hP1, hK1, hD1⟩ := hB
    obtain ⟨e1, e2, e3, e4⟩ := hp1
    rw [ht1] at hP1
    obtain ⟨hP2, hD2⟩ := va_join (wr := [xo]) (w1 := wQ cI cZ hp hc h a1 a2 a3 a4 ht hq n1 n2 u) hP0 hD0 [1, 2, 3, 4, 5, 6, 7, 8, 9, 10, 11, 12, 13, 14, 15] [0] rfl rfl (by decide) (by decide) hk hF hP1 hD1
    have k := kk u.1 u.2 H1 locs1 e1 e2 e3 e4 hP2 hD2 hS1
    have m1 : mcO st g = bC st - bC u.2 := by rw [e1]; rfl
    have m2 : msO st g = bS st - bS u.2 := by rw [e1]; rfl
    rw [m1, m2]; exact k
end TLF
section TLG
variable {p : Program} {l : Launch} {e : Env} {R : Room} {s : State} {m : MethodId} {args : Array Value} {below : List Frame} {meth : Method} {c : Code} {H : Heap} {locs : List Loc} {cells slots : Nat}
variable {cc bytes : ByteArray} {pc maxL fr lo idx nL : Nat} {ls : Array Slot} {rest st0 As : List Value} {x : Cond} {own : String} {y : MethodName} {rt : FieldType}
variable {D : va_G} {cI cZ : ClassId} {sa rk hp hc h a1 a2 a3 a4 ht hq n1 n2 : Nat} {ad : AD} {st stO : ST} {g G : Rz} {A : Nat → Prop} {Qc : Array Value → State → Outcome → State → Prop} {xo : Nat × va_E}
theorem mx_VvF (CF : CallFix p m c cc nL s args (x :: LL) own) (hM : cPv l y bytes maxL fr lo D cI cZ sa rk hp hc h a1 a2 a3 a4 ht hq n1 n2 ad st H.size (.ref hp :: As) g)
    (hP0 : va_P D cls (xo :: wQ cI cZ hp hc h a1 a2 a3 a4 ht hq n1 n2 (ad, st)) H) (hD0 : va_D A (xo :: wQ cI cZ hp hc h a1 a2 a3 a4 ht hq n1 n2 (ad, st))) (hK : va_K D cls (ty2 cI cZ) s) (hS : va_S A s.heap H locs) (hA : ∀ q, s.heap.size ≤ q → A q) (hC : CX cI sa s) (hZ : ZX rk A s s.heap) (hnt : ∀ x ∈ c.exceptionTable.toList, False) (hlocks : meth.locks = false)
    (l1 : Cond.methodLink own idx y ∈ LL) (l2 : Cond.instanceMethod y ∈ LL) (l3 : Cond.selects R_Pa y y ∈ LL) (l4 : Cond.initialized y.cls ∈ LL) (l5 : Cond.code y bytes maxL none ∈ LL)
    (hd : y.cls ≠ "java/lang/invoke/MethodHandle" ∧ y.cls ≠ "java/lang/invoke/VarHandle" ∧ (parseMethodDescriptor y.desc).map (fun d => d.parameters.length) = some As.length)
    (hR : fr + 1 ≤ R.frames ∧ 8 + (maxL + 11) + lo ≤ R.locals) (hRc : R.cells = bC stO) (hRs : R.slots = bS stO) (hls : ls.size = nL) (hst : (rest.map fun v => v.category).sum ≤ 8) (hdg : decode cc pc = .ok (.invokevirtual idx, 3)) (h0 : st0 = As.reverse ++ .ref hp :: rest)
    (hX : ∀ q, g = some (.inl q) → G = some (.inl q)) (hcl : cells + bC st ≤ bC stO) (hsl : slots + bS st ≤ bS stO)
    (kk : ∀ (ad1 : AD) (st1 : ST) (H1 : Heap) (locs1 : List Loc), g = some (.inr (0, st1)) → okSt st1 → bC st1 ≤ bC st → bS st1 ≤ bS st →
      va_P D cls (xo :: wQ cI cZ hp hc h a1 a2 a3 a4 ht hq n1 n2 (ad1, st1)) H1 → va_D A (xo :: wQ cI cZ hp hc h a1 a2 a3 a4 ht hq n1 n2 (ad1, st1)) → va_S A s.heap H1 locs1 →
      W p l e R s m args below meth c H1 locs1 (cells + (bC st - bC st1)) (slots + (bS st - bS st1)) (vx_MQ below Qc (xP D cI cZ hp h a1 a2 a3 a4 ht hq n1 n2 G stO A) args s (mcO stO G) (msO stO G) A) (F0 m (pc + 3) ls rest)) :
    W p l e R s m args below meth c H locs cells slots (vx_MQ below Qc (xP D cI cZ hp h a1 a2 a3 a4 ht hq n1 n2 G stO A) args s (mcO stO G) (msO stO G) A) (F0 m pc ls st0) := by
  have hP : va_P D cls (wQ cI cZ hp hc h a1 a2 a3 a4 ht hq n1 n2 (ad, st)) H := hP0.sub [1, 2, 3, 4, 5, 6, 7, 8, 9, 10, 11, 12, 13, 14, 15] rfl
  have hD : va_D A (wQ cI cZ hp hc h a1 a2 a3 a4 ht hq n1 n2 (ad, st)) := hD0.sub [1, 2, 3, 4, 5, 6, 7, 8, 9, 10, 11, 12, 13, 14, 15] (by decide) rfl
  have hF := va_free (wc := wQ cI cZ hp hc h a1 a2 a3 a4 ht hq n1 n2 (ad, st)) hD hS hA [0, 1, 2, 3, 4, 5, 6, 7, 8, 9, 10, 11, 12, 13, 14] rfl
  exact mx_vF (vy_runV (As := As) (rest := rest) CF hM ⟨prM_blind, va_recv hK hP (ci := 2) (q0 := 0) rfl rfl, fun U hU hW => ⟨rfl, by rw [hU], by rw [hU]; exact hP, va_K.moved hW.alike hK, hD.weaken (fun _ _ _ _ => trivial), XX.use hC hZ hS hF hU hW⟩⟩ l1 l2 l3 l4 l5 hd hR rfl hls h0 (lv_room hst) hdg ⟨by rw [hRc]; exact hcl, by rw [hRs]; exact hsl⟩) hP0 hD0 hS hF hnt hlocks hX hcl hsl kk
theorem mx_UvF {xm : MethodName} {owner : String} (CF : CallFix p m c cc nL s args (x :: LL) own) (hM : cPv l y bytes maxL fr lo D cI cZ sa rk hp hc h a1 a2 a3 a4 ht hq n1 n2 ad st H.size (.ref hp :: As) g)
    (hP0 : va_P D cls (xo :: wQ cI cZ hp hc h a1 a2 a3 a4 ht hq n1 n2 (ad, st)) H) (hD0 : va_D A (xo :: wQ cI cZ hp hc h a1 a2 a3 a4 ht hq n1 n2 (ad, st))) (hK : va_K D cls (ty2 cI cZ) s) (hS : va_S A s.heap H locs) (hA : ∀ q, s.heap.size ≤ q → A q) (hC : CX cI sa s) (hZ : ZX rk A s s.heap) (hnt : ∀ x ∈ c.exceptionTable.toList, False) (hlocks : meth.locks = false)
    (l1 : Cond.methodLink own idx xm ∈ LL) (l2 : Cond.sameMethod xm.cls owner xm.name xm.desc ∈ LL) (l3 : Cond.selects R_Pa xm y ∈ LL) (l4 : Cond.instanceMethod y ∈ LL) (l5 : Cond.initialized y.cls ∈ LL) (l6 : Cond.code y bytes maxL none ∈ LL)
    (hyx : y = ⟨owner, xm.name, xm.desc⟩) (hd : owner ≠ "java/lang/invoke/MethodHandle" ∧ owner ≠ "java/lang/invoke/VarHandle" ∧ (parseMethodDescriptor xm.desc).map (fun d => d.parameters.length) = some As.length)
    (hR : fr + 1 ≤ R.frames ∧ 8 + (maxL + 11) + lo ≤ R.locals) (hRc : R.cells = bC stO) (hRs : R.slots = bS stO) (hls : ls.size = nL) (hst : (rest.map fun v => v.category).sum ≤ 8) (hdg : decode cc pc = .ok (.invokevirtual idx, 3)) (h0 : st0 = As.reverse ++ .ref hp :: rest)
    (hX : ∀ q, g = some (.inl q) → G = some (.inl q)) (hcl : cells + bC st ≤ bC stO) (hsl : slots + bS st ≤ bS stO)
    (kk : ∀ (ad1 : AD) (st1 : ST) (H1 : Heap) (locs1 : List Loc), g = some (.inr (0, st1)) → okSt st1 → bC st1 ≤ bC st → bS st1 ≤ bS st →
      va_P D cls (xo :: wQ cI cZ hp hc h a1 a2 a3 a4 ht hq n1 n2 (ad1, st1)) H1 → va_D A (xo :: wQ cI cZ hp hc h a1 a2 a3 a4 ht hq n1 n2 (ad1, st1)) → va_S A s.heap H1 locs1 →
      W p l e R s m args below meth c H1 locs1 (cells + (bC st - bC st1)) (slots + (bS st - bS st1)) (vx_MQ below Qc (xP D cI cZ hp h a1 a2 a3 a4 ht hq n1 n2 G stO A) args s (mcO stO G) (msO stO G) A) (F0 m (pc + 3) ls rest)) :
    W p l e R s m args below meth c H locs cells slots (vx_MQ below Qc (xP D cI cZ hp h a1 a2 a3 a4 ht hq n1 n2 G stO A) args s (mcO stO G) (msO stO G) A) (F0 m pc ls st0) := by
  have hP : va_P D cls (wQ cI cZ hp hc h a1 a2 a3 a4 ht hq n1 n2 (ad, st)) H := hP0.sub [1, 2, 3, 4, 5, 6, 7, 8, 9, 10, 11, 12, 13, 14, 15] rfl
  have hD : va_D A (wQ cI cZ hp hc h a1 a2 a3 a4 ht hq n1 n2 (ad, st)) := hD0.sub [1, 2, 3, 4, 5, 6, 7, 8, 9, 10, 11, 12, 13, 14, 15] (by decide) rfl
  have hF := va_free (wc := wQ cI cZ hp hc h a1 a2 a3 a4 ht hq n1 n2 (ad, st)) hD hS hA [0, 1, 2, 3, 4, 5, 6, 7, 8, 9, 10, 11, 12, 13, 14] rfl
  exact mx_vF (vy_runU (As := As) (rest := rest) CF hM ⟨prM_blind, va_recv hK hP (ci := 2) (q0 := 0) rfl rfl, fun U hU hW => ⟨rfl, by rw [hU], by rw [hU]; exact hP, va_K.moved hW.alike hK, hD.weaken (fun _ _ _ _ => trivial), XX.use hC hZ hS hF hU hW⟩⟩ l1 l2 l3 l4 l5 l6 hyx hd hR rfl hls h0 (lv_room hst) hdg ⟨by rw [hRc]; exact hcl, by rw [hRs]; exact hsl⟩) hP0 hD0 hS hF hnt hlocks hX hcl hsl kk
theorem mx_ViF (CF : CallFix p m c cc nL s args (x :: LL) own) (hM : cPi l y bytes maxL rt fr lo D cI cZ sa rk hp hc h a1 a2 a3 a4 ht hq n1 n2 ad st H.size (.ref hp :: As) g)
    (hP0 : va_P D cls (xo :: wQ cI cZ hp hc h a1 a2 a3 a4 ht hq n1 n2 (ad, st)) H) (hD0 : va_D A (xo :: wQ cI cZ hp hc h a1 a2 a3 a4 ht hq n1 n2 (ad, st))) (hK : va_K D cls (ty2 cI cZ) s) (hS : va_S A s.heap H locs) (hA : ∀ q, s.heap.size ≤ q → A q) (hC : CX cI sa s) (hZ : ZX rk A s s.heap) (hnt : ∀ x ∈ c.exceptionTable.toList, False) (hlocks : meth.locks = false)
    (l1 : Cond.methodLink own idx y ∈ LL) (l2 : Cond.instanceMethod y ∈ LL) (l3 : Cond.selects R_Pa y y ∈ LL) (l4 : Cond.initialized y.cls ∈ LL) (l5 : Cond.code y bytes maxL (some rt) ∈ LL)
    (hd : y.cls ≠ "java/lang/invoke/MethodHandle" ∧ y.cls ≠ "java/lang/invoke/VarHandle" ∧ (parseMethodDescriptor y.desc).map (fun d => d.parameters.length) = some As.length)
    (hR : fr + 1 ≤ R.frames ∧ 8 + (maxL + 11) + lo ≤ R.locals) (hRc : R.cells = bC stO) (hRs : R.slots = bS stO) (hls : ls.size = nL) (hst : (rest.map fun v => v.category).sum ≤ 8) (hdg : decode cc pc = .ok (.invokevirtual idx, 3)) (h0 : st0 = As.reverse ++ .ref hp :: rest)
    (hX : ∀ q, g = some (.inl q) → G = some (.inl q)) (hcl : cells + bC st ≤ bC stO) (hsl : slots + bS st ≤ bS stO)
    (kk : ∀ (r : Int32) (ad1 : AD) (st1 : ST) (H1 : Heap) (locs1 : List Loc), g = some (.inr (r, st1)) → okSt st1 → bC st1 ≤ bC st → bS st1 ≤ bS st →
      va_P D cls (xo :: wQ cI cZ hp hc h a1 a2 a3 a4 ht hq n1 n2 (ad1, st1)) H1 → va_D A (xo :: wQ cI cZ hp hc h a1 a2 a3 a4 ht hq n1 n2 (ad1, st1)) → va_S A s.heap H1 locs1 →
      W p l e R s m args below meth c H1 locs1 (cells + (bC st - bC st1)) (slots + (bS st - bS st1)) (vx_MQ below Qc (xP D cI cZ hp h a1 a2 a3 a4 ht hq n1 n2 G stO A) args s (mcO stO G) (msO stO G) A) (F0 m (pc + 3) ls (.int r :: rest))) :
    W p l e R s m args below meth c H locs cells slots (vx_MQ below Qc (xP D cI cZ hp h a1 a2 a3 a4 ht hq n1 n2 G stO A) args s (mcO stO G) (msO stO G) A) (F0 m pc ls st0) := by
  have hP : va_P D cls (wQ cI cZ hp hc h a1 a2 a3 a4 ht hq n1 n2 (ad, st)) H := hP0.sub [1, 2, 3, 4, 5, 6, 7, 8, 9, 10, 11, 12, 13, 14, 15] rfl
  have hD : va_D A (wQ cI cZ hp hc h a1 a2 a3 a4 ht hq n1 n2 (ad, st)) := hD0.sub [1, 2, 3, 4, 5, 6, 7, 8, 9, 10, 11, 12, 13, 14, 15] (by decide) rfl
  have hF := va_free (wc := wQ cI cZ hp hc h a1 a2 a3 a4 ht hq n1 n2 (ad, st)) hD hS hA [0, 1, 2, 3, 4, 5, 6, 7, 8, 9, 10, 11, 12, 13, 14] rfl
  exact mx_iF (vy_runV (As := As) (rest := rest) CF hM ⟨prM_blind, va_recv hK hP (ci := 2) (q0 := 0) rfl rfl, fun U hU hW => ⟨rfl, by rw [hU], by rw [hU]; exact hP, va_K.moved hW.alike hK, hD.weaken (fun _ _ _ _ => trivial), XX.use hC hZ hS hF hU hW⟩⟩ l1 l2 l3 l4 l5 hd hR rfl hls h0 (lv_room hst) hdg ⟨by rw [hRc]; exact hcl, by rw [hRs]; exact hsl⟩) hP0 hD0 hS hF hnt hlocks hX hcl hsl kk
theorem mx_UiF {xm : MethodName} {owner : String} (CF : CallFix p m c cc nL s args (x :: LL) own) (hM : cPi l y bytes maxL rt fr lo D cI cZ sa rk hp hc h a1 a2 a3 a4 ht hq n1 n2 ad st H.size (.ref hp :: As) g)
    (hP0 : va_P D cls (xo :: wQ cI cZ hp hc h a1 a2 a3 a4 ht hq n1 n2 (ad, st)) H) (hD0 : va_D A (xo :: wQ cI cZ hp hc h a1 a2 a3 a4 ht hq n1 n2 (ad, st))) (hK : va_K D cls (ty2 cI cZ) s) (hS : va_S A s.heap H locs) (hA : ∀ q, s.heap.size ≤ q → A q) (hC : CX cI sa s) (hZ : ZX rk A s s.heap) (hnt : ∀ x ∈ c.exceptionTable.toList, False) (hlocks : meth.locks = false)
    (l1 : Cond.methodLink own idx xm ∈ LL) (l2 : Cond.sameMethod xm.cls owner xm.name xm.desc ∈ LL) (l3 : Cond.selects R_Pa xm y ∈ LL) (l4 : Cond.instanceMethod y ∈ LL) (l5 : Cond.initialized y.cls ∈ LL) (l6 : Cond.code y bytes maxL (some rt) ∈ LL)
    (hyx : y = ⟨owner, xm.name, xm.desc⟩) (hd : owner ≠ "java/lang/invoke/MethodHandle" ∧ owner ≠ "java/lang/invoke/VarHandle" ∧ (parseMethodDescriptor xm.desc).map (fun d => d.parameters.length) = some As.length)
    (hR : fr + 1 ≤ R.frames ∧ 8 + (maxL + 11) + lo ≤ R.locals) (hRc : R.cells = bC stO) (hRs : R.slots = bS stO) (hls : ls.size = nL) (hst : (rest.map fun v => v.category).sum ≤ 8) (hdg : decode cc pc = .ok (.invokevirtual idx, 3)) (h0 : st0 = As.reverse ++ .ref hp :: rest)
    (hX : ∀ q, g = some (.inl q) → G = some (.inl q)) (hcl : cells + bC st ≤ bC stO) (hsl : slots + bS st ≤ bS stO)
    (kk : ∀ (r : Int32) (ad1 : AD) (st1 : ST) (H1 : Heap) (locs1 : List Loc), g = some (.inr (r, st1)) → okSt st1 → bC st1 ≤ bC st → bS st1 ≤ bS st →
      va_P D cls (xo :: wQ cI cZ hp hc h a1 a2 a3 a4 ht hq n1 n2 (ad1, st1)) H1 → va_D A (xo :: wQ cI cZ hp hc h a1 a2 a3 a4 ht hq n1 n2 (ad1, st1)) → va_S A s.heap H1 locs1 →
      W p l e R s m args below meth c H1 locs1 (cells + (bC st - bC st1)) (slots + (bS st - bS st1)) (vx_MQ below Qc (xP D cI cZ hp h a1 a2 a3 a4 ht hq n1 n2 G stO A) args s (mcO stO G) (msO stO G) A) (F0 m (pc + 3) ls (.int r :: rest))) :
    W p l e R s m args below meth c H locs cells slots (vx_MQ below Qc (xP D cI cZ hp h a1 a2 a3 a4 ht hq n1 n2 G stO A) args s (mcO stO G) (msO stO G) A) (F0 m pc ls st0) := by
  have hP : va_P D cls (wQ cI cZ hp hc h a1 a2 a3 a4 ht hq n1 n2 (ad, st)) H := hP0.sub [1, 2, 3, 4, 5, 6, 7, 8, 9, 10, 11, 12, 13, 14, 15] rfl
  have hD : va_D A (wQ cI cZ hp hc h a1 a2 a3 a4 ht hq n1 n2 (ad, st)) := hD0.sub [1, 2, 3, 4, 5, 6, 7, 8, 9, 10, 11, 12, 13, 14, 15] (by decide) rfl
  have hF := va_free (wc := wQ cI cZ hp hc h a1 a2 a3 a4 ht hq n1 n2 (ad, st)) hD hS hA [0, 1, 2, 3, 4, 5, 6, 7, 8, 9, 10, 11, 12, 13, 14] rfl
  exact mx_iF (vy_runU (As := As) (rest := rest) CF hM ⟨prM_blind, va_recv hK hP (ci := 2) (q0 := 0) rfl rfl, fun U hU hW => ⟨rfl, by rw [hU], by rw [hU]; exact hP, va_K.moved hW.alike hK, hD.weaken (fun _ _ _ _ => trivial), XX.use hC hZ hS hF hU hW⟩⟩ l1 l2 l3 l4 l5 l6 hyx hd hR rfl hls h0 (lv_room hst) hdg ⟨by rw [hRc]; exact hcl, by rw [hRs]; exact hsl⟩) hP0 hD0 hS hF hnt hlocks hX hcl hsl kk
end TLG
section TLH
variable {p : Program} {l : Launch} {e : Env} {R : Room} {s : State} {m : MethodId} {args : Array Value} {below : List Frame} {meth : Method} {c : Code} {H : Heap} {locs : List Loc} {cells slots : Nat} {Q : State → Prop}
variable {cc bytes : ByteArray} {pc maxL fr lo idx nL mc ms : Nat} {ls : Array Slot} {rest st0 As : List Value} {x : Cond} {own : String} {y : MethodName}
variable {D : va_G} {cI cZ : ClassId} {sa rk hp hc h a1 a2 a3 a4 ht hq n1 n2 : Nat} {ad : AD} {st stO : ST} {g : Rz} {A : Nat → Prop} {tr1 : TR} {xo : Nat × va_E}
theorem pT_vF (CF : CallFix p m c cc nL s args (x :: LL) own) (hM : cMv l y bytes maxL fr lo mc ms D cI cZ sa rk (.ref ht :: As) (wT cI ht (ad, sTr st)) H.size (fun u : AD × TR => u.2 = tr1) (wT cI ht))
    (hP : va_P D cls (xo :: wQ cI cZ hp hc h a1 a2 a3 a4 ht hq n1 n2 (ad, st)) H) (hD : va_D A (xo :: wQ cI cZ hp hc h a1 a2 a3 a4 ht hq n1 n2 (ad, st))) (hK : va_K D cls (ty2 cI cZ) s) (hS : va_S A s.heap H locs) (hA : ∀ q, s.heap.size ≤ q → A q) (hC : CX cI sa s) (hZ : ZX rk A s s.heap)
    (l1 : Cond.methodLink own idx y ∈ LL) (l2 : Cond.instanceMethod y ∈ LL) (l3 : Cond.selects R_Tr y y ∈ LL) (l4 : Cond.initialized R_Tr ∈ LL) (l5 : Cond.code y bytes maxL none ∈ LL)
    (hd : y.cls = R_Tr ∧ y.cls ≠ "java/lang/invoke/MethodHandle" ∧ y.cls ≠ "java/lang/invoke/VarHandle" ∧ (parseMethodDescriptor y.desc).map (fun d => d.parameters.length) = some As.length)
    (hR : fr + 1 ≤ R.frames ∧ 8 + (maxL + 11) + lo ≤ R.locals) (hRc : R.cells = bC stO) (hRs : R.slots = bS stO) (hls : ls.size = nL) (hst : (rest.map fun v => v.category).sum ≤ 8) (hdg : decode cc pc = .ok (.invokevirtual idx, 3)) (h0 : st0 = As.reverse ++ .ref ht :: rest)
    (hcl : cells + bC st ≤ bC stO) (hsl : slots + bS st ≤ bS stO) (hmc : mc ≤ bC st) (hms : ms ≤ bS st) (ok : okSt st) (hok1 : okTr tr1) (hg : g = some (.inr (0, tB st tr1 mc ms)))
    (kk : ∀ (ad1 : AD) (st1 : ST) (H1 : Heap) (locs1 : List Loc), g = some (.inr (0, st1)) → okSt st1 → bC st1 ≤ bC st → bS st1 ≤ bS st →
      va_P D cls (xo :: wQ cI cZ hp hc h a1 a2 a3 a4 ht hq n1 n2 (ad1, st1)) H1 → va_D A (xo :: wQ cI cZ hp hc h a1 a2 a3 a4 ht hq n1 n2 (ad1, st1)) → va_S A s.heap H1 locs1 →
      W p l e R s m args below meth c H1 locs1 (cells + (bC st - bC st1)) (slots + (bS st - bS st1)) Q (F0 m (pc + 3) ls rest)) :
    W p l e R s m args below meth c H locs cells slots Q (F0 m pc ls st0) := by
  refine mu_Vv (S := AD × TR) (w' := wT cI ht) (wr := [xo, (wQ cI cZ hp hc h a1 a2 a3 a4 ht hq n1 n2 (ad, st)).getD 0 (0, .inr (0, [])), (wQ cI cZ hp hc h a1 a2 a3 a4 ht hq n1 n2 (ad, st)).getD 1 (0, .inr (0, [])), (wQ cI cZ hp hc h a1 a2 a3 a4 ht hq n1 n2 (ad, st)).getD 2 (0, .inr (0, [])), (wQ cI cZ hp hc h a1 a2 a3 a4 ht hq n1 n2 (ad, st)).getD 3 (0, .inr (0, [])), (wQ cI cZ hp hc h a1 a2 a3 a4 ht hq n1 n2 (ad, st)).getD 4 (0, .inr (0, [])), (wQ cI cZ hp hc h a1 a2 a3 a4 ht hq n1 n2 (ad, st)).getD 5 (0, .inr (0, [])), (wQ cI cZ hp hc h a1 a2 a3 a4 ht hq n1 n2 (ad, st)).getD 6 (0, .inr (0, [])), (wQ cI cZ hp hc h a1 a2 a3 a4 ht hq n1 n2 (ad, st)).getD 12 (0, .inr (0, [])), (wQ cI cZ hp hc h a1 a2 a3 a4 ht hq n1 n2 (ad, st)).getD 13 (0, .inr (0, [])), (wQ cI cZ hp hc h a1 a2 a3 a4 ht hq n1 n2 (ad, st)).getD 14 (0, .inr (0, []))]) (As := As) (rest := rest) CF hM hP hD hK hS hA hC hZ [8, 9, 10, 11, 12] [0, 1, 2, 3, 4, 5, 6, 7, 13, 14, 15] rfl rfl (by decide) (by decide) (by decide) 0 4 rfl rfl l1 l2 l3 l4 l5 hd hR hls ⟨by rw [hRc]; omega, by rw [hRs]; omega⟩ hst hdg h0 (fun u H1 locs1 hw hP1 hD1 hS1 => ?_)
  obtain ⟨ad1, t9⟩ := u
  have hw : t9 = tr1 := hw
  subst hw
  have hP2 : va_P D cls (xo :: wQ cI cZ hp hc h a1 a2 a3 a4 ht hq n1 n2 (ad1, tB st t9 mc ms)) H1 := hP1.sub [0, 1, 2, 3, 4, 5, 6, 7, 11, 12, 13, 14, 15, 8, 9, 10] rfl
  have hD2 : va_D A (xo :: wQ cI cZ hp hc h a1 a2 a3 a4 ht hq n1 n2 (ad1, tB st t9 mc ms)) := hD1.sub [0, 1, 2, 3, 4, 5, 6, 7, 11, 12, 13, 14, 15, 8, 9, 10] (by decide) rfl
  have k := kk ad1 (tB st t9 mc ms) H1 locs1 hg ⟨ok.1, hok1, ok.2.2.1, ok.2.2.2⟩ (Nat.sub_le _ _) (Nat.sub_le _ _) hP2 hD2 hS1
  have e1 : bC st - bC (tB st t9 mc ms) = mc := by show bC st - (bC st - mc) = mc; omega
  have e2 : bS st - bS (tB st t9 mc ms) = ms := by show bS st - (bS st - ms) = ms; omega
  rw [e1, e2] at k
  exact k
end TLH
section TLN
variable {p : Program} {l : Launch} {e : Env} {R : Room} {s : State} {m : MethodId} {args : Array Value} {below : List Frame} {meth : Method} {c : Code} {H : Heap} {locs : List Loc} {cells slots : Nat} {Q : State → Prop}
variable {cc : ByteArray} {pc idx nL : Nat} {ls : Array Slot} {rest : List Value} {x : Cond} {own : String} {dC : Nat → ClassId} {dI : Nat → Nat → Nat} {cI cZ : ClassId} {sa rk q : Nat} {A : Nat → Prop} {ws : va_W} {f s9 fl : Int32}
/-- the constructor of Code, on a cell that stands first -/
theorem co_I (CF : CallFix p m c cc nL s args (x :: LL) own) (hf : f = 0 ∨ f = 1) (hs9 : s9 = 0 ∨ s9 = 1)
    (hP : va_P (dC, dI) cls ((q, .inr (0, [.int 0, .int 0, .int 0, .int 0, .int 0])) :: ws) H) (hD : va_D A ((q, .inr (0, [.int 0, .int 0, .int 0, .int 0, .int 0])) :: ws)) (hK : va_K (dC, dI) cls (ty2 cI cZ) s) (hS : va_S A s.heap H locs) (hA : ∀ q, s.heap.size ≤ q → A q) (hC : CX cI sa s) (hZ : ZX rk A s s.heap)
    (l1 : Cond.methodLink own idx y_Co_init ∈ LL) (l2 : Cond.instanceMethod y_Co_init ∈ LL) (l4 : Cond.initialized y_Co_init.cls ∈ LL) (l5 : Cond.code y_Co_init c_Co_init 4 none ∈ LL)
    (hR : 1 + 1 ≤ R.frames ∧ 8 + (4 + 11) + 22 ≤ R.locals) (hls : ls.size = nL) (hcap : cells ≤ R.cells ∧ slots ≤ R.slots) (hst : (rest.map fun v => v.category).sum ≤ 8) (hdg : decode cc pc = .ok (.invokespecial idx, 3))
    (kk : ∀ (H1 : Heap) (locs1 : List Loc), va_P (dC, dI) cls ((q, .inr (0, [.int f, .int fl, .int s9, .int 0, .int 0])) :: ws) H1 → va_D A ((q, .inr (0, [.int f, .int fl, .int s9, .int 0, .int 0])) :: ws) → va_S A s.heap H1 locs1 → W p l e R s m args below meth c H1 locs1 cells slots Q (F0 m (pc + 3) ls rest)) :
    W p l e R s m args below meth c H locs cells slots Q (F0 m pc ls (.int fl :: .int s9 :: .int f :: .ref q :: rest)) := by
  have h1 : [0].map (fun i => ((q, (.inr (0, [.int 0, .int 0, .int 0, .int 0, .int 0]) : va_E)) :: ws)[i]?) = [(q, (.inr (0, [.int 0, .int 0, .int 0, .int 0, .int 0]) : va_E))].map some := rfl
  have hPc := hP.sub [0] (fm_of h1)
  have hDc := hD.sub [0] (by rfl) h1
  have hF := va_free hD hS hA [0] h1
  refine va_callv (va_runI (As := [.int f, .int s9, .int fl]) (rest := rest) CF (m_Co_init l dC dI cI cZ sa rk q H.size f s9 fl hf hs9) (cwI 3 CF.2.2.2.2 (gLL ?_) rfl rfl rfl (CF.2.2.2.2 _ (List.mem_cons_of_mem _ l4)) (CF.2.2.2.2 _ (List.mem_cons_of_mem _ l1)) (CF.2.2.2.2 _ (List.mem_cons_of_mem _ l2)) rfl k_Co_init hR) ⟨prM_blind, fun U hU hW => ⟨rfl, by rw [hU], by rw [hU]; exact hPc, va_K.moved hW.alike hK, hDc.weaken (fun _ _ _ _ => trivial), XX.use hC hZ hS hF hU hW⟩⟩ rfl rfl hls rfl (lv_room hst) hdg ⟨hcap.1, hcap.2⟩) hS (fun q _ h => hF q h) hF (fun u t H1 locs1 ht hvm hw hB hz1 hk1 hS1 => ?_)
  · intro w hw
    rcases List.mem_cons.mp hw with rfl | hw
    · exact l5
    · exact hw
  · obtain ⟨hP1, hK1, hD1⟩ := hB
    rw [ht] at hP1
    have hne : ∀ (k : Nat) (z : Nat × va_E), ws[k]? = some z → z.1 ≠ q := fun k z hz hq => absurd (hD.1 (k + 1) 0 z _ hz rfl hq) (by omega)
    refine kk H1 locs1 (fun k z hz => ?_) ⟨fun i j a b hi hj hab => ?_, fun k z hz => ?_⟩ hS1
    · cases k with
      | zero => cases hz; exact hP1 0 _ rfl
      | succ k =>
        have hz : ws[k]? = some z := hz
        refine (hP (k + 1) z hz).kept (hk1 z.1 (hP (k + 1) z hz).lt ?_)
        rintro (⟨j, e9, hj⟩ | h)
        · have hj0 : j < 1 := (List.getElem?_eq_some_iff.mp hj).1
          rw [show j = 0 by omega] at hj
          exact hne k z hz (congrArg Prod.fst (Option.some.inj hj)).symm
        · exact absurd (hP (k + 1) z hz).lt (by omega)
    · cases i with
      | zero =>
        cases j with
        | zero => rfl
        | succ j => cases hi; exact absurd hab.symm (hne j b hj)
      | succ i =>
        cases j with
        | zero => cases hj; exact absurd hab (hne i a hi)
        | succ j => exact hD.1 (i + 1) (j + 1) a b hi hj hab
    · cases k with
      | zero => cases hz; exact hD.2 0 (q, .inr (0, [.int 0, .int 0, .int 0, .int 0, .int 0])) rfl
      | succ k => exact hD.2 (k + 1) z hz
end TLN
theorem cl_newC {c B y : Nat} {st : ST} (h : c + bC st ≤ B) (h1 : ¬ (bC st < 1 ∨ bS st < 5)) : c + 1 + bC (setB st (bC st - 1) y) ≤ B := by show c + 1 + (bC st - 1) ≤ B; omega
theorem cl_newS {c B y : Nat} {st : ST} (h : c + bS st ≤ B) (h1 : ¬ (bC st < 1 ∨ bS st < 5)) : c + 5 + bS (setB st y (bS st - 5)) ≤ B := by show c + 5 + (bS st - 5) ≤ B; omega
