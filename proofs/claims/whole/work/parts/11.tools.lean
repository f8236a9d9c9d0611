/-! tools: switches as a chain of cases; the universal word list; calls of methods that only read -/
section TLS
variable {p : Program} {l : Launch} {e : Env} {R : Room} {s : State} {m : MethodId} {args : Array Value} {below : List Frame} {meth : Method} {c : Code} {H : Heap} {locs : List Loc} {cells slots : Nat} {Q : State → Prop}
variable {cc : ByteArray} {pc : Nat} {ls : Array Slot} {rest : List Value}
def swt (x : Int32) (dt : Nat) : List (Int32 × Nat) → Nat
  | [] => dt
  | q :: r => if x = q.1 then q.2 else swt x dt r
def swk (x : Int32) (dt : Nat) (P : Nat → Prop) : List (Int32 × Nat) → Prop
  | [] => P dt
  | q :: r => (x = q.1 → P q.2) ∧ (¬ x = q.1 → swk x dt P r)
theorem swk_use {x : Int32} {dt : Nat} {P : Nat → Prop} : ∀ {ks : List (Int32 × Nat)}, swk x dt P ks → P (swt x dt ks)
  | [], h => h
  | q :: r, h => by
    unfold swt
    by_cases e : x = q.1
    · rw [if_pos e]; exact h.1 e
    · rw [if_neg e]; exact swk_use (h.2 e)
theorem swt_out {x : Int32} {dt : Nat} {lo hi : Int} (h : x.toInt < lo ∨ hi < x.toInt) : ∀ {ks : List (Int32 × Nat)}, ks.all (fun q => decide (lo ≤ q.1.toInt) && decide (q.1.toInt ≤ hi)) = true → swt x dt ks = dt
  | [], _ => rfl
  | q :: r, hk => by
    simp only [List.all_cons, Bool.and_eq_true, decide_eq_true_eq] at hk
    unfold swt
    rw [if_neg (fun e => by rw [e] at h; omega)]
    exact swt_out h hk.2
theorem sw_tab (hexec : p.tables.exec = Jvm.exec) (hb : c.code = cc) {dflt lo hi : Int} {offs : Array Int} {len : Nat} {x : Int32} (ks : List (Int32 × Nat)) (dt : Nat) (hdg : decode cc pc = .ok (.tableswitch dflt lo hi offs, len))
    (h1 : ks.all (fun q => decide (lo ≤ q.1.toInt) && decide (q.1.toInt ≤ hi)) = true) (h2 : (pc : Int) + dflt = (dt : Int))
    (h3 : (List.range (hi - lo + 1).toNat).all (fun j => decide (offs[j]? = some ((swt (Int32.ofInt (lo + (j : Int))) dt ks : Int) - (pc : Int)))) = true)
    (k : swk x dt (fun t => W p l e R s m args below meth c H locs cells slots Q (F0 m t ls rest)) ks) : W p l e R s m args below meth c H locs cells slots Q (F0 m pc ls (.int x :: rest)) := by
  have k : W p l e R s m args below meth c H locs cells slots Q (F0 m (swt x dt ks) ls rest) := swk_use k
  by_cases h : x.toInt < lo ∨ hi < x.toInt
  · refine lv_tableOut hexec hb hdg h h2 ?_
    rw [swt_out h h1] at k
    exact k
  · have a1 : ¬ x.toInt < lo := fun z => h (Or.inl z)
    have a2 : ¬ hi < x.toInt := fun z => h (Or.inr z)
    have hj := List.all_eq_true.mp h3 (x.toInt - lo).toNat (List.mem_range.mpr (by omega))
    simp only [decide_eq_true_eq] at hj
    have hx : Int32.ofInt (lo + (((x.toInt - lo).toNat : Nat) : Int)) = x := by
      rw [show lo + (((x.toInt - lo).toNat : Nat) : Int) = x.toInt by omega]
      exact Int32.ofInt_toInt x
    rw [hx] at hj
    exact lv_tableIn hexec hb hdg a1 a2 hj (by omega) k
theorem swt_look {x : Int32} {dt : Nat} {pc : Nat} {dflt : Int} (h2 : (pc : Int) + dflt = (dt : Int)) : ∀ (ks : List (Int32 × Nat)), (pc : Int) + Op.lookupswitch.offset (ks.map (fun q => (q.1.toInt, (q.2 : Int) - (pc : Int)))) dflt x.toInt = (swt x dt ks : Int)
  | [] => h2
  | q :: r => by
    rw [List.map_cons, Op.lookupswitch.offset_cons]
    unfold swt
    by_cases e : x = q.1
    · rw [if_pos e, if_pos (by rw [e])]; omega
    · rw [if_neg e, if_neg (fun z => e (Int32.toInt_inj.mp z.symm))]
      exact swt_look h2 r
theorem sw_look (hexec : p.tables.exec = Jvm.exec) (hb : c.code = cc) {dflt : Int} {ps : Array (Int × Int)} {len : Nat} {x : Int32} (ks : List (Int32 × Nat)) (dt : Nat) (hdg : decode cc pc = .ok (.lookupswitch dflt ps, len))
    (h1 : (ps.toList.zip (ps.toList.drop 1)).all (fun (a, next) => a.1 < next.1) = true) (h2 : (pc : Int) + dflt = (dt : Int)) (h3 : ps.toList = ks.map (fun q => (q.1.toInt, (q.2 : Int) - (pc : Int))))
    (k : swk x dt (fun t => W p l e R s m args below meth c H locs cells slots Q (F0 m t ls rest)) ks) : W p l e R s m args below meth c H locs cells slots Q (F0 m pc ls (.int x :: rest)) := by
  have k : W p l e R s m args below meth c H locs cells slots Q (F0 m (swt x dt ks) ls rest) := swk_use k
  exact lv_lookup hexec hb hdg h1 rfl (by rw [h3]; exact swt_look h2 ks) k
/-- a method's words: its own code, and all good words of the tables -/
abbrev wy (y : MethodName) (cc : ByteArray) (ml : Nat) (rt : Option FieldType) : List Cond := Cond.code y cc ml rt :: LL
theorem gLL {x : Cond} {ws : List Cond} (h : ∀ w ∈ ws, w ∈ LL) : GoodIn (x :: LL) ws := fun w hw => ⟨List.mem_cons_of_mem _ (h w hw), (LLg w (h w hw)).2⟩
theorem htsL {x : Cond} {args : Array Value} {s : State} (h : ∀ w ∈ x :: LL, w.before args s = true) : ∀ w ∈ LL, w.before args s = true := fun w hw => h w (List.mem_cons_of_mem _ hw)
/-- the contract of a method that only reads: the answer is v, nothing changes -/
abbrev cRd (l : Launch) (y : MethodName) (cc : ByteArray) (ml : Nat) (rt : FieldType) (fr lo : Nat) (D : va_G) (tys : List (ClassId × FieldType)) (av : List Value) (ws : va_W) (v : Int32) : Prop :=
  Met l y (wy y cc ml (some rt)) { frames := fr, cells := 0, slots := 0, locals := lo } (va_Pc av (fun U => va_P D cls ws U.heap ∧ va_K D cls tys U)) (vp_Si (fun r => r = v)) 0 0 (fun _ => False)
theorem rd_fin {v : Int32} {a : Array Value} {st0 : List Value} (hr : va_Run p l e R s m args below meth c H locs cells slots 0 0 (F0 m pc ls st0) rest (vp_Si (fun r => r = v) a) (fun _ => False))
    (kk : W p l e R s m args below meth c H locs cells slots Q (F0 m (pc + 3) ls (.int v :: rest))) : W p l e R s m args below meth c H locs cells slots Q (F0 m pc ls st0) := by
  refine vp_callSi (post := fun r => r = v) (a := a) (rest := rest) ?_ (fun r hr => by subst hr; exact kk)
  intro T hT X
  obtain ⟨v, st₀, t, T', L, h0, X', hL, e1, -, hq, st⟩ := hr T hT X
  exact ⟨v, st₀, t, T', L, h0, X', hL, e1, hq, st⟩
variable {y : MethodName} {bytes : ByteArray} {maxL fr lo idx nL : Nat} {rt : FieldType} {D : va_G} {tys tyc : List (ClassId × FieldType)} {As : List Value} {b : Nat} {ws wc : va_W} {v : Int32} {x : Cond} {own C : String} {T : u_T} {N : Nat} {fs : List Value} {st0 : List Value}
theorem rd_V (S : CallFix p m c cc nL s args (x :: LL) own) (hM : cRd l y bytes maxL rt fr lo D tyc (.ref b :: As) wc v) (hP : va_P D cls ws H) (hK : va_K D cls tys s)
    (iC : List Nat) (hC : iC.filterMap (fun i => ws[i]?) = wc) (iT : List Nat) (hT : iT.filterMap (fun i => tys[i]?) = tyc) (q0 ci : Nat) (he : wc[q0]? = some (b, .inr (ci, fs))) (hc : cls[ci]? = some (C, T, N))
    (l1 : Cond.methodLink own idx y ∈ LL) (l2 : Cond.instanceMethod y ∈ LL) (l3 : Cond.selects C y y ∈ LL) (l4 : Cond.initialized C ∈ LL) (l5 : Cond.code y bytes maxL (some rt) ∈ LL)
    (hd : y.cls = C ∧ y.cls ≠ "java/lang/invoke/MethodHandle" ∧ y.cls ≠ "java/lang/invoke/VarHandle" ∧ (parseMethodDescriptor y.desc).map (fun d => d.parameters.length) = some As.length)
    (hR : fr + 1 ≤ R.frames ∧ 8 + (maxL + 11) + lo ≤ R.locals) (hls : ls.size = nL) (hcap : cells ≤ R.cells ∧ slots ≤ R.slots) (hst : (rest.map fun v => v.category).sum ≤ 8) (hdg : decode cc pc = .ok (.invokevirtual idx, 3)) (h0 : st0 = As.reverse ++ .ref b :: rest)
    (kk : W p l e R s m args below meth c H locs cells slots Q (F0 m (pc + 3) ls (.int v :: rest))) : W p l e R s m args below meth c H locs cells slots Q (F0 m pc ls st0) := by
  have hPc := hP.sub iC hC
  have hKc := hK.sub iT hT
  refine rd_fin (a := (Value.ref b :: As).toArray) (va_runV (As := As) (rest := rest) S hM (cwV As.length S.2.2.2.2 (gLL ?_) rfl rfl rfl hd hR) ⟨fun a U g mk q => ⟨q.1, q.2.1, va_K.moved (u := U) (U := U.calling g mk a) (Vm.Alike.refl U.vm) q.2.2⟩, va_recv hKc hPc hc he, fun U hU hW => ⟨rfl, by rw [hU]; exact hPc, va_K.moved hW.alike hKc⟩⟩ rfl rfl hls h0 (lv_room hst) hdg ⟨hcap.1, hcap.2⟩) kk
  intro w hw
  simp only [wsV, wy, List.cons_append, List.nil_append, List.mem_cons] at hw
  rcases hw with rfl | rfl | rfl | rfl | rfl | hw
  · exact l1
  · exact l2
  · exact l3
  · exact l4
  · exact l5
  · exact hw
theorem rd_U {xm : MethodName} {owner : String} (S : CallFix p m c cc nL s args (x :: LL) own) (hM : cRd l y bytes maxL rt fr lo D tyc (.ref b :: As) wc v) (hP : va_P D cls ws H) (hK : va_K D cls tys s)
    (iC : List Nat) (hC : iC.filterMap (fun i => ws[i]?) = wc) (iT : List Nat) (hT : iT.filterMap (fun i => tys[i]?) = tyc) (q0 ci : Nat) (he : wc[q0]? = some (b, .inr (ci, fs))) (hc : cls[ci]? = some (C, T, N))
    (l1 : Cond.methodLink own idx xm ∈ LL) (l2 : Cond.sameMethod xm.cls owner xm.name xm.desc ∈ LL) (l3 : Cond.selects C xm y ∈ LL) (l4 : Cond.instanceMethod y ∈ LL) (l5 : Cond.initialized y.cls ∈ LL) (l6 : Cond.code y bytes maxL (some rt) ∈ LL)
    (hyx : y = ⟨owner, xm.name, xm.desc⟩) (hd : owner ≠ "java/lang/invoke/MethodHandle" ∧ owner ≠ "java/lang/invoke/VarHandle" ∧ (parseMethodDescriptor xm.desc).map (fun d => d.parameters.length) = some As.length)
    (hR : fr + 1 ≤ R.frames ∧ 8 + (maxL + 11) + lo ≤ R.locals) (hls : ls.size = nL) (hcap : cells ≤ R.cells ∧ slots ≤ R.slots) (hst : (rest.map fun v => v.category).sum ≤ 8) (hdg : decode cc pc = .ok (.invokevirtual idx, 3)) (h0 : st0 = As.reverse ++ .ref b :: rest)
    (kk : W p l e R s m args below meth c H locs cells slots Q (F0 m (pc + 3) ls (.int v :: rest))) : W p l e R s m args below meth c H locs cells slots Q (F0 m pc ls st0) := by
  have hPc := hP.sub iC hC
  have hKc := hK.sub iT hT
  refine rd_fin (a := (Value.ref b :: As).toArray) (va_runU (As := As) (rest := rest) S hM (va_cwU As.length S.2.2.2.2 (gLL ?_) rfl rfl rfl hyx hd hR) ⟨fun a U g mk q => ⟨q.1, q.2.1, va_K.moved (u := U) (U := U.calling g mk a) (Vm.Alike.refl U.vm) q.2.2⟩, va_recv hKc hPc hc he, fun U hU hW => ⟨rfl, by rw [hU]; exact hPc, va_K.moved hW.alike hKc⟩⟩ rfl rfl hls h0 (lv_room hst) hdg ⟨hcap.1, hcap.2⟩) kk
  intro w hw
  simp only [va_wsU, wy, List.cons_append, List.nil_append, List.mem_cons] at hw
  rcases hw with rfl | rfl | rfl | rfl | rfl | rfl | hw
  · exact l1
  · exact l2
  · exact l3
  · exact l4
  · exact l5
  · exact l6
  · exact hw
theorem rd_S (S : CallFix p m c cc nL s args (x :: LL) own) (hM : cRd l y bytes maxL rt fr lo D tyc As wc v) (hP : va_P D cls ws H) (hK : va_K D cls tys s)
    (iC : List Nat) (hC : iC.filterMap (fun i => ws[i]?) = wc) (iT : List Nat) (hT : iT.filterMap (fun i => tys[i]?) = tyc)
    (l1 : Cond.methodLink own idx y ∈ LL) (l2 : Cond.static y ∈ LL) (l3 : Cond.initialized y.cls ∈ LL) (l4 : Cond.code y bytes maxL (some rt) ∈ LL)
    (hd : y.cls ≠ "java/lang/invoke/MethodHandle" ∧ y.cls ≠ "java/lang/invoke/VarHandle" ∧ (parseMethodDescriptor y.desc).map (fun d => d.parameters.length) = some As.length)
    (hR : fr + 1 ≤ R.frames ∧ 8 + (maxL + 11) + lo ≤ R.locals) (hls : ls.size = nL) (hcap : cells ≤ R.cells ∧ slots ≤ R.slots) (hst : (rest.map fun v => v.category).sum ≤ 8) (hdg : decode cc pc = .ok (.invokestatic idx, 3)) (h0 : st0 = As.reverse ++ rest)
    (kk : W p l e R s m args below meth c H locs cells slots Q (F0 m (pc + 3) ls (.int v :: rest))) : W p l e R s m args below meth c H locs cells slots Q (F0 m pc ls st0) := by
  have hPc := hP.sub iC hC
  have hKc := hK.sub iT hT
  refine rd_fin (a := As.toArray) (va_runS (As := As) (rest := rest) S hM (va_cwS As.length S.2.2.2.2 (gLL ?_) rfl rfl rfl hd hR) ⟨fun a U g mk q => ⟨q.1, q.2.1, va_K.moved (u := U) (U := U.calling g mk a) (Vm.Alike.refl U.vm) q.2.2⟩, fun U hU hW => ⟨rfl, by rw [hU]; exact hPc, va_K.moved hW.alike hKc⟩⟩ rfl rfl hls h0 (lv_room hst) hdg ⟨hcap.1, hcap.2⟩) kk
  intro w hw
  simp only [va_wsS, wy, List.cons_append, List.nil_append, List.mem_cons] at hw
  rcases hw with rfl | rfl | rfl | rfl | hw
  · exact l1
  · exact l2
  · exact l3
  · exact l4
  · exact hw
end TLS
/-- an index that was looked at is in the array -/
theorem ix_in {i : Int32} {n N : Nat} (h0 : ¬ i < 0) (h1 : ¬ nI n ≤ i) (hn : n ≤ N) (hN : N < 2 ^ 31) : vp_in i N := by
  obtain ⟨j, hj, rfl⟩ := nI_of h0
  have : j < n := by
    rcases Nat.lt_or_ge j n with h | h
    · exact h
    · exact absurd (nI_le h hj) h1
  exact vp_in_nI (Nat.lt_of_lt_of_le this hn) hN
