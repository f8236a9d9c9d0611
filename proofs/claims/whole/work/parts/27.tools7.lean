/-! tools 7: the tree's and the labels' writing methods, called by the parser -/
theorem t_open_ok {t : TR} (k v w : Int32) (ho : okTr t) (hb : trn t < 2 ^ 20) (h0 : 0 < trc t) : okTr (t_open t k v w) := by
  have h1 := t_room_c ho h0
  have h2 := t_room_n t
  have h3 := (t_room_ok ho hb).2
  refine ⟨?_, ?_⟩
  · show trn (t_room t) + 1 ≤ trc (t_room t)
    omega
  · exact h3
theorem t_close_ok {t : TR} (k : Int32) (ho : okTr t) : okTr (t_close t k) := by unfold t_close; split <;> exact ho
theorem t_setKind_ok {t : TR} (k x : Int32) (ho : okTr t) : okTr (t_setKind t k x) := by unfold t_setKind; split <;> exact ho
theorem t_setValue_ok {t : TR} (k x : Int32) (ho : okTr t) : okTr (t_setValue t k x) := by unfold t_setValue; split <;> exact ho
theorem t_wrap_ok {t : TR} (i k v w : Int32) (ho : okTr t) (hb : trn t < 2 ^ 20) (h0 : 0 < trc t) : okTr (t_wrap t i k v w) := by
  unfold t_wrap
  split
  · exact ho
  · have h1 := t_room_c ho h0
    have h2 := t_room_n t
    have h3 := (t_room_ok ho hb).2
    refine ⟨?_, h3⟩
    show trn (t_room t) + 1 ≤ trc (t_room t)
    omega
abbrev tB (st : ST) (t : TR) (mc ms : Nat) : ST := setB (setTr st t) (bC st - mc) (bS st - ms)
def p_open (st : ST) (k v w : Int32) : Rz := if trn (sTr st) < 2 ^ 20 ∧ 0 < trc (sTr st) ∧ rcT (sTr st) ≤ bC st ∧ rsT (sTr st) ≤ bS st then some (.inr (nI (trn (sTr st)), tB st (t_open (sTr st) k v w) (rcT (sTr st)) (rsT (sTr st)))) else none
def p_close (st : ST) (k : Int32) : Rz := some (.inr (0, tB st (t_close (sTr st) k) 0 0))
def p_setKind (st : ST) (k x : Int32) : Rz := some (.inr (0, tB st (t_setKind (sTr st) k x) 0 0))
def p_setValue (st : ST) (k x : Int32) : Rz := some (.inr (0, tB st (t_setValue (sTr st) k x) 0 0))
def wcT (t : TR) (i : Int32) : Nat := if f_Tr_has t i = 0 then 0 else rcT t
def wsT (t : TR) (i : Int32) : Nat := if f_Tr_has t i = 0 then 0 else rsT t
def p_wrap (st : ST) (i k v w : Int32) : Rz := if trn (sTr st) < 2 ^ 20 ∧ 0 < trc (sTr st) ∧ wcT (sTr st) i ≤ bC st ∧ wsT (sTr st) i ≤ bS st then some (.inr (0, tB st (t_wrap (sTr st) i k v w) (wcT (sTr st) i) (wsT (sTr st) i))) else none
section TLT
variable {p : Program} {l : Launch} {e : Env} {R : Room} {s : State} {m : MethodId} {args : Array Value} {below : List Frame} {meth : Method} {c : Code} {H : Heap} {locs : List Loc} {cells slots : Nat} {Q : State → Prop}
variable {cc bytes : ByteArray} {pc maxL fr lo idx nL mc ms : Nat} {ls : Array Slot} {rest st0 As : List Value} {x : Cond} {own : String} {y : MethodName}
variable {D : va_G} {cI cZ : ClassId} {sa rk hp hc h a1 a2 a3 a4 ht hq n1 n2 : Nat} {ad : AD} {st stO : ST} {g : Rz} {A : Nat → Prop} {tr1 : TR}
theorem pT_v (CF : CallFix p m c cc nL s args (x :: LL) own) (hM : cMv l y bytes maxL fr lo mc ms D cI cZ sa rk (.ref ht :: As) (wT cI ht (ad, sTr st)) H.size (fun u : AD × TR => u.2 = tr1) (wT cI ht))
    (hP : va_P D cls (wQ cI cZ hp hc h a1 a2 a3 a4 ht hq n1 n2 (ad, st)) H) (hD : va_D A (wQ cI cZ hp hc h a1 a2 a3 a4 ht hq n1 n2 (ad, st))) (hK : va_K D cls (ty2 cI cZ) s) (hS : va_S A s.heap H locs) (hA : ∀ q, s.heap.size ≤ q → A q) (hC : CX cI sa s) (hZ : ZX rk A s s.heap)
    (l1 : Cond.methodLink own idx y ∈ LL) (l2 : Cond.instanceMethod y ∈ LL) (l3 : Cond.selects R_Tr y y ∈ LL) (l4 : Cond.initialized R_Tr ∈ LL) (l5 : Cond.code y bytes maxL none ∈ LL)
    (hd : y.cls = R_Tr ∧ y.cls ≠ "java/lang/invoke/MethodHandle" ∧ y.cls ≠ "java/lang/invoke/VarHandle" ∧ (parseMethodDescriptor y.desc).map (fun d => d.parameters.length) = some As.length)
    (hR : fr + 1 ≤ R.frames ∧ 8 + (maxL + 11) + lo ≤ R.locals) (hRc : R.cells = bC stO) (hRs : R.slots = bS stO) (hls : ls.size = nL) (hst : (rest.map fun v => v.category).sum ≤ 8) (hdg : decode cc pc = .ok (.invokevirtual idx, 3)) (h0 : st0 = As.reverse ++ .ref ht :: rest)
    (hcl : cells + bC st ≤ bC stO) (hsl : slots + bS st ≤ bS stO) (hmc : mc ≤ bC st) (hms : ms ≤ bS st) (ok : okSt st) (hok1 : okTr tr1) (hg : g = some (.inr (0, tB st tr1 mc ms)))
    (kk : ∀ (ad1 : AD) (st1 : ST) (H1 : Heap) (locs1 : List Loc), g = some (.inr (0, st1)) → okSt st1 → bC st1 ≤ bC st → bS st1 ≤ bS st →
      va_P D cls (wQ cI cZ hp hc h a1 a2 a3 a4 ht hq n1 n2 (ad1, st1)) H1 → va_D A (wQ cI cZ hp hc h a1 a2 a3 a4 ht hq n1 n2 (ad1, st1)) → va_S A s.heap H1 locs1 →
      W p l e R s m args below meth c H1 locs1 (cells + (bC st - bC st1)) (slots + (bS st - bS st1)) Q (F0 m (pc + 3) ls rest)) :
    W p l e R s m args below meth c H locs cells slots Q (F0 m pc ls st0) := by
  refine mu_Vv (S := AD × TR) (w' := wT cI ht) (wr := [(wQ cI cZ hp hc h a1 a2 a3 a4 ht hq n1 n2 (ad, st)).getD 0 (0, .inr (0, [])), (wQ cI cZ hp hc h a1 a2 a3 a4 ht hq n1 n2 (ad, st)).getD 1 (0, .inr (0, [])), (wQ cI cZ hp hc h a1 a2 a3 a4 ht hq n1 n2 (ad, st)).getD 2 (0, .inr (0, [])), (wQ cI cZ hp hc h a1 a2 a3 a4 ht hq n1 n2 (ad, st)).getD 3 (0, .inr (0, [])), (wQ cI cZ hp hc h a1 a2 a3 a4 ht hq n1 n2 (ad, st)).getD 4 (0, .inr (0, [])), (wQ cI cZ hp hc h a1 a2 a3 a4 ht hq n1 n2 (ad, st)).getD 5 (0, .inr (0, [])), (wQ cI cZ hp hc h a1 a2 a3 a4 ht hq n1 n2 (ad, st)).getD 6 (0, .inr (0, [])), (wQ cI cZ hp hc h a1 a2 a3 a4 ht hq n1 n2 (ad, st)).getD 12 (0, .inr (0, [])), (wQ cI cZ hp hc h a1 a2 a3 a4 ht hq n1 n2 (ad, st)).getD 13 (0, .inr (0, [])), (wQ cI cZ hp hc h a1 a2 a3 a4 ht hq n1 n2 (ad, st)).getD 14 (0, .inr (0, []))]) (As := As) (rest := rest) CF hM hP hD hK hS hA hC hZ [7, 8, 9, 10, 11] [0, 1, 2, 3, 4, 5, 6, 12, 13, 14] rfl rfl (by decide) (by decide) (by decide) 0 4 rfl rfl l1 l2 l3 l4 l5 hd hR hls ⟨by rw [hRc]; omega, by rw [hRs]; omega⟩ hst hdg h0 (fun u H1 locs1 hw hP1 hD1 hS1 => ?_)
  obtain ⟨ad1, t9⟩ := u
  have hw : t9 = tr1 := hw
  subst hw
  have hP2 : va_P D cls (wQ cI cZ hp hc h a1 a2 a3 a4 ht hq n1 n2 (ad1, tB st t9 mc ms)) H1 := hP1.sub [0, 1, 2, 3, 4, 5, 6, 10, 11, 12, 13, 14, 7, 8, 9] rfl
  have hD2 : va_D A (wQ cI cZ hp hc h a1 a2 a3 a4 ht hq n1 n2 (ad1, tB st t9 mc ms)) := hD1.sub [0, 1, 2, 3, 4, 5, 6, 10, 11, 12, 13, 14, 7, 8, 9] (by decide) rfl
  have k := kk ad1 (tB st t9 mc ms) H1 locs1 hg ⟨ok.1, hok1, ok.2.2.1, ok.2.2.2⟩ (Nat.sub_le _ _) (Nat.sub_le _ _) hP2 hD2 hS1
  have e1 : bC st - bC (tB st t9 mc ms) = mc := by show bC st - (bC st - mc) = mc; omega
  have e2 : bS st - bS (tB st t9 mc ms) = ms := by show bS st - (bS st - ms) = ms; omega
  rw [e1, e2] at k
  exact k
theorem pT_i {v : Int32} (CF : CallFix p m c cc nL s args (x :: LL) own) (hM : cMi l y bytes maxL .int fr lo mc ms D cI cZ sa rk (.ref ht :: As) (wT cI ht (ad, sTr st)) H.size (fun (r : Int32) (u : AD × TR) => r = v ∧ u.2 = tr1) (wT cI ht))
    (hP : va_P D cls (wQ cI cZ hp hc h a1 a2 a3 a4 ht hq n1 n2 (ad, st)) H) (hD : va_D A (wQ cI cZ hp hc h a1 a2 a3 a4 ht hq n1 n2 (ad, st))) (hK : va_K D cls (ty2 cI cZ) s) (hS : va_S A s.heap H locs) (hA : ∀ q, s.heap.size ≤ q → A q) (hC : CX cI sa s) (hZ : ZX rk A s s.heap)
    (l1 : Cond.methodLink own idx y ∈ LL) (l2 : Cond.instanceMethod y ∈ LL) (l3 : Cond.selects R_Tr y y ∈ LL) (l4 : Cond.initialized R_Tr ∈ LL) (l5 : Cond.code y bytes maxL (some .int) ∈ LL)
    (hd : y.cls = R_Tr ∧ y.cls ≠ "java/lang/invoke/MethodHandle" ∧ y.cls ≠ "java/lang/invoke/VarHandle" ∧ (parseMethodDescriptor y.desc).map (fun d => d.parameters.length) = some As.length)
    (hR : fr + 1 ≤ R.frames ∧ 8 + (maxL + 11) + lo ≤ R.locals) (hRc : R.cells = bC stO) (hRs : R.slots = bS stO) (hls : ls.size = nL) (hst : (rest.map fun v => v.category).sum ≤ 8) (hdg : decode cc pc = .ok (.invokevirtual idx, 3)) (h0 : st0 = As.reverse ++ .ref ht :: rest)
    (hcl : cells + bC st ≤ bC stO) (hsl : slots + bS st ≤ bS stO) (hmc : mc ≤ bC st) (hms : ms ≤ bS st) (ok : okSt st) (hok1 : okTr tr1) (hg : g = some (.inr (v, tB st tr1 mc ms)))
    (kk : ∀ (r : Int32) (ad1 : AD) (st1 : ST) (H1 : Heap) (locs1 : List Loc), g = some (.inr (r, st1)) → okSt st1 → bC st1 ≤ bC st → bS st1 ≤ bS st →
      va_P D cls (wQ cI cZ hp hc h a1 a2 a3 a4 ht hq n1 n2 (ad1, st1)) H1 → va_D A (wQ cI cZ hp hc h a1 a2 a3 a4 ht hq n1 n2 (ad1, st1)) → va_S A s.heap H1 locs1 →
      W p l e R s m args below meth c H1 locs1 (cells + (bC st - bC st1)) (slots + (bS st - bS st1)) Q (F0 m (pc + 3) ls (.int r :: rest))) :
    W p l e R s m args below meth c H locs cells slots Q (F0 m pc ls st0) := by
  refine mu_Vi (S := AD × TR) (w' := wT cI ht) (wr := [(wQ cI cZ hp hc h a1 a2 a3 a4 ht hq n1 n2 (ad, st)).getD 0 (0, .inr (0, [])), (wQ cI cZ hp hc h a1 a2 a3 a4 ht hq n1 n2 (ad, st)).getD 1 (0, .inr (0, [])), (wQ cI cZ hp hc h a1 a2 a3 a4 ht hq n1 n2 (ad, st)).getD 2 (0, .inr (0, [])), (wQ cI cZ hp hc h a1 a2 a3 a4 ht hq n1 n2 (ad, st)).getD 3 (0, .inr (0, [])), (wQ cI cZ hp hc h a1 a2 a3 a4 ht hq n1 n2 (ad, st)).getD 4 (0, .inr (0, [])), (wQ cI cZ hp hc h a1 a2 a3 a4 ht hq n1 n2 (ad, st)).getD 5 (0, .inr (0, [])), (wQ cI cZ hp hc h a1 a2 a3 a4 ht hq n1 n2 (ad, st)).getD 6 (0, .inr (0, [])), (wQ cI cZ hp hc h a1 a2 a3 a4 ht hq n1 n2 (ad, st)).getD 12 (0, .inr (0, [])), (wQ cI cZ hp hc h a1 a2 a3 a4 ht hq n1 n2 (ad, st)).getD 13 (0, .inr (0, [])), (wQ cI cZ hp hc h a1 a2 a3 a4 ht hq n1 n2 (ad, st)).getD 14 (0, .inr (0, []))]) (As := As) (rest := rest) CF hM hP hD hK hS hA hC hZ [7, 8, 9, 10, 11] [0, 1, 2, 3, 4, 5, 6, 12, 13, 14] rfl rfl (by decide) (by decide) (by decide) 0 4 rfl rfl l1 l2 l3 l4 l5 hd hR hls ⟨by rw [hRc]; omega, by rw [hRs]; omega⟩ hst hdg h0 (fun r u H1 locs1 hw hP1 hD1 hS1 => ?_)
  obtain ⟨ad1, t9⟩ := u
  obtain ⟨hr, hw⟩ := hw
  have hw : t9 = tr1 := hw
  subst hw
  subst hr
  have hP2 : va_P D cls (wQ cI cZ hp hc h a1 a2 a3 a4 ht hq n1 n2 (ad1, tB st t9 mc ms)) H1 := hP1.sub [0, 1, 2, 3, 4, 5, 6, 10, 11, 12, 13, 14, 7, 8, 9] rfl
  have hD2 : va_D A (wQ cI cZ hp hc h a1 a2 a3 a4 ht hq n1 n2 (ad1, tB st t9 mc ms)) := hD1.sub [0, 1, 2, 3, 4, 5, 6, 10, 11, 12, 13, 14, 7, 8, 9] (by decide) rfl
  have k := kk r ad1 (tB st t9 mc ms) H1 locs1 hg ⟨ok.1, hok1, ok.2.2.1, ok.2.2.2⟩ (Nat.sub_le _ _) (Nat.sub_le _ _) hP2 hD2 hS1
  have e1 : bC st - bC (tB st t9 mc ms) = mc := by show bC st - (bC st - mc) = mc; omega
  have e2 : bS st - bS (tB st t9 mc ms) = ms := by show bS st - (bS st - ms) = ms; omega
  rw [e1, e2] at k
  exact k
end TLT
theorem p_open_c {st : ST} {k v w : Int32} (hn : p_open st k v w ≠ none) : trn (sTr st) < 2 ^ 20 ∧ 0 < trc (sTr st) ∧ rcT (sTr st) ≤ bC st ∧ rsT (sTr st) ≤ bS st := by
  unfold p_open at hn
  split at hn
  · assumption
  · exact absurd rfl hn
theorem p_open_e {st : ST} {k v w : Int32} (hn : p_open st k v w ≠ none) : p_open st k v w = some (.inr (nI (trn (sTr st)), tB st (t_open (sTr st) k v w) (rcT (sTr st)) (rsT (sTr st)))) := by
  have := p_open_c hn
  unfold p_open
  rw [if_pos this]
theorem p_wrap_c {st : ST} {i k v w : Int32} (hn : p_wrap st i k v w ≠ none) : trn (sTr st) < 2 ^ 20 ∧ 0 < trc (sTr st) ∧ wcT (sTr st) i ≤ bC st ∧ wsT (sTr st) i ≤ bS st := by
  unfold p_wrap at hn
  split at hn
  · assumption
  · exact absurd rfl hn
theorem p_wrap_e {st : ST} {i k v w : Int32} (hn : p_wrap st i k v w ≠ none) : p_wrap st i k v w = some (.inr (0, tB st (t_wrap (sTr st) i k v w) (wcT (sTr st) i) (wsT (sTr st) i))) := by
  have := p_wrap_c hn
  unfold p_wrap
  rw [if_pos this]
