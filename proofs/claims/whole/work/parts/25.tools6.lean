/-! tools 6: the call of Arrays.copyOf: one cell more, the rest as it was -/
section TLC
variable {p : Program} {l : Launch} {e : Env} {R : Room} {s : State} {m : MethodId} {args : Array Value} {below : List Frame} {meth : Method} {c : Code} {H : Heap} {locs : List Loc} {cells slots : Nat} {Q : State → Prop}
variable {cc : ByteArray} {pc idx nL : Nat} {ls : Array Slot} {rest st0 : List Value} {dC : Nat → ClassId} {dI : Nat → Nat → Nat} {ws : va_W} {A : Nat → Prop} {cI cZ : ClassId} {sa rk a0 n0 N : Nat} {f : Nat → Int32} {x : Cond} {own : String}
theorem cp_S (CF : CallFix p m c cc nL s args (x :: LL) own) (hP : va_P (dC, dI) cls ws H) (hD : va_D A ws) (hK : va_K (dC, dI) cls (ty2 cI cZ) s) (hS : va_S A s.heap H locs) (hA : ∀ q, s.heap.size ≤ q → A q) (hC : CX cI sa s) (hZ : ZX rk A s s.heap)
    (q0 : Nat) (he : ws[q0]? = some (a0, .inl (cI, n0, .inl f))) (l1 : Cond.methodLink own idx y_copyOf ∈ LL) (l2 : Cond.static y_copyOf ∈ LL) (l3 : Cond.initialized y_copyOf.cls ∈ LL) (l4 : Cond.code y_copyOf c_copyOf 3 (some (.array .int)) ∈ LL)
    (hN : n0 < N) (hb4 : N * 4 ≤ 536870912) (hR : 1 + 1 ≤ R.frames ∧ 8 + (3 + 11) + 100 ≤ R.locals) (hls : ls.size = nL) (hcap : cells + 1 ≤ R.cells ∧ slots + N ≤ R.slots) (hst : (rest.map fun v => v.category).sum ≤ 8) (hdg : decode cc pc = .ok (.invokestatic idx, 3)) (h0 : st0 = [.ref a0, .int (nI N)].reverse ++ rest)
    (kk : ∀ (q : Nat) (H1 : Heap) (locs1 : List Loc), va_P (dC, dI) cls (ws ++ [(q, .inl (cI, N, .inl (cpn f n0)))]) H1 → va_D A (ws ++ [(q, .inl (cI, N, .inl (cpn f n0)))]) → va_S A s.heap H1 locs1 → W p l e R s m args below meth c H1 locs1 (cells + 1) (slots + N) Q (F0 m (pc + 3) ls (.ref q :: rest))) :
    W p l e R s m args below meth c H locs cells slots Q (F0 m pc ls st0) := by
  have h1 : [q0].map (fun i => ws[i]?) = [(a0, (.inl (cI, n0, .inl f) : va_E))].map some := by simp [he]
  have hPc := hP.sub [q0] (fm_of h1)
  have hDc := hD.sub [q0] (by rfl) h1
  have hF := va_free hD hS hA [q0] h1
  have hd : y_copyOf.cls ≠ "java/lang/invoke/MethodHandle" ∧ y_copyOf.cls ≠ "java/lang/invoke/VarHandle" ∧ (parseMethodDescriptor y_copyOf.desc).map (fun d => d.parameters.length) = some 2 := by decide +kernel
  refine va_callr (va_runS (As := [.ref a0, .int (nI N)]) (rest := rest) CF (m_copyOf l dC dI cI cZ sa rk a0 n0 N f H.size hN hb4) (va_cwS 2 CF.2.2.2.2 (gLL ?_) rfl rfl rfl hd hR) ⟨prM_blind, fun U hU hW => ⟨rfl, by rw [hU], by rw [hU]; exact hPc, va_K.moved hW.alike hK, hDc.weaken (fun _ _ _ _ => trivial), XX.use hC hZ hS hF hU hW⟩⟩ rfl rfl hls h0 (lv_room hst) hdg hcap) hS (fun q _ h => hF q h) hF (fun u q t H1 locs1 ht hvm hw hB hz1 hk1 hS1 => ?_)
  · intro w hw
    simp only [va_wsS, wy, List.cons_append, List.nil_append, List.mem_cons] at hw
    rcases hw with rfl | rfl | rfl | rfl | hw
    · exact l1
    · exact l2
    · exact l3
    · exact l4
    · exact hw
  · obtain ⟨hP1, hK1, hD1⟩ := hB
    rw [ht] at hP1
    have hqn : H.size ≤ q := by
      have hq1 : va_A [(a0, (.inl (cI, n0, .inl f) : va_E))] H.size q := hD1.2 1 _ rfl
      rcases hq1 with ⟨k, e9, hk9⟩ | h
      · exfalso
        have hk0 : k < 1 := (List.getElem?_eq_some_iff.mp hk9).1
        rw [show k = 0 by omega] at hk9
        have : a0 = q := by have := Option.some.inj hk9; exact congrArg Prod.fst this
        exact absurd (hD1.1 0 1 _ _ rfl rfl this) (by decide)
      · exact h
    have hPk : va_P (dC, dI) cls ws H1 := by
      intro k z hz
      by_cases hka : z.1 = a0
      · have : k = q0 := hD.1 k q0 z _ hz he hka
        subst this
        have hze : z = (a0, .inl (cI, n0, .inl f)) := Option.some.inj (hz.symm.trans he)
        rw [hze]
        exact hP1 0 _ rfl
      · refine (hP k z hz).kept (hk1 z.1 (hP k z hz).lt ?_)
        rintro (⟨j, e9, hj⟩ | h)
        · have hj0 : j < 1 := (List.getElem?_eq_some_iff.mp hj).1
          rw [show j = 0 by omega] at hj
          exact hka (by have := Option.some.inj hj; exact (congrArg Prod.fst this).symm)
        · exact absurd (hP k z hz).lt (by omega)
    refine kk q H1 locs1 (hPk.app (fun k z hz => ?_)) (hD.app (w2 := [(q, .inl (cI, N, .inl (cpn f n0)))]) ⟨fun i j a b hi hj _ => ?_, fun k z hz => ?_⟩ (fun i j a b hi hj hab => ?_)) hS1
    · have hk0 : k < 1 := (List.getElem?_eq_some_iff.mp hz).1
      rw [show k = 0 by omega] at hz
      cases hz
      exact hP1 1 _ rfl
    · have hi0 : i < 1 := (List.getElem?_eq_some_iff.mp hi).1
      have hj0 : j < 1 := (List.getElem?_eq_some_iff.mp hj).1
      omega
    · have hk0 : k < 1 := (List.getElem?_eq_some_iff.mp hz).1
      rw [show k = 0 by omega] at hz
      cases hz
      exact hA q (Nat.le_trans hS.1 hqn)
    · have hj0 : j < 1 := (List.getElem?_eq_some_iff.mp hj).1
      rw [show j = 0 by omega] at hj
      cases hj
      have := (hP i a hi).lt
      have hab : a.1 = q := hab
      omega
end TLC
theorem nI_2m (n : Nat) : (2 : Int32) * nI n = nI (2 * n) := pk_mul 2 n
