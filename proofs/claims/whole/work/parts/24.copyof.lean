def y_copyOf : MethodName := ⟨"java/util/Arrays", "copyOf", "([II)[I"⟩
abbrev c_copyOf : ByteArray := prog_24_method_123_code
theorem d_copyOf_0 : decode c_copyOf 0 = .ok (.iload_n 1, 1) := by decide +kernel
theorem d_copyOf_1 : decode c_copyOf 1 = .ok (.aload_n 0, 1) := by decide +kernel
theorem d_copyOf_2 : decode c_copyOf 2 = .ok (.arraylength, 1) := by decide +kernel
theorem d_copyOf_3 : decode c_copyOf 3 = .ok (.if_icmp .ne 11, 3) := by decide +kernel
theorem d_copyOf_14 : decode c_copyOf 14 = .ok (.iload_n 1, 1) := by decide +kernel
theorem d_copyOf_15 : decode c_copyOf 15 = .ok (.newarray .int, 2) := by decide +kernel
theorem d_copyOf_17 : decode c_copyOf 17 = .ok (.astore_n 2, 1) := by decide +kernel
theorem d_copyOf_18 : decode c_copyOf 18 = .ok (.aload_n 0, 1) := by decide +kernel
theorem d_copyOf_19 : decode c_copyOf 19 = .ok (.iconst 0, 1) := by decide +kernel
theorem d_copyOf_20 : decode c_copyOf 20 = .ok (.aload_n 2, 1) := by decide +kernel
theorem d_copyOf_21 : decode c_copyOf 21 = .ok (.iconst 0, 1) := by decide +kernel
theorem d_copyOf_22 : decode c_copyOf 22 = .ok (.aload_n 0, 1) := by decide +kernel
theorem d_copyOf_23 : decode c_copyOf 23 = .ok (.arraylength, 1) := by decide +kernel
theorem d_copyOf_24 : decode c_copyOf 24 = .ok (.iload_n 1, 1) := by decide +kernel
theorem d_copyOf_25 : decode c_copyOf 25 = .ok (.invokestatic 304, 3) := by decide +kernel
theorem d_copyOf_28 : decode c_copyOf 28 = .ok (.invokestatic 150, 3) := by decide +kernel
theorem d_copyOf_31 : decode c_copyOf 31 = .ok (.aload_n 2, 1) := by decide +kernel
theorem d_copyOf_32 : decode c_copyOf 32 = .ok (.areturn, 1) := by decide +kernel
section CPY
variable {p : Program} {l : Launch} {e : Env} {R : Room} {s : State} {m : MethodId} {args : Array Value} {below : List Frame} {meth : Method} {c : Code} {H H0 : Heap} {locs : List Loc} {cells slots : Nat} {Q : State → Prop}
variable {cc : ByteArray} {pc : Nat} {ls : Array Slot} {rest : List Value} {D : va_G} {cl : List vw_C} {tys : List (ClassId × FieldType)} {ws : va_W} {A : Nat → Prop} {cI : ClassId}
/-- a new array of ints, whose class is known -/
theorem va_newI (hexec : p.tables.exec = Jvm.exec) (hb : c.code = cc) (harr : (Cond.arrayClass (newarray.typeOf .int)).before args s = true) (hI : s.vm.findClass "[I" = some cI) (hP : va_P D cl ws H) (hD : va_D A ws) (hS : va_S A H0 H locs) (hA : ∀ q, H0.size ≤ q → A q)
    {n : Int32} {N' : Nat} (hn : ¬ n < 0) (hN : n.toNatClampNeg = N') (hbytes : N' * 4 ≤ 536870912) (hcells : cells + 1 ≤ R.cells) (hslots : slots + N' ≤ R.slots) (hdg : decode cc pc = .ok (.newarray .int, 2))
    (kk : ∀ (q : Nat) (H1 : Heap), va_P D cl (ws ++ [(q, .inl (cI, N', .inl (fun _ => 0)))]) H1 → va_D A (ws ++ [(q, .inl (cI, N', .inl (fun _ => 0)))]) → va_S A H0 H1 locs →
      W p l e R s m args below meth c H1 locs (cells + 1) (slots + N') Q (F0 m (pc + 2) ls (.ref q :: rest))) : W p l e R s m args below meth c H locs cells slots Q (F0 m pc ls (.int n :: rest)) := by
  refine va_newaK hexec hb harr rfl hdg rfl hn hN hbytes hcells hslots rfl fun H1 cA e1 z1 o1 hAr hNm => ?_
  have hk : ∀ (k : Nat) (x : Nat × va_E), ws[k]? = some x → H1[x.1]? = H[x.1]? := fun k x hx => o1 x.1 ((hP k x hx).lt)
  have hcA : cA = cI := Option.some.inj (hNm.symm.trans hI)
  subst hcA
  refine kk H.size H1 ((hP.kept hk).app (fun k x hx => ?_)) (hD.push hP rfl (hA _ hS.1)) ⟨Nat.le_trans hS.1 (by omega), fun x h1 h2 => (o1 x (Nat.lt_of_lt_of_le h1 hS.1)).trans (hS.2.1 x h1 h2), hS.2.2⟩
  have hz : k < 1 := (List.getElem?_eq_some_iff.mp hx).1
  rw [show k = 0 by omega] at hx
  cases hx
  exact e1
end CPY
def cpn (f : Nat → Int32) (n : Nat) : Nat → Int32 := va_cpy f (fun _ => 0) 0 0 n
set_option maxRecDepth 100000 in
set_option maxHeartbeats 4000000 in
/-- Arrays.copyOf to a longer length -/
theorem m_copyOf (l : Launch) (dC : Nat → ClassId) (dI : Nat → Nat → Nat) (cI cZ : ClassId) (sa rk a0 n0 N : Nat) (f : Nat → Int32) (sz : Nat) (hN : n0 < N) (hb4 : N * 4 ≤ 536870912) :
    Met l y_copyOf (wy y_copyOf c_copyOf 3 (some (.array .int))) { frames := 1, cells := 1, slots := N, locals := 100 } (prM (dC, dI) cI cZ sa rk [.ref a0, .int (nI N)] [(a0, .inl (cI, n0, .inl f))] sz)
      (va_Qr (fun _ : Unit => True) (fun _ q t => va_P (dC, dI) cls [(a0, .inl (cI, n0, .inl f)), (q, .inl (cI, N, .inl (cpn f n0)))] t.heap ∧ va_K (dC, dI) cls (ty2 cI cZ) t ∧ va_D (va_A [(a0, .inl (cI, n0, .inl f))] sz) [(a0, .inl (cI, n0, .inl f)), (q, .inl (cI, N, .inl (cpn f n0)))]) (va_A [(a0, .inl (cI, n0, .inl f))] sz)) 1 N (va_A [(a0, .inl (cI, n0, .inl f))] sz) := by
  refine Met.ofW (cc := c_copyOf) (maxL := 3) (ret := some (.array .int)) (by decide) rfl ?_
  intro p e s m args below meth c s₁ B hml hv
  obtain ⟨rfl, hsz, hP, hK, hD0, hC, hZ⟩ := hv
  have hx := B.exec
  have hb := B.bytes
  have hr := B.returns
  have hts0 := atoms_spec (ws := wy y_copyOf c_copyOf 3 (some (.array .int))) B.pre
  have hts := htsL hts0
  have hown : s.vm.findClass "java/util/Arrays" = some m.cls := findClass_of_methodNamed B.named
  have hlocks := B.notSynchronized
  subst hsz
  have hD := hD0.self (sz := s.heap.size)
  generalize hAe : va_A [(a0, .inl (cI, n0, .inl f))] s.heap.size = A at hD hZ ⊢
  have hA : ∀ q : Nat, s.heap.size ≤ q → A q := fun q h => by rw [← hAe]; exact Or.inr h
  have hS : va_S A s.heap s.heap [] := va_S.rf
  have h31 : N < 2 ^ 31 := by omega
  have hl := lv_entry ([.ref a0, .int (nI N)]) (n := 3) (Nat.le_of_ble_eq_true rfl)
  rw [lg_entry_eq]
  generalize (lg_sl ([.ref a0, .int (nI N)]) ++ List.replicate (3 - (lg_sl ([.ref a0, .int (nI N)])).length) Slot.unset).toArray = ls at hl ⊢
  have hl : lv_has ls 3 [(0, .ref a0), (1, .int (nI N))] := hl
  refine lv_iload_n hx hb d_copyOf_0 rfl (lv_at hl 1 rfl) ?_
  refine lv_aload_n hx hb d_copyOf_1 rfl (lv_at hl 0 rfl) ?_
  refine va_alen (D := (dC, dI)) hx hb hK hP 0 0 rfl rfl rfl d_copyOf_2 ?_
  refine lv_icmp_ne (tgt := 14) hx hb d_copyOf_3 (by decide) (fun _ => ?_) (fun q9 => absurd ((nI_eq (a := N) (b := n0) h31 (by omega)).mp q9) (by omega))
  refine lv_iload_n hx hb d_copyOf_14 rfl (lv_at hl 1 rfl) ?_
  refine va_newI (D := (dC, dI)) (cl := cls) (N' := N) hx hb (hts _ L_131) hC.1 hP hD hS hA (nI_pos h31) (nI_clamp h31) hb4 (Nat.le_of_ble_eq_true rfl) (by show 0 + N ≤ N; omega) d_copyOf_15 (fun q H hP hD hS => ?_)
  have hP : va_P (dC, dI) cls [(a0, .inl (cI, n0, .inl f)), (q, .inl (cI, N, .inl (fun _ => 0)))] H := hP
  have hD : va_D A [(a0, .inl (cI, n0, .inl f)), (q, .inl (cI, N, .inl (fun _ => 0)))] := hD
  refine lv_astore_n (lv' := [(2, .ref q), (0, .ref a0), (1, .int (nI N))]) hx hb d_copyOf_17 rfl hl (by decide) rfl (fun ls hl => ?_)
  refine lv_aload_n hx hb d_copyOf_18 rfl (lv_at hl 1 rfl) ?_
  refine lv_iconst (v := 0) hx hb d_copyOf_19 (by decide) ?_
  refine lv_aload_n hx hb d_copyOf_20 rfl (lv_at hl 0 rfl) ?_
  refine lv_iconst (v := 0) hx hb d_copyOf_21 (by decide) ?_
  refine lv_aload_n hx hb d_copyOf_22 rfl (lv_at hl 1 rfl) ?_
  refine va_alen (D := (dC, dI)) hx hb hK hP 0 0 rfl rfl rfl d_copyOf_23 ?_
  refine lv_iload_n hx hb d_copyOf_24 rfl (lv_at hl 2 rfl) ?_
  refine va_mmin hx hb (hml.trans hl.1.symm) hown (hts _ L_386) (hts _ L_370) (hts _ L_96) (hts _ L_371) (Nat.le_of_ble_eq_true rfl) (Nat.le_of_ble_eq_true rfl) (by show 0 + 1 ≤ 1; decide) (by show 0 + N ≤ N; omega) d_copyOf_25 ?_
  refine lv_eqi (y := nI n0) (if_neg (fun z => nI_nlt (a := N) (b := n0) (by omega) h31 z)) ?_
  refine va_copyi (D := (dC, dI)) hx hb (hml.trans hl.1.symm) hown (hts _ L_387) (hts _ L_389) (hts _ L_388) (hts _ L_98) hK hP hD hS 0 1 0 0 (ty := .int) rfl rfl rfl rfl rfl (by decide) (by decide) (nI_pos (n := n0) (by omega)) ?_ ?_ (fun _ _ => rfl) (Nat.le_of_ble_eq_true rfl) (Nat.le_of_ble_eq_true rfl) d_copyOf_28 (fun H locs hP hD hS => ?_)
  · rw [nI_clamp (n := n0) (by omega)]; show 0 + n0 ≤ n0; omega
  · rw [nI_clamp (n := n0) (by omega)]; show 0 + n0 ≤ N; omega
  have e0 : va_cpy f (fun _ => 0) (0 : Int32).toNatClampNeg (0 : Int32).toNatClampNeg (nI n0).toNatClampNeg = cpn f n0 := by rw [nI_clamp (n := n0) (by omega)]; rfl
  rw [e0] at hP hD
  have hP : va_P (dC, dI) cls [(a0, .inl (cI, n0, .inl f)), (q, .inl (cI, N, .inl (cpn f n0)))] H := hP
  have hD : va_D A [(a0, .inl (cI, n0, .inl f)), (q, .inl (cI, N, .inl (cpn f n0)))] := hD
  refine lv_aload_n hx hb d_copyOf_31 rfl (lv_at hl 0 rfl) ?_
  refine W.widen (k := 1) (n := N) (by show 0 + 1 ≤ 1; decide) (by show 0 + N ≤ N; omega) ?_
  exact W.aret (v := .ref q) hx hb hr (Or.inr ⟨_, rfl⟩) (Or.inr ⟨_, rfl⟩) (fun t ht hW => ⟨⟨(), q, rfl, trivial, by rw [ht]; exact hP, va_K.moved hW.alike hK, hD⟩, hS.F ht⟩) hS.2.2 d_copyOf_32
