def f_Cu_refuse (st : ST) (wh : Int32) : Rz := if bC st < 1 ∨ bS st < 6 then none else some (.inl (wh, bC st - 1, bS st - 6))
theorem thrC_in : ∀ w ∈ (vx_atS R_Cu 33 IAE ["java/lang/RuntimeException", "java/lang/Exception"]).filter goodWord, w ∈ LL := fun w hw => List.mem_filter.mpr ⟨(by decide +kernel : ∀ w ∈ (vx_atS R_Cu 33 IAE ["java/lang/RuntimeException", "java/lang/Exception"]).filter goodWord, w ∈ lw_tbl) w hw, (List.mem_filter.mp hw).2⟩
set_option maxRecDepth 100000 in
set_option maxHeartbeats 4000000 in
theorem m_Cu_refuse (l : Launch) (hlt : l.stackTraces = false) (dC : Nat → ClassId) (dI : Nat → Nat → Nat) (cI cZ : ClassId) (sa rk hp hc h a1 a2 a3 a4 ht hq n1 n2 : Nat) (ad : AD) (st : ST) (hst : okSt st) (sz : Nat) (wh : Int32) (hg : f_Cu_refuse st wh ≠ none) : cPv l y_Cu_refuse c_Cu_refuse 2 6 82 (dC, dI) cI cZ sa rk hp hc h a1 a2 a3 a4 ht hq n1 n2 ad st sz [.ref hp, .int wh] (f_Cu_refuse st wh) := by
  have hg1 : ¬ (bC st < 1 ∨ bS st < 6) := fun z => hg (by unfold f_Cu_refuse; rw [if_pos z])
  have hgv : f_Cu_refuse st wh = some (.inl (wh, bC st - 1, bS st - 6)) := by unfold f_Cu_refuse; rw [if_neg hg1]
  refine vx_ofW (cc := c_Cu_refuse) (maxL := 2) (ret := none) (by decide) rfl ?_
  intro p e s m args below meth c s₁ B hml hnt hv
  obtain ⟨rfl, hsz, hP, hK, hD0, hC, hZ⟩ := hv
  have hx := B.exec
  have hb := B.bytes
  have hr := B.returns
  have hts0 := atoms_spec (ws := wy y_Cu_refuse c_Cu_refuse 2 none) B.pre
  have hts := htsL hts0
  have hown : s.vm.findClass R_Cu = some m.cls := findClass_of_methodNamed B.named
  have hlocks := B.notSynchronized
  subst hsz
  have hD := hD0.self (sz := s.heap.size)
  generalize hAe : va_A (wQ cI cZ hp hc h a1 a2 a3 a4 ht hq n1 n2 (ad, st)) s.heap.size = A at hD hZ ⊢
  have hA : ∀ q : Nat, s.heap.size ≤ q → A q := fun q h => by rw [← hAe]; exact Or.inr h
  have hS : va_S A s.heap s.heap [] := va_S.rf
  have hcl : 0 + bC st ≤ bC st := Nat.le_of_eq (Nat.zero_add _)
  have hsl : 0 + bS st ≤ bS st := Nat.le_of_eq (Nat.zero_add _)
  have hl := lv_entry ([.ref hp, .int wh]) (n := 2) (Nat.le_of_ble_eq_true rfl)
  rw [lg_entry_eq]
  generalize (lg_sl ([.ref hp, .int wh]) ++ List.replicate (2 - (lg_sl ([.ref hp, .int wh])).length) Slot.unset).toArray = ls at hl ⊢
  have hl : lv_has ls 2 [(0, .ref hp), (1, .int wh)] := hl
  refine lv_aload_n hx hb d_Cu_refuse_0 rfl (lv_at hl 0 rfl) ?_
  refine lv_iload_n hx hb d_Cu_refuse_1 rfl (lv_at hl 1 rfl) ?_
  refine va_put (D := (dC, dI)) (ci := 2) (v := .int wh) (ty := .int) (C := R_Pa) (T := T_Pa) (N := 7) hx hb hts u_Pa ty_Pa tk_Pa nm_Pa hown hK hP hD hS 0 rfl rfl 5 (by decide) (hts _ L_217) (fun _ h9 => h9) rfl (by decide +kernel) rfl rfl (Nat.le_of_ble_eq_true rfl) d_Cu_refuse_2 (fun H locs hP hD hS => ?_)
  have hP : va_P (dC, dI) cls (wQ cI cZ hp hc h a1 a2 a3 a4 ht hq n1 n2 (ad, setB (setRa st wh) (bC st - 1) (bS st - 6))) H := hP
  have hD : va_D A (wQ cI cZ hp hc h a1 a2 a3 a4 ht hq n1 n2 (ad, setB (setRa st wh) (bC st - 1) (bS st - 6))) := hD
  refine vx_throwS hx hb hlt (own := R_Cu) (cls := IAE) (text := "refused") (names := ["java/lang/RuntimeException", "java/lang/Exception"]) (ik := 29) (is := 31) (ic := 33) (sa := sa) (A := A) hown (by decide +kernel) (by decide +kernel) (hts _ L_464) (hts _ L_94) hC.2.1 ?_ (by decide +kernel) hZ.1 hZ.2.1 hS (hl.1.trans hml.symm) d_Cu_refuse_5 d_Cu_refuse_8 d_Cu_refuse_9 d_Cu_refuse_11 d_Cu_refuse_14 (fun x hx => (hnt x hx).elim) (by show 2 + 3 < 6; decide) (by show 0 + (13 * (2 + 1) + 43) ≤ 82; decide) ?_ ?_ hlocks ?_ hS.2.2 ?_ ?_
  · exact vx_hat (L := vx_atS R_Cu 33 IAE ["java/lang/RuntimeException", "java/lang/Exception"]) (B := [.declares (Bundle.initS "java/lang/RuntimeException"), .declares (Bundle.initS "java/lang/Exception"), .declares (Bundle.initS Bundle.tN), .castable IAE IAE]) (fun w hw => hts w (thrC_in w hw)) (by decide +kernel) (vx_c (va_Nw.use rfl hC.2.2.1.1) (vx_c (va_Nw.use rfl hC.2.2.1.2.1) (vx_c (va_Nw.use rfl hC.2.2.1.2.2.1) (vx_c (va_Nw.use rfl hC.2.2.1.2.2.2) vx_n))))
  · show 0 + 1 ≤ bC st; omega
  · show 0 + 6 ≤ bS st; omega
  · intro t hvm hz hq9
    refine ⟨(hc, ad, setB (setRa st wh) (bC st - 1) (bS st - 6)), ⟨hgv, ⟨hst.1, hst.2.1, hst.2.2.1, hst.2.2.2⟩, Nat.sub_le _ _, Nat.sub_le _ _⟩, ⟨rfl, hP.kept (fun k q hk => hq9 _ (hP k q hk).lt), va_K.moved hvm hK, hD⟩, Nat.le_trans hS.1 hz, fun q h1 h2 => by rw [hq9 q (Nat.lt_of_lt_of_le h1 hS.1)]; exact hS.2.1 q h1 h2⟩
  · rw [hgv]; show 0 + 1 ≤ bC st - (bC st - 1); omega
  · rw [hgv]; show 0 + 6 ≤ bS st - (bS st - 6); omega
