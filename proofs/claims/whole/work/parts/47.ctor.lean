/-! constructors -/
section NWZ
variable {p : Program} {l : Launch} {e : Env} {R : Room} {s : State} {m : MethodId} {args : Array Value} {below : List Frame} {meth : Method} {c : Code} {H : Heap} {locs : List Loc} {cells slots : Nat} {Q : State → Prop} {D : va_G} {cl : List vw_C} {cZ : ClassId} {A : Nat → Prop} {H0 : Heap} {ws : va_W} {cc : ByteArray} {pc : Nat} {ls : Array Slot} {rest : List Value}
theorem va_newZ (hexec : p.tables.exec = Jvm.exec) (hb : c.code = cc) (harr : (Cond.arrayClass (newarray.typeOf .boolean)).before args s = true) (hI : s.vm.findClass "[Z" = some cZ) (hP : va_P D cl ws H) (hD : va_D A ws) (hS : va_S A H0 H locs) (hA : ∀ q, H0.size ≤ q → A q)
    {n : Int32} {N' : Nat} (hn : ¬ n < 0) (hN : n.toNatClampNeg = N') (hbytes : N' * 1 ≤ 536870912) (hcells : cells + 1 ≤ R.cells) (hslots : slots + N' ≤ R.slots) (hdg : decode cc pc = .ok (.newarray .boolean, 2))
    (kk : ∀ (q : Nat) (H1 : Heap), va_P D cl (ws ++ [(q, .inl (cZ, N', .inl (fun _ => 0)))]) H1 → va_D A (ws ++ [(q, .inl (cZ, N', .inl (fun _ => 0)))]) → va_S A H0 H1 locs →
      W p l e R s m args below meth c H1 locs (cells + 1) (slots + N') Q (F0 m (pc + 2) ls (.ref q :: rest))) : W p l e R s m args below meth c H locs cells slots Q (F0 m pc ls (.int n :: rest)) := by
  refine va_newaK hexec hb harr rfl hdg rfl hn hN hbytes hcells hslots rfl fun H1 cA e1 z1 o1 hAr hNm => ?_
  have hk : ∀ (k : Nat) (x : Nat × va_E), ws[k]? = some x → H1[x.1]? = H[x.1]? := fun k x hx => o1 x.1 ((hP k x hx).lt)
  have hcA : cA = cZ := Option.some.inj (hNm.symm.trans hI)
  subst hcA
  refine kk H.size H1 ((hP.kept hk).app (fun k x hx => ?_)) (hD.push hP rfl (hA _ hS.1)) ⟨Nat.le_trans hS.1 (by omega), fun x h1 h2 => (o1 x (Nat.lt_of_lt_of_le h1 hS.1)).trans (hS.2.1 x h1 h2), hS.2.2⟩
  have hz : k < 1 := (List.getElem?_eq_some_iff.mp hx).1
  rw [show k = 0 by omega] at hx
  cases hx
  exact e1
end NWZ
def CN (cZ : ClassId) (U : State) : Prop := U.vm.findClass "[Z" = some cZ ∧ va_Nw (.methodLinkNest "SyntaxTree" 9 y_Tk_init "SyntaxTree") U ∧ va_Nw (.methodLinkNest "SyntaxTree" 18 y_Tr_init "SyntaxTree") U ∧ va_Nw (.methodLinkNest "SyntaxTree$Parser" 9 y_La_init "SyntaxTree") U
theorem CN.warm {cZ : ClassId} {s U : State} (hW : s.WarmedH U.vm) (h : CN cZ s) : CN cZ U := ⟨by rw [hW.alike.findClass]; exact h.1, va_Nw.warmM hW h.2.1, va_Nw.warmM hW h.2.2.1, va_Nw.warmM hW h.2.2.2⟩
theorem CN.same {cZ : ClassId} {u U : State} (hv : u.vm = U.vm) (h : CN cZ u) : CN cZ U := ⟨by rw [← hv]; exact h.1, va_Nw.same rfl hv h.2.1, va_Nw.same rfl hv h.2.2.1, va_Nw.same rfl hv h.2.2.2⟩
abbrev prN (D : va_G) (cI cZ : ClassId) (sa rk : Nat) (av : List Value) (w : va_W) (sz : Nat) : Array Value → State → Prop :=
  va_Pc av (fun U => (U.heap.size = sz ∧ va_P D cls w U.heap ∧ va_K D cls (ty2 cI cZ) U ∧ va_D (fun _ => True) w ∧ XX cI sa rk w sz U) ∧ CN cZ U)
theorem prN_blind {D : va_G} {cI cZ : ClassId} {sa rk : Nat} {av : List Value} {w : va_W} {sz : Nat} : FrameBlind (prN D cI cZ sa rk av w sz) :=
  fun a U g mk q => ⟨q.1, ⟨q.2.1.1, q.2.1.2.1, va_K.moved (u := U) (U := U.calling g mk a) (Vm.Alike.refl U.vm) q.2.1.2.2.1, q.2.1.2.2.2.1, XX.call q.2.1.2.2.2.2⟩, CN.same rfl q.2.2⟩
abbrev cNv {S : Type} (l : Launch) (y : MethodName) (cc : ByteArray) (ml fr lo mc ms : Nat) (D : va_G) (cI cZ : ClassId) (sa rk : Nat) (av : List Value) (w : va_W) (sz : Nat) (post : S → Prop) (w' : S → va_W) : Prop :=
  Met l y (wy y cc ml none) { frames := fr, cells := mc, slots := ms, locals := lo } (prN D cI cZ sa rk av w sz) (va_Qv post (wB D cI cZ (va_A w sz) w') (va_A w sz)) mc ms (va_A w sz)
def zf : Nat → Int32 := fun _ => 0
abbrev tk0 : TK := (zf, zf, zf, zf, 0, 64)
abbrev tr0 : TR := (zf, zf, zf, zf, 0, 64)
abbrev lb0 : LB := (zf, zf, 0)
set_option maxRecDepth 100000 in
set_option maxHeartbeats 4000000 in
theorem m_Tk_init (l : Launch) (dC : Nat → ClassId) (dI : Nat → Nat → Nat) (cI cZ : ClassId) (sa rk q sz : Nat) : cNv l y_Tk_init c_Tk_init 1 1 30 4 256 (dC, dI) cI cZ sa rk [.ref q] [(q, .inr (3, [.null, .null, .null, .null, .int 0]))] sz (fun _ : AD => True) (fun u => wK cI q (u, tk0)) := by
  refine Met.ofW (cc := c_Tk_init) (maxL := 1) (ret := none) (by decide) rfl ?_
  intro p e s m args below meth c s₁ B hml hv9
  obtain ⟨rfl, ⟨hsz, hP, hK, hD0, hC, hZ⟩, hN⟩ := hv9
  have hx := B.exec
  have hb := B.bytes
  have hr := B.returns
  have hts0 := atoms_spec (ws := wy y_Tk_init c_Tk_init 1 none) B.pre
  have hts := htsL hts0
  have hown : s.vm.findClass R_Tk = some m.cls := findClass_of_methodNamed B.named
  have hlocks := B.notSynchronized
  have hin : meth.name = "<init>" := (name_of_methodNamed B.named B.method).1
  subst hsz
  have hD := hD0.self (sz := s.heap.size)
  generalize hAe : va_A [(q, .inr (3, [.null, .null, .null, .null, .int 0]))] s.heap.size = A at hD hZ ⊢
  have hA : ∀ q : Nat, s.heap.size ≤ q → A q := fun q h => by rw [← hAe]; exact Or.inr h
  have hS : va_S A s.heap s.heap [] := va_S.rf
  have hl := lv_entry ([.ref q]) (n := 1) (Nat.le_of_ble_eq_true rfl)
  rw [lg_entry_eq]
  generalize (lg_sl ([.ref q]) ++ List.replicate (1 - (lg_sl ([.ref q])).length) Slot.unset).toArray = ls at hl ⊢
  have hl : lv_has ls 1 [(0, .ref q)] := hl
  refine lv_aload_n hx hb d_Tk_init_0 rfl (lv_at hl 0 rfl) ?_
  refine W.objInit hx hb hown (hts _ L_114) (hts _ L_107) (hts _ L_108) rfl (by rw [hml]; exact hl.1) rfl d_Tk_init_1 (Nat.le_of_ble_eq_true rfl) (Nat.le_of_ble_eq_true rfl) ?_
  refine W.eq (g2 := F0 m 4 ls []) rfl ?_
  refine lv_aload_n hx hb d_Tk_init_4 rfl (lv_at hl 0 rfl) ?_
  refine lv_bipush (v := 64) hx hb d_Tk_init_5 (by decide) ?_
  refine va_newI (D := (dC, dI)) (cl := cls) (N' := 64) hx hb (hts _ L_131) hC.1 hP hD hS hA (by decide) (by decide +kernel) (by decide) (Nat.le_of_ble_eq_true rfl) (Nat.le_of_ble_eq_true rfl) d_Tk_init_7 (fun q1 H hP hD hS => ?_)
  have hP : va_P (dC, dI) cls [(q, .inr (3, [.null, .null, .null, .null, .int 0])), (q1, .inl (cI, 64, .inl zf))] H := hP
  have hD : va_D A [(q, .inr (3, [.null, .null, .null, .null, .int 0])), (q1, .inl (cI, 64, .inl zf))] := hD
  refine va_put (D := (dC, dI)) (ci := 3) (v := .ref q1) (ty := .array .int) (C := R_Tk) (T := T_Tk) (N := 5) hx hb hts u_Tk ty_Tk tk_Tk nm_Tk hown hK hP hD hS 0 rfl rfl 0 (by decide) (hts _ L_115) (fun _ h9 => h9) rfl (by decide +kernel) rfl rfl (Nat.le_of_ble_eq_true rfl) d_Tk_init_9 (fun H locs hP hD hS => ?_)
  have hP : va_P (dC, dI) cls [(q, .inr (3, [.ref q1, .null, .null, .null, .int 0])), (q1, .inl (cI, 64, .inl zf))] H := hP
  have hD : va_D A [(q, .inr (3, [.ref q1, .null, .null, .null, .int 0])), (q1, .inl (cI, 64, .inl zf))] := hD
  refine lv_aload_n hx hb d_Tk_init_12 rfl (lv_at hl 0 rfl) ?_
  refine lv_bipush (v := 64) hx hb d_Tk_init_13 (by decide) ?_
  refine va_newI (D := (dC, dI)) (cl := cls) (N' := 64) hx hb (hts _ L_131) hC.1 hP hD hS hA (by decide) (by decide +kernel) (by decide) (Nat.le_of_ble_eq_true rfl) (Nat.le_of_ble_eq_true rfl) d_Tk_init_15 (fun q2 H hP hD hS => ?_)
  have hP : va_P (dC, dI) cls [(q, .inr (3, [.ref q1, .null, .null, .null, .int 0])), (q1, .inl (cI, 64, .inl zf)), (q2, .inl (cI, 64, .inl zf))] H := hP
  have hD : va_D A [(q, .inr (3, [.ref q1, .null, .null, .null, .int 0])), (q1, .inl (cI, 64, .inl zf)), (q2, .inl (cI, 64, .inl zf))] := hD
  refine va_put (D := (dC, dI)) (ci := 3) (v := .ref q2) (ty := .array .int) (C := R_Tk) (T := T_Tk) (N := 5) hx hb hts u_Tk ty_Tk tk_Tk nm_Tk hown hK hP hD hS 0 rfl rfl 1 (by decide) (hts _ L_116) (fun _ h9 => h9) rfl (by decide +kernel) rfl rfl (Nat.le_of_ble_eq_true rfl) d_Tk_init_17 (fun H locs hP hD hS => ?_)
  have hP : va_P (dC, dI) cls [(q, .inr (3, [.ref q1, .ref q2, .null, .null, .int 0])), (q1, .inl (cI, 64, .inl zf)), (q2, .inl (cI, 64, .inl zf))] H := hP
  have hD : va_D A [(q, .inr (3, [.ref q1, .ref q2, .null, .null, .int 0])), (q1, .inl (cI, 64, .inl zf)), (q2, .inl (cI, 64, .inl zf))] := hD
  refine lv_aload_n hx hb d_Tk_init_20 rfl (lv_at hl 0 rfl) ?_
  refine lv_bipush (v := 64) hx hb d_Tk_init_21 (by decide) ?_
  refine va_newI (D := (dC, dI)) (cl := cls) (N' := 64) hx hb (hts _ L_131) hC.1 hP hD hS hA (by decide) (by decide +kernel) (by decide) (Nat.le_of_ble_eq_true rfl) (Nat.le_of_ble_eq_true rfl) d_Tk_init_23 (fun q3 H hP hD hS => ?_)
  have hP : va_P (dC, dI) cls [(q, .inr (3, [.ref q1, .ref q2, .null, .null, .int 0])), (q1, .inl (cI, 64, .inl zf)), (q2, .inl (cI, 64, .inl zf)), (q3, .inl (cI, 64, .inl zf))] H := hP
  have hD : va_D A [(q, .inr (3, [.ref q1, .ref q2, .null, .null, .int 0])), (q1, .inl (cI, 64, .inl zf)), (q2, .inl (cI, 64, .inl zf)), (q3, .inl (cI, 64, .inl zf))] := hD
  refine va_put (D := (dC, dI)) (ci := 3) (v := .ref q3) (ty := .array .int) (C := R_Tk) (T := T_Tk) (N := 5) hx hb hts u_Tk ty_Tk tk_Tk nm_Tk hown hK hP hD hS 0 rfl rfl 2 (by decide) (hts _ L_117) (fun _ h9 => h9) rfl (by decide +kernel) rfl rfl (Nat.le_of_ble_eq_true rfl) d_Tk_init_25 (fun H locs hP hD hS => ?_)
  have hP : va_P (dC, dI) cls [(q, .inr (3, [.ref q1, .ref q2, .ref q3, .null, .int 0])), (q1, .inl (cI, 64, .inl zf)), (q2, .inl (cI, 64, .inl zf)), (q3, .inl (cI, 64, .inl zf))] H := hP
  have hD : va_D A [(q, .inr (3, [.ref q1, .ref q2, .ref q3, .null, .int 0])), (q1, .inl (cI, 64, .inl zf)), (q2, .inl (cI, 64, .inl zf)), (q3, .inl (cI, 64, .inl zf))] := hD
  refine lv_aload_n hx hb d_Tk_init_28 rfl (lv_at hl 0 rfl) ?_
  refine lv_bipush (v := 64) hx hb d_Tk_init_29 (by decide) ?_
  refine va_newI (D := (dC, dI)) (cl := cls) (N' := 64) hx hb (hts _ L_131) hC.1 hP hD hS hA (by decide) (by decide +kernel) (by decide) (Nat.le_of_ble_eq_true rfl) (Nat.le_of_ble_eq_true rfl) d_Tk_init_31 (fun q4 H hP hD hS => ?_)
  have hP : va_P (dC, dI) cls [(q, .inr (3, [.ref q1, .ref q2, .ref q3, .null, .int 0])), (q1, .inl (cI, 64, .inl zf)), (q2, .inl (cI, 64, .inl zf)), (q3, .inl (cI, 64, .inl zf)), (q4, .inl (cI, 64, .inl zf))] H := hP
  have hD : va_D A [(q, .inr (3, [.ref q1, .ref q2, .ref q3, .null, .int 0])), (q1, .inl (cI, 64, .inl zf)), (q2, .inl (cI, 64, .inl zf)), (q3, .inl (cI, 64, .inl zf)), (q4, .inl (cI, 64, .inl zf))] := hD
  refine va_put (D := (dC, dI)) (ci := 3) (v := .ref q4) (ty := .array .int) (C := R_Tk) (T := T_Tk) (N := 5) hx hb hts u_Tk ty_Tk tk_Tk nm_Tk hown hK hP hD hS 0 rfl rfl 3 (by decide) (hts _ L_118) (fun _ h9 => h9) rfl (by decide +kernel) rfl rfl (Nat.le_of_ble_eq_true rfl) d_Tk_init_33 (fun H locs hP hD hS => ?_)
  have hP : va_P (dC, dI) cls [(q, .inr (3, [.ref q1, .ref q2, .ref q3, .ref q4, .int 0])), (q1, .inl (cI, 64, .inl zf)), (q2, .inl (cI, 64, .inl zf)), (q3, .inl (cI, 64, .inl zf)), (q4, .inl (cI, 64, .inl zf))] H := hP
  have hD : va_D A [(q, .inr (3, [.ref q1, .ref q2, .ref q3, .ref q4, .int 0])), (q1, .inl (cI, 64, .inl zf)), (q2, .inl (cI, 64, .inl zf)), (q3, .inl (cI, 64, .inl zf)), (q4, .inl (cI, 64, .inl zf))] := hD
  refine lv_aload_n hx hb d_Tk_init_36 rfl (lv_at hl 0 rfl) ?_
  refine lv_iconst (v := 0) hx hb d_Tk_init_37 (by decide) ?_
  refine va_put (D := (dC, dI)) (ci := 3) (v := .int 0) (ty := .int) (C := R_Tk) (T := T_Tk) (N := 5) hx hb hts u_Tk ty_Tk tk_Tk nm_Tk hown hK hP hD hS 0 rfl rfl 4 (by decide) (hts _ L_119) (fun _ h9 => h9) rfl (by decide +kernel) rfl rfl (Nat.le_of_ble_eq_true rfl) d_Tk_init_38 (fun H locs hP hD hS => ?_)
  have hP : va_P (dC, dI) cls [(q, .inr (3, [.ref q1, .ref q2, .ref q3, .ref q4, .int 0])), (q1, .inl (cI, 64, .inl zf)), (q2, .inl (cI, 64, .inl zf)), (q3, .inl (cI, 64, .inl zf)), (q4, .inl (cI, 64, .inl zf))] H := hP
  have hD : va_D A [(q, .inr (3, [.ref q1, .ref q2, .ref q3, .ref q4, .int 0])), (q1, .inl (cI, 64, .inl zf)), (q2, .inl (cI, 64, .inl zf)), (q3, .inl (cI, 64, .inl zf)), (q4, .inl (cI, 64, .inl zf))] := hD
  exact W.vret hx hb hr (fun t ht9 hW => ⟨⟨(q1, q2, q3, q4), rfl, trivial, by rw [ht9]; exact hP, va_K.moved hW.alike hK, hD⟩, hS.F ht9⟩) hS.2.2 d_Tk_init_41
set_option maxRecDepth 100000 in
set_option maxHeartbeats 4000000 in
theorem m_Tr_init (l : Launch) (dC : Nat → ClassId) (dI : Nat → Nat → Nat) (cI cZ : ClassId) (sa rk q sz : Nat) : cNv l y_Tr_init c_Tr_init 1 1 30 4 256 (dC, dI) cI cZ sa rk [.ref q] [(q, .inr (4, [.null, .null, .null, .null, .int 0]))] sz (fun _ : AD => True) (fun u => wT cI q (u, tr0)) := by
  refine Met.ofW (cc := c_Tr_init) (maxL := 1) (ret := none) (by decide) rfl ?_
  intro p e s m args below meth c s₁ B hml hv9
  obtain ⟨rfl, ⟨hsz, hP, hK, hD0, hC, hZ⟩, hN⟩ := hv9
  have hx := B.exec
  have hb := B.bytes
  have hr := B.returns
  have hts0 := atoms_spec (ws := wy y_Tr_init c_Tr_init 1 none) B.pre
  have hts := htsL hts0
  have hown : s.vm.findClass R_Tr = some m.cls := findClass_of_methodNamed B.named
  have hlocks := B.notSynchronized
  have hin : meth.name = "<init>" := (name_of_methodNamed B.named B.method).1
  subst hsz
  have hD := hD0.self (sz := s.heap.size)
  generalize hAe : va_A [(q, .inr (4, [.null, .null, .null, .null, .int 0]))] s.heap.size = A at hD hZ ⊢
  have hA : ∀ q : Nat, s.heap.size ≤ q → A q := fun q h => by rw [← hAe]; exact Or.inr h
  have hS : va_S A s.heap s.heap [] := va_S.rf
  have hl := lv_entry ([.ref q]) (n := 1) (Nat.le_of_ble_eq_true rfl)
  rw [lg_entry_eq]
  generalize (lg_sl ([.ref q]) ++ List.replicate (1 - (lg_sl ([.ref q])).length) Slot.unset).toArray = ls at hl ⊢
  have hl : lv_has ls 1 [(0, .ref q)] := hl
  refine lv_aload_n hx hb d_Tr_init_0 rfl (lv_at hl 0 rfl) ?_
  refine W.objInit hx hb hown (hts _ L_137) (hts _ L_107) (hts _ L_108) rfl (by rw [hml]; exact hl.1) rfl d_Tr_init_1 (Nat.le_of_ble_eq_true rfl) (Nat.le_of_ble_eq_true rfl) ?_
  refine W.eq (g2 := F0 m 4 ls []) rfl ?_
  refine lv_aload_n hx hb d_Tr_init_4 rfl (lv_at hl 0 rfl) ?_
  refine lv_bipush (v := 64) hx hb d_Tr_init_5 (by decide) ?_
  refine va_newI (D := (dC, dI)) (cl := cls) (N' := 64) hx hb (hts _ L_131) hC.1 hP hD hS hA (by decide) (by decide +kernel) (by decide) (Nat.le_of_ble_eq_true rfl) (Nat.le_of_ble_eq_true rfl) d_Tr_init_7 (fun q1 H hP hD hS => ?_)
  have hP : va_P (dC, dI) cls [(q, .inr (4, [.null, .null, .null, .null, .int 0])), (q1, .inl (cI, 64, .inl zf))] H := hP
  have hD : va_D A [(q, .inr (4, [.null, .null, .null, .null, .int 0])), (q1, .inl (cI, 64, .inl zf))] := hD
  refine va_put (D := (dC, dI)) (ci := 4) (v := .ref q1) (ty := .array .int) (C := R_Tr) (T := T_Tr) (N := 5) hx hb hts u_Tr ty_Tr tk_Tr nm_Tr hown hK hP hD hS 0 rfl rfl 0 (by decide) (hts _ L_138) (fun _ h9 => h9) rfl (by decide +kernel) rfl rfl (Nat.le_of_ble_eq_true rfl) d_Tr_init_9 (fun H locs hP hD hS => ?_)
  have hP : va_P (dC, dI) cls [(q, .inr (4, [.ref q1, .null, .null, .null, .int 0])), (q1, .inl (cI, 64, .inl zf))] H := hP
  have hD : va_D A [(q, .inr (4, [.ref q1, .null, .null, .null, .int 0])), (q1, .inl (cI, 64, .inl zf))] := hD
  refine lv_aload_n hx hb d_Tr_init_12 rfl (lv_at hl 0 rfl) ?_
  refine lv_bipush (v := 64) hx hb d_Tr_init_13 (by decide) ?_
  refine va_newI (D := (dC, dI)) (cl := cls) (N' := 64) hx hb (hts _ L_131) hC.1 hP hD hS hA (by decide) (by decide +kernel) (by decide) (Nat.le_of_ble_eq_true rfl) (Nat.le_of_ble_eq_true rfl) d_Tr_init_15 (fun q2 H hP hD hS => ?_)
  have hP : va_P (dC, dI) cls [(q, .inr (4, [.ref q1, .null, .null, .null, .int 0])), (q1, .inl (cI, 64, .inl zf)), (q2, .inl (cI, 64, .inl zf))] H := hP
  have hD : va_D A [(q, .inr (4, [.ref q1, .null, .null, .null, .int 0])), (q1, .inl (cI, 64, .inl zf)), (q2, .inl (cI, 64, .inl zf))] := hD
  refine va_put (D := (dC, dI)) (ci := 4) (v := .ref q2) (ty := .array .int) (C := R_Tr) (T := T_Tr) (N := 5) hx hb hts u_Tr ty_Tr tk_Tr nm_Tr hown hK hP hD hS 0 rfl rfl 1 (by decide) (hts _ L_139) (fun _ h9 => h9) rfl (by decide +kernel) rfl rfl (Nat.le_of_ble_eq_true rfl) d_Tr_init_17 (fun H locs hP hD hS => ?_)
  have hP : va_P (dC, dI) cls [(q, .inr (4, [.ref q1, .ref q2, .null, .null, .int 0])), (q1, .inl (cI, 64, .inl zf)), (q2, .inl (cI, 64, .inl zf))] H := hP
  have hD : va_D A [(q, .inr (4, [.ref q1, .ref q2, .null, .null, .int 0])), (q1, .inl (cI, 64, .inl zf)), (q2, .inl (cI, 64, .inl zf))] := hD
  refine lv_aload_n hx hb d_Tr_init_20 rfl (lv_at hl 0 rfl) ?_
  refine lv_bipush (v := 64) hx hb d_Tr_init_21 (by decide) ?_
  refine va_newI (D := (dC, dI)) (cl := cls) (N' := 64) hx hb (hts _ L_131) hC.1 hP hD hS hA (by decide) (by decide +kernel) (by decide) (Nat.le_of_ble_eq_true rfl) (Nat.le_of_ble_eq_true rfl) d_Tr_init_23 (fun q3 H hP hD hS => ?_)
  have hP : va_P (dC, dI) cls [(q, .inr (4, [.ref q1, .ref q2, .null, .null, .int 0])), (q1, .inl (cI, 64, .inl zf)), (q2, .inl (cI, 64, .inl zf)), (q3, .inl (cI, 64, .inl zf))] H := hP
  have hD : va_D A [(q, .inr (4, [.ref q1, .ref q2, .null, .null, .int 0])), (q1, .inl (cI, 64, .inl zf)), (q2, .inl (cI, 64, .inl zf)), (q3, .inl (cI, 64, .inl zf))] := hD
  refine va_put (D := (dC, dI)) (ci := 4) (v := .ref q3) (ty := .array .int) (C := R_Tr) (T := T_Tr) (N := 5) hx hb hts u_Tr ty_Tr tk_Tr nm_Tr hown hK hP hD hS 0 rfl rfl 2 (by decide) (hts _ L_140) (fun _ h9 => h9) rfl (by decide +kernel) rfl rfl (Nat.le_of_ble_eq_true rfl) d_Tr_init_25 (fun H locs hP hD hS => ?_)
  have hP : va_P (dC, dI) cls [(q, .inr (4, [.ref q1, .ref q2, .ref q3, .null, .int 0])), (q1, .inl (cI, 64, .inl zf)), (q2, .inl (cI, 64, .inl zf)), (q3, .inl (cI, 64, .inl zf))] H := hP
  have hD : va_D A [(q, .inr (4, [.ref q1, .ref q2, .ref q3, .null, .int 0])), (q1, .inl (cI, 64, .inl zf)), (q2, .inl (cI, 64, .inl zf)), (q3, .inl (cI, 64, .inl zf))] := hD
  refine lv_aload_n hx hb d_Tr_init_28 rfl (lv_at hl 0 rfl) ?_
  refine lv_bipush (v := 64) hx hb d_Tr_init_29 (by decide) ?_
  refine va_newI (D := (dC, dI)) (cl := cls) (N' := 64) hx hb (hts _ L_131) hC.1 hP hD hS hA (by decide) (by decide +kernel) (by decide) (Nat.le_of_ble_eq_true rfl) (Nat.le_of_ble_eq_true rfl) d_Tr_init_31 (fun q4 H hP hD hS => ?_)
  have hP : va_P (dC, dI) cls [(q, .inr (4, [.ref q1, .ref q2, .ref q3, .null, .int 0])), (q1, .inl (cI, 64, .inl zf)), (q2, .inl (cI, 64, .inl zf)), (q3, .inl (cI, 64, .inl zf)), (q4, .inl (cI, 64, .inl zf))] H := hP
  have hD : va_D A [(q, .inr (4, [.ref q1, .ref q2, .ref q3, .null, .int 0])), (q1, .inl (cI, 64, .inl zf)), (q2, .inl (cI, 64, .inl zf)), (q3, .inl (cI, 64, .inl zf)), (q4, .inl (cI, 64, .inl zf))] := hD
  refine va_put (D := (dC, dI)) (ci := 4) (v := .ref q4) (ty := .array .int) (C := R_Tr) (T := T_Tr) (N := 5) hx hb hts u_Tr ty_Tr tk_Tr nm_Tr hown hK hP hD hS 0 rfl rfl 3 (by decide) (hts _ L_141) (fun _ h9 => h9) rfl (by decide +kernel) rfl rfl (Nat.le_of_ble_eq_true rfl) d_Tr_init_33 (fun H locs hP hD hS => ?_)
  have hP : va_P (dC, dI) cls [(q, .inr (4, [.ref q1, .ref q2, .ref q3, .ref q4, .int 0])), (q1, .inl (cI, 64, .inl zf)), (q2, .inl (cI, 64, .inl zf)), (q3, .inl (cI, 64, .inl zf)), (q4, .inl (cI, 64, .inl zf))] H := hP
  have hD : va_D A [(q, .inr (4, [.ref q1, .ref q2, .ref q3, .ref q4, .int 0])), (q1, .inl (cI, 64, .inl zf)), (q2, .inl (cI, 64, .inl zf)), (q3, .inl (cI, 64, .inl zf)), (q4, .inl (cI, 64, .inl zf))] := hD
  refine lv_aload_n hx hb d_Tr_init_36 rfl (lv_at hl 0 rfl) ?_
  refine lv_iconst (v := 0) hx hb d_Tr_init_37 (by decide) ?_
  refine va_put (D := (dC, dI)) (ci := 4) (v := .int 0) (ty := .int) (C := R_Tr) (T := T_Tr) (N := 5) hx hb hts u_Tr ty_Tr tk_Tr nm_Tr hown hK hP hD hS 0 rfl rfl 4 (by decide) (hts _ L_142) (fun _ h9 => h9) rfl (by decide +kernel) rfl rfl (Nat.le_of_ble_eq_true rfl) d_Tr_init_38 (fun H locs hP hD hS => ?_)
  have hP : va_P (dC, dI) cls [(q, .inr (4, [.ref q1, .ref q2, .ref q3, .ref q4, .int 0])), (q1, .inl (cI, 64, .inl zf)), (q2, .inl (cI, 64, .inl zf)), (q3, .inl (cI, 64, .inl zf)), (q4, .inl (cI, 64, .inl zf))] H := hP
  have hD : va_D A [(q, .inr (4, [.ref q1, .ref q2, .ref q3, .ref q4, .int 0])), (q1, .inl (cI, 64, .inl zf)), (q2, .inl (cI, 64, .inl zf)), (q3, .inl (cI, 64, .inl zf)), (q4, .inl (cI, 64, .inl zf))] := hD
  exact W.vret hx hb hr (fun t ht9 hW => ⟨⟨(q1, q2, q3, q4), rfl, trivial, by rw [ht9]; exact hP, va_K.moved hW.alike hK, hD⟩, hS.F ht9⟩) hS.2.2 d_Tr_init_41
set_option maxRecDepth 100000 in
set_option maxHeartbeats 4000000 in
theorem m_La_init (l : Launch) (dC : Nat → ClassId) (dI : Nat → Nat → Nat) (cI cZ : ClassId) (sa rk q sz : Nat) : cNv l y_La_init c_La_init 1 1 30 2 200 (dC, dI) cI cZ sa rk [.ref q] [(q, .inr (1, [.null, .null, .int 0]))] sz (fun _ : Nat × Nat => True) (fun u => wLa cI cZ q u.1 u.2 lb0) := by
  refine Met.ofW (cc := c_La_init) (maxL := 1) (ret := none) (by decide) rfl ?_
  intro p e s m args below meth c s₁ B hml hv9
  obtain ⟨rfl, ⟨hsz, hP, hK, hD0, hC, hZ⟩, hN⟩ := hv9
  have hx := B.exec
  have hb := B.bytes
  have hr := B.returns
  have hts0 := atoms_spec (ws := wy y_La_init c_La_init 1 none) B.pre
  have hts := htsL hts0
  have hown : s.vm.findClass R_La = some m.cls := findClass_of_methodNamed B.named
  have hlocks := B.notSynchronized
  have hin : meth.name = "<init>" := (name_of_methodNamed B.named B.method).1
  subst hsz
  have hD := hD0.self (sz := s.heap.size)
  generalize hAe : va_A [(q, .inr (1, [.null, .null, .int 0]))] s.heap.size = A at hD hZ ⊢
  have hA : ∀ q : Nat, s.heap.size ≤ q → A q := fun q h => by rw [← hAe]; exact Or.inr h
  have hS : va_S A s.heap s.heap [] := va_S.rf
  have hl := lv_entry ([.ref q]) (n := 1) (Nat.le_of_ble_eq_true rfl)
  rw [lg_entry_eq]
  generalize (lg_sl ([.ref q]) ++ List.replicate (1 - (lg_sl ([.ref q])).length) Slot.unset).toArray = ls at hl ⊢
  have hl : lv_has ls 1 [(0, .ref q)] := hl
  refine lv_aload_n hx hb d_La_init_0 rfl (lv_at hl 0 rfl) ?_
  refine W.objInit hx hb hown (hts _ L_196) (hts _ L_107) (hts _ L_108) rfl (by rw [hml]; exact hl.1) rfl d_La_init_1 (Nat.le_of_ble_eq_true rfl) (Nat.le_of_ble_eq_true rfl) ?_
  refine W.eq (g2 := F0 m 4 ls []) rfl ?_
  refine lv_aload_n hx hb d_La_init_4 rfl (lv_at hl 0 rfl) ?_
  refine lv_bipush (v := 100) hx hb d_La_init_5 (by decide) ?_
  refine va_newI (D := (dC, dI)) (cl := cls) (N' := 100) hx hb (hts _ L_131) hC.1 hP hD hS hA (by decide) (by decide +kernel) (by decide) (Nat.le_of_ble_eq_true rfl) (Nat.le_of_ble_eq_true rfl) d_La_init_7 (fun q1 H hP hD hS => ?_)
  have hP : va_P (dC, dI) cls [(q, .inr (1, [.null, .null, .int 0])), (q1, .inl (cI, 100, .inl zf))] H := hP
  have hD : va_D A [(q, .inr (1, [.null, .null, .int 0])), (q1, .inl (cI, 100, .inl zf))] := hD
  refine va_putF (D := (dC, dI)) (ci := 1) (v := .ref q1) (ty := .array .int) (C := R_La) (T := T_La) (N := 3) hx hb hts u_La ty_La tk_La nm_La hown hK hP hD hS 0 rfl rfl 0 (by decide) (hts _ L_197) (fun _ h9 => h9) rfl hin rfl (by decide +kernel) rfl rfl (Nat.le_of_ble_eq_true rfl) d_La_init_9 (fun H locs hP hD hS => ?_)
  have hP : va_P (dC, dI) cls [(q, .inr (1, [.ref q1, .null, .int 0])), (q1, .inl (cI, 100, .inl zf))] H := hP
  have hD : va_D A [(q, .inr (1, [.ref q1, .null, .int 0])), (q1, .inl (cI, 100, .inl zf))] := hD
  refine lv_aload_n hx hb d_La_init_12 rfl (lv_at hl 0 rfl) ?_
  refine lv_bipush (v := 100) hx hb d_La_init_13 (by decide) ?_
  refine va_newZ (D := (dC, dI)) (cl := cls) (N' := 100) hx hb (hts _ L_207) hN.1 hP hD hS hA (by decide) (by decide +kernel) (by decide) (Nat.le_of_ble_eq_true rfl) (Nat.le_of_ble_eq_true rfl) d_La_init_15 (fun q2 H hP hD hS => ?_)
  have hP : va_P (dC, dI) cls [(q, .inr (1, [.ref q1, .null, .int 0])), (q1, .inl (cI, 100, .inl zf)), (q2, .inl (cZ, 100, .inl zf))] H := hP
  have hD : va_D A [(q, .inr (1, [.ref q1, .null, .int 0])), (q1, .inl (cI, 100, .inl zf)), (q2, .inl (cZ, 100, .inl zf))] := hD
  refine va_putF (D := (dC, dI)) (ci := 1) (v := .ref q2) (ty := .array .boolean) (C := R_La) (T := T_La) (N := 3) hx hb hts u_La ty_La tk_La nm_La hown hK hP hD hS 0 rfl rfl 1 (by decide) (hts _ L_198) (fun _ h9 => h9) rfl hin rfl (by decide +kernel) rfl rfl (Nat.le_of_ble_eq_true rfl) d_La_init_17 (fun H locs hP hD hS => ?_)
  have hP : va_P (dC, dI) cls [(q, .inr (1, [.ref q1, .ref q2, .int 0])), (q1, .inl (cI, 100, .inl zf)), (q2, .inl (cZ, 100, .inl zf))] H := hP
  have hD : va_D A [(q, .inr (1, [.ref q1, .ref q2, .int 0])), (q1, .inl (cI, 100, .inl zf)), (q2, .inl (cZ, 100, .inl zf))] := hD
  refine lv_aload_n hx hb d_La_init_20 rfl (lv_at hl 0 rfl) ?_
  refine lv_iconst (v := 0) hx hb d_La_init_21 (by decide) ?_
  refine va_put (D := (dC, dI)) (ci := 1) (v := .int 0) (ty := .int) (C := R_La) (T := T_La) (N := 3) hx hb hts u_La ty_La tk_La nm_La hown hK hP hD hS 0 rfl rfl 2 (by decide) (hts _ L_199) (fun _ h9 => h9) rfl (by decide +kernel) rfl rfl (Nat.le_of_ble_eq_true rfl) d_La_init_22 (fun H locs hP hD hS => ?_)
  have hP : va_P (dC, dI) cls [(q, .inr (1, [.ref q1, .ref q2, .int 0])), (q1, .inl (cI, 100, .inl zf)), (q2, .inl (cZ, 100, .inl zf))] H := hP
  have hD : va_D A [(q, .inr (1, [.ref q1, .ref q2, .int 0])), (q1, .inl (cI, 100, .inl zf)), (q2, .inl (cZ, 100, .inl zf))] := hD
  exact W.vret hx hb hr (fun t ht9 hW => ⟨⟨(q1, q2), rfl, trivial, by rw [ht9]; exact hP, va_K.moved hW.alike hK, hD⟩, hS.F ht9⟩) hS.2.2 d_La_init_25
