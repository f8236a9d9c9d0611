section TLC
variable {p : Program} {l : Launch} {e : Env} {R : Room} {s : State} {m : MethodId} {args : Array Value} {below : List Frame} {meth : Method} {c : Code} {H : Heap} {locs : List Loc} {cells slots : Nat} {Q : State → Prop}
variable {cc : ByteArray} {pc : Nat} {ls : Array Slot} {rest : List Value}
variable {y : MethodName} {bytes : ByteArray} {maxL fr lo mc ms idx nL : Nat} {D : va_G} {cI cZ : ClassId} {sa rk : Nat} {As : List Value} {b : Nat} {ws wc wr : va_W} {x : Cond} {own host : String} {st0 : List Value} {A : Nat → Prop} {S : Type} {w' : S → va_W}
theorem ci_I {post : S → Prop} (CF : CallFix p m c cc nL s args (x :: LL) own) (hM : cNv l y bytes maxL fr lo mc ms D cI cZ sa rk (.ref b :: As) wc H.size post w')
    (hP : va_P D cls ws H) (hD : va_D A ws) (hK : va_K D cls (ty2 cI cZ) s) (hS : va_S A s.heap H locs) (hA : ∀ q, s.heap.size ≤ q → A q) (hC : CX cI sa s) (hZ : ZX rk A s s.heap) (hN : CN cZ s)
    (iC iR : List Nat) (h1 : iC.map (fun i => ws[i]?) = wc.map some) (h2 : iR.map (fun i => ws[i]?) = wr.map some) (h3 : va_nd iC = true) (h4 : va_nd iR = true) (h5 : ∀ i ∈ iR, i ∉ iC)
    (l1 : Cond.methodLink own idx y ∈ LL) (l2 : Cond.instanceMethod y ∈ LL) (l4 : Cond.initialized y.cls ∈ LL) (l5 : Cond.code y bytes maxL none ∈ LL) (hyn : y.name = "<init>")
    (hd : y.cls ≠ "java/lang/invoke/MethodHandle" ∧ y.cls ≠ "java/lang/invoke/VarHandle" ∧ (parseMethodDescriptor y.desc).map (fun d => d.parameters.length) = some As.length)
    (hR : fr + 1 ≤ R.frames ∧ 8 + (maxL + 11) + lo ≤ R.locals) (hls : ls.size = nL) (hcap : cells + mc ≤ R.cells ∧ slots + ms ≤ R.slots) (hst : (rest.map fun v => v.category).sum ≤ 8) (hdg : decode cc pc = .ok (.invokespecial idx, 3)) (h0 : st0 = As.reverse ++ .ref b :: rest)
    (kk : ∀ (u : S) (H1 : Heap) (locs1 : List Loc), post u → va_P D cls (wr ++ w' u) H1 → va_D A (wr ++ w' u) → va_S A s.heap H1 locs1 → W p l e R s m args below meth c H1 locs1 (cells + mc) (slots + ms) Q (F0 m (pc + 3) ls rest)) : W p l e R s m args below meth c H locs cells slots Q (F0 m pc ls st0) := by
  have hPc := hP.sub iC (fm_of h1)
  have hDc := hD.sub iC h3 h1
  have hF := va_free hD hS hA iC h1
  refine va_callv (va_runI (As := As) (rest := rest) CF hM (cwI As.length CF.2.2.2.2 (gLL ?_) rfl rfl rfl (CF.2.2.2.2 _ (List.mem_cons_of_mem _ l4)) (CF.2.2.2.2 _ (List.mem_cons_of_mem _ l1)) (CF.2.2.2.2 _ (List.mem_cons_of_mem _ l2)) hyn hd hR) ⟨prN_blind, fun U hU hW => ⟨rfl, ⟨by rw [hU], by rw [hU]; exact hPc, va_K.moved hW.alike hK, hDc.weaken (fun _ _ _ _ => trivial), XX.use hC hZ hS hF hU hW⟩, CN.warm hW hN⟩⟩ rfl rfl hls h0 (lv_room hst) hdg hcap) hS (fun q _ h => hF q h) hF (fun u t H1 locs1 ht hvm hw hB hz1 hk1 hS1 => ?_)
  · intro w hw
    rcases List.mem_cons.mp hw with rfl | hw
    · exact l5
    · exact hw
  · obtain ⟨hP1, hK1, hD1⟩ := hB
    rw [ht] at hP1
    obtain ⟨hP2, hD2⟩ := va_join (wr := wr) (w1 := w' u) hP hD iC iR h1 h2 h4 h5 hk1 hF hP1 hD1
    exact kk u H1 locs1 hw hP2 hD2 hS1
theorem ci_N {post : S → Prop} (CF : CallFix p m c cc nL s args (x :: LL) own) (hM : cNv l y bytes maxL fr lo mc ms D cI cZ sa rk (.ref b :: As) wc H.size post w')
    (hP : va_P D cls ws H) (hD : va_D A ws) (hK : va_K D cls (ty2 cI cZ) s) (hS : va_S A s.heap H locs) (hA : ∀ q, s.heap.size ≤ q → A q) (hC : CX cI sa s) (hZ : ZX rk A s s.heap) (hN : CN cZ s)
    (iC iR : List Nat) (h1 : iC.map (fun i => ws[i]?) = wc.map some) (h2 : iR.map (fun i => ws[i]?) = wr.map some) (h3 : va_nd iC = true) (h4 : va_nd iR = true) (h5 : ∀ i ∈ iR, i ∉ iC)
    (l1 : va_Nw (.methodLinkNest own idx y host) s) (l2 : Cond.instanceMethod y ∈ LL) (l4 : Cond.initialized y.cls ∈ LL) (l5 : Cond.code y bytes maxL none ∈ LL) (hyn : y.name = "<init>")
    (hd : y.cls ≠ "java/lang/invoke/MethodHandle" ∧ y.cls ≠ "java/lang/invoke/VarHandle" ∧ (parseMethodDescriptor y.desc).map (fun d => d.parameters.length) = some As.length)
    (hR : fr + 1 ≤ R.frames ∧ 8 + (maxL + 11) + lo ≤ R.locals) (hls : ls.size = nL) (hcap : cells + mc ≤ R.cells ∧ slots + ms ≤ R.slots) (hst : (rest.map fun v => v.category).sum ≤ 8) (hdg : decode cc pc = .ok (.invokespecial idx, 3)) (h0 : st0 = As.reverse ++ .ref b :: rest)
    (kk : ∀ (u : S) (H1 : Heap) (locs1 : List Loc), post u → va_P D cls (wr ++ w' u) H1 → va_D A (wr ++ w' u) → va_S A s.heap H1 locs1 → W p l e R s m args below meth c H1 locs1 (cells + mc) (slots + ms) Q (F0 m (pc + 3) ls rest)) : W p l e R s m args below meth c H locs cells slots Q (F0 m pc ls st0) := by
  have hPc := hP.sub iC (fm_of h1)
  have hDc := hD.sub iC h3 h1
  have hF := va_free hD hS hA iC h1
  refine va_callv (va_runIN (As := As) (rest := rest) CF hM ⟨va_cnB As.length CF.2.2.2.2 (gLL ?_) rfl rfl rfl l1 (CF.2.2.2.2 _ (List.mem_cons_of_mem _ l4)) hd hR, hyn, CF.2.2.2.2 _ (List.mem_cons_of_mem _ l2)⟩ ⟨prN_blind, fun U hU hW => ⟨rfl, ⟨by rw [hU], by rw [hU]; exact hPc, va_K.moved hW.alike hK, hDc.weaken (fun _ _ _ _ => trivial), XX.use hC hZ hS hF hU hW⟩, CN.warm hW hN⟩⟩ rfl rfl hls h0 (lv_room hst) hdg hcap) hS (fun q _ h => hF q h) hF (fun u t H1 locs1 ht hvm hw hB hz1 hk1 hS1 => ?_)
  · intro w hw
    rcases List.mem_cons.mp hw with rfl | hw
    · exact l5
    · exact hw
  · obtain ⟨hP1, hK1, hD1⟩ := hB
    rw [ht] at hP1
    obtain ⟨hP2, hD2⟩ := va_join (wr := wr) (w1 := w' u) hP hD iC iR h1 h2 h4 h5 hk1 hF hP1 hD1
    exact kk u H1 locs1 hw hP2 hD2 hS1
end TLC
abbrev stI (x y : Nat) : ST := (tk0, tr0, lb0, (0, 0, 0, 0, 0), 0, -1, 0, x, y)
set_option maxRecDepth 100000 in
set_option maxHeartbeats 4000000 in
theorem m_Cu_init (l : Launch) (dC : Nat → ClassId) (dI : Nat → Nat → Nat) (cI cZ : ClassId) (sa rk hp h sz : Nat) : cNv l y_Cu_init c_Cu_init 2 3 60 1 5 (dC, dI) cI cZ sa rk [.ref hp, .ref h] [(hp, .inr (2, [.null, .null, .int 0, .null, .int 0, .int 0, .null]))] sz (fun _ : Nat => True) (fun hc => [(hp, .inr (2, [.null, .null, .int 0, .ref h, .int 0, .int (-1), .ref hc])), (hc, .inr (0, [.int 0, .int 0, .int 0, .int 0, .int 0]))]) := by
  refine Met.ofW (cc := c_Cu_init) (maxL := 2) (ret := none) (by decide) rfl ?_
  intro p e s m args below meth c s₁ B hml hv9
  obtain ⟨rfl, ⟨hsz, hP, hK, hD0, hC, hZ⟩, hN⟩ := hv9
  have hx := B.exec
  have hb := B.bytes
  have hr := B.returns
  have hts0 := atoms_spec (ws := wy y_Cu_init c_Cu_init 2 none) B.pre
  have hts := htsL hts0
  have hown : s.vm.findClass R_Cu = some m.cls := findClass_of_methodNamed B.named
  have hlocks := B.notSynchronized
  have hin : meth.name = "<init>" := (name_of_methodNamed B.named B.method).1
  subst hsz
  have hD := hD0.self (sz := s.heap.size)
  generalize hAe : va_A [(hp, .inr (2, [.null, .null, .int 0, .null, .int 0, .int 0, .null]))] s.heap.size = A at hD hZ ⊢
  have hA : ∀ q : Nat, s.heap.size ≤ q → A q := fun q h => by rw [← hAe]; exact Or.inr h
  have hS : va_S A s.heap s.heap [] := va_S.rf
  have hl := lv_entry ([.ref hp, .ref h]) (n := 2) (Nat.le_of_ble_eq_true rfl)
  rw [lg_entry_eq]
  generalize (lg_sl ([.ref hp, .ref h]) ++ List.replicate (2 - (lg_sl ([.ref hp, .ref h])).length) Slot.unset).toArray = ls at hl ⊢
  have hl : lv_has ls 2 [(0, .ref hp), (1, .ref h)] := hl
  refine lv_aload_n hx hb d_Cu_init_0 rfl (lv_at hl 0 rfl) ?_
  refine W.objInit hx hb hown (hts _ L_162) (hts _ L_107) (hts _ L_108) rfl (by rw [hml]; exact hl.1) rfl d_Cu_init_1 (Nat.le_of_ble_eq_true rfl) (Nat.le_of_ble_eq_true rfl) ?_
  refine W.eq (g2 := F0 m 4 ls []) rfl ?_
  refine lv_aload_n hx hb d_Cu_init_4 rfl (lv_at hl 0 rfl) ?_
  refine lv_iconst (v := 0) hx hb d_Cu_init_5 (by decide) ?_
  refine va_put (D := (dC, dI)) (ci := 2) (v := .int 0) (ty := .int) (C := R_Pa) (T := T_Pa) (N := 7) hx hb hts u_Pa ty_Pa tk_Pa nm_Pa hown hK hP hD hS 0 rfl rfl 4 (by decide) (hts _ L_214) (fun _ h9 => h9) rfl (by decide +kernel) rfl rfl (Nat.le_of_ble_eq_true rfl) d_Cu_init_6 (fun H locs hP hD hS => ?_)
  have hP : va_P (dC, dI) cls [(hp, .inr (2, [.null, .null, .int 0, .null, .int 0, .int 0, .null]))] H := hP
  have hD : va_D A [(hp, .inr (2, [.null, .null, .int 0, .null, .int 0, .int 0, .null]))] := hD
  refine lv_aload_n hx hb d_Cu_init_9 rfl (lv_at hl 0 rfl) ?_
  refine lv_iconst (v := (-1)) hx hb d_Cu_init_10 (by decide) ?_
  refine va_put (D := (dC, dI)) (ci := 2) (v := .int (-1)) (ty := .int) (C := R_Pa) (T := T_Pa) (N := 7) hx hb hts u_Pa ty_Pa tk_Pa nm_Pa hown hK hP hD hS 0 rfl rfl 5 (by decide) (hts _ L_217) (fun _ h9 => h9) rfl (by decide +kernel) rfl rfl (Nat.le_of_ble_eq_true rfl) d_Cu_init_11 (fun H locs hP hD hS => ?_)
  have hP : va_P (dC, dI) cls [(hp, .inr (2, [.null, .null, .int 0, .null, .int 0, .int (-1), .null]))] H := hP
  have hD : va_D A [(hp, .inr (2, [.null, .null, .int 0, .null, .int 0, .int (-1), .null]))] := hD
  refine lv_aload_n hx hb d_Cu_init_14 rfl (lv_at hl 0 rfl) ?_
  refine va_new (ci := 0) (fs := [.int 0, .int 0, .int 0, .int 0, .int 0]) (C := R_Co) (T := T_Co) (N := 5) hx hb hts u_Co ty_Co tk_Co hown (hts _ L_163) (hts _ L_164) (hts _ L_88) hK hP hD hS hA rfl (fun j hj => by rcases (show j = 0 ∨ j = 1 ∨ j = 2 ∨ j = 3 ∨ j = 4 by omega) with rfl | rfl | rfl | rfl | rfl <;> rfl) (Nat.le_of_ble_eq_true rfl) (Nat.le_of_ble_eq_true rfl) d_Cu_init_15 (fun hc H hP hD hS => ?_)
  have hP : va_P (dC, dI) cls [(hc, .inr (0, [.int 0, .int 0, .int 0, .int 0, .int 0])), (hp, .inr (2, [.null, .null, .int 0, .null, .int 0, .int (-1), .null]))] H := hP.sub [1, 0] rfl
  have hD : va_D A [(hc, .inr (0, [.int 0, .int 0, .int 0, .int 0, .int 0])), (hp, .inr (2, [.null, .null, .int 0, .null, .int 0, .int (-1), .null]))] := hD.sub [1, 0] (by decide) rfl
  refine lv_dup hx hb d_Cu_init_18 rfl ?_
  refine lv_iconst (v := 0) hx hb d_Cu_init_19 (by decide) ?_
  refine lv_iconst (v := 0) hx hb d_Cu_init_20 (by decide) ?_
  refine lv_iconst (v := 0) hx hb d_Cu_init_21 (by decide) ?_
  refine co_I (fl := 0) (s9 := 0) (f := 0) (rest := [.ref hc, .ref hp]) ⟨hx, hb, hml, hown, hts0⟩ (Or.inl rfl) (Or.inl rfl) hP hD hK hS hA hC hZ L_165 L_166 L_88 L_167 ⟨Nat.le_of_ble_eq_true rfl, Nat.le_of_ble_eq_true rfl⟩ hl.1 ⟨Nat.le_of_ble_eq_true rfl, Nat.le_of_ble_eq_true rfl⟩ (Nat.le_of_ble_eq_true rfl) d_Cu_init_22 (fun H locs hP hD hS => ?_)
  have hP : va_P (dC, dI) cls [(hp, .inr (2, [.null, .null, .int 0, .null, .int 0, .int (-1), .null])), (hc, .inr (0, [.int 0, .int 0, .int 0, .int 0, .int 0]))] H := hP.sub [1, 0] rfl
  have hD : va_D A [(hp, .inr (2, [.null, .null, .int 0, .null, .int 0, .int (-1), .null])), (hc, .inr (0, [.int 0, .int 0, .int 0, .int 0, .int 0]))] := hD.sub [1, 0] (by decide) rfl
  refine va_put (D := (dC, dI)) (ci := 2) (v := .ref hc) (ty := .object "SyntaxTree$Code") (C := R_Pa) (T := T_Pa) (N := 7) hx hb hts u_Pa ty_Pa tk_Pa nm_Pa hown hK hP hD hS 0 rfl rfl 6 (by decide) (hts _ L_220) (fun _ h9 => h9) rfl (by decide +kernel) rfl rfl (Nat.le_of_ble_eq_true rfl) d_Cu_init_25 (fun H locs hP hD hS => ?_)
  have hP : va_P (dC, dI) cls [(hp, .inr (2, [.null, .null, .int 0, .null, .int 0, .int (-1), .ref hc])), (hc, .inr (0, [.int 0, .int 0, .int 0, .int 0, .int 0]))] H := hP
  have hD : va_D A [(hp, .inr (2, [.null, .null, .int 0, .null, .int 0, .int (-1), .ref hc])), (hc, .inr (0, [.int 0, .int 0, .int 0, .int 0, .int 0]))] := hD
  refine lv_aload_n hx hb d_Cu_init_28 rfl (lv_at hl 0 rfl) ?_
  refine lv_aload_n hx hb d_Cu_init_29 rfl (lv_at hl 1 rfl) ?_
  refine va_putF (D := (dC, dI)) (ci := 2) (v := .ref h) (ty := .object "SyntaxTree$Tokens") (C := R_Pa) (T := T_Pa) (N := 7) hx hb hts u_Pa ty_Pa tk_Pa nm_Pa hown hK hP hD hS 0 rfl rfl 3 (by decide) (hts _ L_211) (fun _ h9 => h9) rfl hin rfl (by decide +kernel) rfl rfl (Nat.le_of_ble_eq_true rfl) d_Cu_init_30 (fun H locs hP hD hS => ?_)
  have hP : va_P (dC, dI) cls [(hp, .inr (2, [.null, .null, .int 0, .ref h, .int 0, .int (-1), .ref hc])), (hc, .inr (0, [.int 0, .int 0, .int 0, .int 0, .int 0]))] H := hP
  have hD : va_D A [(hp, .inr (2, [.null, .null, .int 0, .ref h, .int 0, .int (-1), .ref hc])), (hc, .inr (0, [.int 0, .int 0, .int 0, .int 0, .int 0]))] := hD
  exact W.vret hx hb hr (fun t ht9 hW => ⟨⟨hc, rfl, trivial, by rw [ht9]; exact hP, va_K.moved hW.alike hK, hD⟩, hS.F ht9⟩) hS.2.2 d_Cu_init_33
set_option maxRecDepth 100000 in
set_option maxHeartbeats 4000000 in
theorem m_Pa_init (l : Launch) (dC : Nat → ClassId) (dI : Nat → Nat → Nat) (cI cZ : ClassId) (sa rk hp h ht sz : Nat) : cNv l y_Pa_init c_Pa_init 3 5 100 4 208 (dC, dI) cI cZ sa rk [.ref hp, .ref h, .ref ht] [(hp, .inr (2, [.null, .null, .int 0, .null, .int 0, .int 0, .null]))] sz (fun _ : Nat × Nat × Nat × Nat => True) (fun u => (hp, .inr (2, [.ref ht, .ref u.2.1, .int 0, .ref h, .int 0, .int (-1), .ref u.1])) :: (u.1, .inr (0, [.int 0, .int 0, .int 0, .int 0, .int 0])) :: wLa cI cZ u.2.1 u.2.2.1 u.2.2.2 lb0) := by
  refine Met.ofW (cc := c_Pa_init) (maxL := 3) (ret := none) (by decide) rfl ?_
  intro p e s m args below meth c s₁ B hml hv9
  obtain ⟨rfl, ⟨hsz, hP, hK, hD0, hC, hZ⟩, hN⟩ := hv9
  have hx := B.exec
  have hb := B.bytes
  have hr := B.returns
  have hts0 := atoms_spec (ws := wy y_Pa_init c_Pa_init 3 none) B.pre
  have hts := htsL hts0
  have hown : s.vm.findClass R_Pa = some m.cls := findClass_of_methodNamed B.named
  have hlocks := B.notSynchronized
  have hin : meth.name = "<init>" := (name_of_methodNamed B.named B.method).1
  subst hsz
  have hD := hD0.self (sz := s.heap.size)
  generalize hAe : va_A [(hp, .inr (2, [.null, .null, .int 0, .null, .int 0, .int 0, .null]))] s.heap.size = A at hD hZ ⊢
  have hA : ∀ q : Nat, s.heap.size ≤ q → A q := fun q h => by rw [← hAe]; exact Or.inr h
  have hS : va_S A s.heap s.heap [] := va_S.rf
  have hl := lv_entry ([.ref hp, .ref h, .ref ht]) (n := 3) (Nat.le_of_ble_eq_true rfl)
  rw [lg_entry_eq]
  generalize (lg_sl ([.ref hp, .ref h, .ref ht]) ++ List.replicate (3 - (lg_sl ([.ref hp, .ref h, .ref ht])).length) Slot.unset).toArray = ls at hl ⊢
  have hl : lv_has ls 3 [(0, .ref hp), (1, .ref h), (2, .ref ht)] := hl
  refine lv_aload_n hx hb d_Pa_init_0 rfl (lv_at hl 0 rfl) ?_
  refine lv_aload_n hx hb d_Pa_init_1 rfl (lv_at hl 1 rfl) ?_
  refine ci_I (wr := []) (As := [.ref h]) (rest := []) ⟨hx, hb, hml, hown, hts0⟩ (m_Cu_init l dC dI cI cZ sa rk hp h _) hP hD hK hS hA hC hZ hN [0] [] rfl rfl (by decide) (by decide) (by decide) L_159 L_160 L_86 L_161 rfl k_Cu_init ⟨Nat.le_of_ble_eq_true rfl, Nat.le_of_ble_eq_true rfl⟩ hl.1 ⟨Nat.le_of_ble_eq_true rfl, Nat.le_of_ble_eq_true rfl⟩ (Nat.le_of_ble_eq_true rfl) d_Pa_init_2 rfl (fun hc H locs _ hP hD hS => ?_)
  have hP : va_P (dC, dI) cls [(hp, .inr (2, [.null, .null, .int 0, .ref h, .int 0, .int (-1), .ref hc])), (hc, .inr (0, [.int 0, .int 0, .int 0, .int 0, .int 0]))] H := hP
  have hD : va_D A [(hp, .inr (2, [.null, .null, .int 0, .ref h, .int 0, .int (-1), .ref hc])), (hc, .inr (0, [.int 0, .int 0, .int 0, .int 0, .int 0]))] := hD
  refine lv_aload_n hx hb d_Pa_init_5 rfl (lv_at hl 0 rfl) ?_
  refine va_new (ci := 1) (fs := [.null, .null, .int 0]) (C := R_La) (T := T_La) (N := 3) hx hb hts u_La ty_La tk_La hown (hts _ L_191) (hts _ L_192) (hts _ L_89) hK hP hD hS hA rfl (fun j hj => by rcases (show j = 0 ∨ j = 1 ∨ j = 2 by omega) with rfl | rfl | rfl <;> rfl) (Nat.le_of_ble_eq_true rfl) (Nat.le_of_ble_eq_true rfl) d_Pa_init_6 (fun hq H hP hD hS => ?_)
  have hP : va_P (dC, dI) cls [(hp, .inr (2, [.null, .null, .int 0, .ref h, .int 0, .int (-1), .ref hc])), (hc, .inr (0, [.int 0, .int 0, .int 0, .int 0, .int 0])), (hq, .inr (1, [.null, .null, .int 0]))] H := hP
  have hD : va_D A [(hp, .inr (2, [.null, .null, .int 0, .ref h, .int 0, .int (-1), .ref hc])), (hc, .inr (0, [.int 0, .int 0, .int 0, .int 0, .int 0])), (hq, .inr (1, [.null, .null, .int 0]))] := hD
  refine lv_dup hx hb d_Pa_init_9 rfl ?_
  refine ci_N (wr := [(hp, .inr (2, [.null, .null, .int 0, .ref h, .int 0, .int (-1), .ref hc])), (hc, .inr (0, [.int 0, .int 0, .int 0, .int 0, .int 0]))]) (As := []) (rest := [.ref hq, .ref hp]) ⟨hx, hb, hml, hown, hts0⟩ (m_La_init l dC dI cI cZ sa rk hq _) hP hD hK hS hA hC hZ hN [2] [0, 1] rfl rfl (by decide) (by decide) (by decide) hN.2.2.2 L_194 L_89 L_195 rfl k_La_init ⟨Nat.le_of_ble_eq_true rfl, Nat.le_of_ble_eq_true rfl⟩ hl.1 ⟨Nat.le_of_ble_eq_true rfl, Nat.le_of_ble_eq_true rfl⟩ (Nat.le_of_ble_eq_true rfl) d_Pa_init_10 rfl (fun u H locs _ hP hD hS => ?_)
  obtain ⟨n1, n2⟩ := u
  have hP : va_P (dC, dI) cls ((hp, .inr (2, [.null, .null, .int 0, .ref h, .int 0, .int (-1), .ref hc])) :: (hc, .inr (0, [.int 0, .int 0, .int 0, .int 0, .int 0])) :: wLa cI cZ hq n1 n2 lb0) H := hP
  have hD : va_D A ((hp, .inr (2, [.null, .null, .int 0, .ref h, .int 0, .int (-1), .ref hc])) :: (hc, .inr (0, [.int 0, .int 0, .int 0, .int 0, .int 0])) :: wLa cI cZ hq n1 n2 lb0) := hD
  refine va_putF (D := (dC, dI)) (ci := 2) (v := .ref hq) (ty := .object "SyntaxTree$Labels") (C := R_Pa) (T := T_Pa) (N := 7) hx hb hts u_Pa ty_Pa tk_Pa nm_Pa hown hK hP hD hS 0 rfl rfl 1 (by decide) (hts _ L_209) (fun _ h9 => h9) rfl hin rfl (by decide +kernel) rfl rfl (Nat.le_of_ble_eq_true rfl) d_Pa_init_13 (fun H locs hP hD hS => ?_)
  have hP : va_P (dC, dI) cls ((hp, .inr (2, [.null, .ref hq, .int 0, .ref h, .int 0, .int (-1), .ref hc])) :: (hc, .inr (0, [.int 0, .int 0, .int 0, .int 0, .int 0])) :: wLa cI cZ hq n1 n2 lb0) H := hP
  have hD : va_D A ((hp, .inr (2, [.null, .ref hq, .int 0, .ref h, .int 0, .int (-1), .ref hc])) :: (hc, .inr (0, [.int 0, .int 0, .int 0, .int 0, .int 0])) :: wLa cI cZ hq n1 n2 lb0) := hD
  refine lv_aload_n hx hb d_Pa_init_16 rfl (lv_at hl 0 rfl) ?_
  refine lv_iconst (v := 0) hx hb d_Pa_init_17 (by decide) ?_
  refine va_put (D := (dC, dI)) (ci := 2) (v := .int 0) (ty := .int) (C := R_Pa) (T := T_Pa) (N := 7) hx hb hts u_Pa ty_Pa tk_Pa nm_Pa hown hK hP hD hS 0 rfl rfl 2 (by decide) (hts _ L_210) (fun _ h9 => h9) rfl (by decide +kernel) rfl rfl (Nat.le_of_ble_eq_true rfl) d_Pa_init_18 (fun H locs hP hD hS => ?_)
  have hP : va_P (dC, dI) cls ((hp, .inr (2, [.null, .ref hq, .int 0, .ref h, .int 0, .int (-1), .ref hc])) :: (hc, .inr (0, [.int 0, .int 0, .int 0, .int 0, .int 0])) :: wLa cI cZ hq n1 n2 lb0) H := hP
  have hD : va_D A ((hp, .inr (2, [.null, .ref hq, .int 0, .ref h, .int 0, .int (-1), .ref hc])) :: (hc, .inr (0, [.int 0, .int 0, .int 0, .int 0, .int 0])) :: wLa cI cZ hq n1 n2 lb0) := hD
  refine lv_aload_n hx hb d_Pa_init_21 rfl (lv_at hl 0 rfl) ?_
  refine lv_aload_n hx hb d_Pa_init_22 rfl (lv_at hl 2 rfl) ?_
  refine va_putF (D := (dC, dI)) (ci := 2) (v := .ref ht) (ty := .object "SyntaxTree$Tree") (C := R_Pa) (T := T_Pa) (N := 7) hx hb hts u_Pa ty_Pa tk_Pa nm_Pa hown hK hP hD hS 0 rfl rfl 0 (by decide) (hts _ L_208) (fun _ h9 => h9) rfl hin rfl (by decide +kernel) rfl rfl (Nat.le_of_ble_eq_true rfl) d_Pa_init_23 (fun H locs hP hD hS => ?_)
  have hP : va_P (dC, dI) cls ((hp, .inr (2, [.ref ht, .ref hq, .int 0, .ref h, .int 0, .int (-1), .ref hc])) :: (hc, .inr (0, [.int 0, .int 0, .int 0, .int 0, .int 0])) :: wLa cI cZ hq n1 n2 lb0) H := hP
  have hD : va_D A ((hp, .inr (2, [.ref ht, .ref hq, .int 0, .ref h, .int 0, .int (-1), .ref hc])) :: (hc, .inr (0, [.int 0, .int 0, .int 0, .int 0, .int 0])) :: wLa cI cZ hq n1 n2 lb0) := hD
  exact W.vret hx hb hr (fun t ht9 hW => ⟨⟨(hc, hq, n1, n2), rfl, trivial, by rw [ht9]; exact hP, va_K.moved hW.alike hK, hD⟩, hS.F ht9⟩) hS.2.2 d_Pa_init_26
set_option maxRecDepth 100000 in
set_option maxHeartbeats 4000000 in
theorem m_Sy_init (l : Launch) (dC : Nat → ClassId) (dI : Nat → Nat → Nat) (cI cZ : ClassId) (sa rk hy sz : Nat) : cNv l y_Sy_init c_Sy_init 1 7 140 15 737 (dC, dI) cI cZ sa rk [.ref hy] [(hy, .inr (5, [.null, .null, .null, .int 0]))] sz (fun _ : (Nat × Nat × Nat × Nat × Nat × Nat) × AD × Nat × AD => True) (fun u => wY cI cZ hy u.1.1 u.1.2.1 u.1.2.2.1 u.1.2.2.2.1 u.1.2.2.2.2.1 u.1.2.2.2.2.2 (u.2.1, u.2.2.1, u.2.2.2, stI 0 0, -1)) := by
  refine Met.ofW (cc := c_Sy_init) (maxL := 1) (ret := none) (by decide) rfl ?_
  intro p e s m args below meth c s₁ B hml hv9
  obtain ⟨rfl, ⟨hsz, hP, hK, hD0, hC, hZ⟩, hN⟩ := hv9
  have hx := B.exec
  have hb := B.bytes
  have hr := B.returns
  have hts0 := atoms_spec (ws := wy y_Sy_init c_Sy_init 1 none) B.pre
  have hts := htsL hts0
  have hown : s.vm.findClass R_Sy = some m.cls := findClass_of_methodNamed B.named
  have hlocks := B.notSynchronized
  have hin : meth.name = "<init>" := (name_of_methodNamed B.named B.method).1
  subst hsz
  have hD := hD0.self (sz := s.heap.size)
  generalize hAe : va_A [(hy, .inr (5, [.null, .null, .null, .int 0]))] s.heap.size = A at hD hZ ⊢
  have hA : ∀ q : Nat, s.heap.size ≤ q → A q := fun q h => by rw [← hAe]; exact Or.inr h
  have hS : va_S A s.heap s.heap [] := va_S.rf
  have hl := lv_entry ([.ref hy]) (n := 1) (Nat.le_of_ble_eq_true rfl)
  rw [lg_entry_eq]
  generalize (lg_sl ([.ref hy]) ++ List.replicate (1 - (lg_sl ([.ref hy])).length) Slot.unset).toArray = ls at hl ⊢
  have hl : lv_has ls 1 [(0, .ref hy)] := hl
  refine lv_aload_n hx hb d_Sy_init_0 rfl (lv_at hl 0 rfl) ?_
  refine W.objInit hx hb hown (hts _ L_106) (hts _ L_107) (hts _ L_108) rfl (by rw [hml]; exact hl.1) rfl d_Sy_init_1 (Nat.le_of_ble_eq_true rfl) (Nat.le_of_ble_eq_true rfl) ?_
  refine W.eq (g2 := F0 m 4 ls []) rfl ?_
  refine lv_aload_n hx hb d_Sy_init_4 rfl (lv_at hl 0 rfl) ?_
  refine va_new (ci := 3) (fs := [.null, .null, .null, .null, .int 0]) (C := R_Tk) (T := T_Tk) (N := 5) hx hb hts u_Tk ty_Tk tk_Tk hown (hts _ L_109) (hts _ L_110) (hts _ L_84) hK hP hD hS hA rfl (fun j hj => by rcases (show j = 0 ∨ j = 1 ∨ j = 2 ∨ j = 3 ∨ j = 4 by omega) with rfl | rfl | rfl | rfl | rfl <;> rfl) (Nat.le_of_ble_eq_true rfl) (Nat.le_of_ble_eq_true rfl) d_Sy_init_5 (fun h H hP hD hS => ?_)
  have hP : va_P (dC, dI) cls [(hy, .inr (5, [.null, .null, .null, .int 0])), (h, .inr (3, [.null, .null, .null, .null, .int 0]))] H := hP
  have hD : va_D A [(hy, .inr (5, [.null, .null, .null, .int 0])), (h, .inr (3, [.null, .null, .null, .null, .int 0]))] := hD
  refine lv_dup hx hb d_Sy_init_8 rfl ?_
  refine ci_N (wr := [(hy, .inr (5, [.null, .null, .null, .int 0]))]) (As := []) (rest := [.ref h, .ref hy]) ⟨hx, hb, hml, hown, hts0⟩ (m_Tk_init l dC dI cI cZ sa rk h _) hP hD hK hS hA hC hZ hN [1] [0] rfl rfl (by decide) (by decide) (by decide) hN.2.1 L_112 L_84 L_113 rfl k_Tk_init ⟨Nat.le_of_ble_eq_true rfl, Nat.le_of_ble_eq_true rfl⟩ hl.1 ⟨Nat.le_of_ble_eq_true rfl, Nat.le_of_ble_eq_true rfl⟩ (Nat.le_of_ble_eq_true rfl) d_Sy_init_9 rfl (fun ad H locs _ hP hD hS => ?_)
  have hP : va_P (dC, dI) cls ((hy, .inr (5, [.null, .null, .null, .int 0])) :: wK cI h (ad, tk0)) H := hP
  have hD : va_D A ((hy, .inr (5, [.null, .null, .null, .int 0])) :: wK cI h (ad, tk0)) := hD
  refine va_putF (D := (dC, dI)) (ci := 5) (v := .ref h) (ty := .object "SyntaxTree$Tokens") (C := R_Sy) (T := T_Sy) (N := 4) hx hb hts u_Sy ty_Sy tk_Sy nm_Sy hown hK hP hD hS 0 rfl rfl 0 (by decide) (hts _ L_238) (fun _ h9 => h9) rfl hin rfl (by decide +kernel) rfl rfl (Nat.le_of_ble_eq_true rfl) d_Sy_init_12 (fun H locs hP hD hS => ?_)
  have hP : va_P (dC, dI) cls ((hy, .inr (5, [.ref h, .null, .null, .int 0])) :: wK cI h (ad, tk0)) H := hP
  have hD : va_D A ((hy, .inr (5, [.ref h, .null, .null, .int 0])) :: wK cI h (ad, tk0)) := hD
  refine lv_aload_n hx hb d_Sy_init_15 rfl (lv_at hl 0 rfl) ?_
  refine va_new (ci := 4) (fs := [.null, .null, .null, .null, .int 0]) (C := R_Tr) (T := T_Tr) (N := 5) hx hb hts u_Tr ty_Tr tk_Tr hown (hts _ L_132) (hts _ L_133) (hts _ L_85) hK hP hD hS hA rfl (fun j hj => by rcases (show j = 0 ∨ j = 1 ∨ j = 2 ∨ j = 3 ∨ j = 4 by omega) with rfl | rfl | rfl | rfl | rfl <;> rfl) (Nat.le_of_ble_eq_true rfl) (Nat.le_of_ble_eq_true rfl) d_Sy_init_16 (fun ht H hP hD hS => ?_)
  have hP : va_P (dC, dI) cls (((hy, .inr (5, [.ref h, .null, .null, .int 0])) :: wK cI h (ad, tk0)) ++ [(ht, .inr (4, [.null, .null, .null, .null, .int 0]))]) H := hP
  have hD : va_D A (((hy, .inr (5, [.ref h, .null, .null, .int 0])) :: wK cI h (ad, tk0)) ++ [(ht, .inr (4, [.null, .null, .null, .null, .int 0]))]) := hD
  refine lv_dup hx hb d_Sy_init_19 rfl ?_
  refine ci_N (wr := ((hy, .inr (5, [.ref h, .null, .null, .int 0])) :: wK cI h (ad, tk0))) (As := []) (rest := [.ref ht, .ref hy]) ⟨hx, hb, hml, hown, hts0⟩ (m_Tr_init l dC dI cI cZ sa rk ht _) hP hD hK hS hA hC hZ hN [6] [0, 1, 2, 3, 4, 5] rfl rfl (by decide) (by decide) (by decide) hN.2.2.1 L_135 L_85 L_136 rfl k_Tr_init ⟨Nat.le_of_ble_eq_true rfl, Nat.le_of_ble_eq_true rfl⟩ hl.1 ⟨Nat.le_of_ble_eq_true rfl, Nat.le_of_ble_eq_true rfl⟩ (Nat.le_of_ble_eq_true rfl) d_Sy_init_20 rfl (fun ae H locs _ hP hD hS => ?_)
  have hP : va_P (dC, dI) cls ((hy, .inr (5, [.ref h, .null, .null, .int 0])) :: (wK cI h (ad, tk0) ++ wT cI ht (ae, tr0))) H := hP
  have hD : va_D A ((hy, .inr (5, [.ref h, .null, .null, .int 0])) :: (wK cI h (ad, tk0) ++ wT cI ht (ae, tr0))) := hD
  refine va_putF (D := (dC, dI)) (ci := 5) (v := .ref ht) (ty := .object "SyntaxTree$Tree") (C := R_Sy) (T := T_Sy) (N := 4) hx hb hts u_Sy ty_Sy tk_Sy nm_Sy hown hK hP hD hS 0 rfl rfl 1 (by decide) (hts _ L_239) (fun _ h9 => h9) rfl hin rfl (by decide +kernel) rfl rfl (Nat.le_of_ble_eq_true rfl) d_Sy_init_23 (fun H locs hP hD hS => ?_)
  have hP : va_P (dC, dI) cls ((hy, .inr (5, [.ref h, .ref ht, .null, .int 0])) :: (wK cI h (ad, tk0) ++ wT cI ht (ae, tr0))) H := hP
  have hD : va_D A ((hy, .inr (5, [.ref h, .ref ht, .null, .int 0])) :: (wK cI h (ad, tk0) ++ wT cI ht (ae, tr0))) := hD
  refine lv_aload_n hx hb d_Sy_init_26 rfl (lv_at hl 0 rfl) ?_
  refine va_new (ci := 2) (fs := [.null, .null, .int 0, .null, .int 0, .int 0, .null]) (C := R_Pa) (T := T_Pa) (N := 7) hx hb hts u_Pa ty_Pa tk_Pa hown (hts _ L_154) (hts _ L_155) (hts _ L_87) hK hP hD hS hA rfl (fun j hj => by rcases (show j = 0 ∨ j = 1 ∨ j = 2 ∨ j = 3 ∨ j = 4 ∨ j = 5 ∨ j = 6 by omega) with rfl | rfl | rfl | rfl | rfl | rfl | rfl <;> rfl) (Nat.le_of_ble_eq_true rfl) (Nat.le_of_ble_eq_true rfl) d_Sy_init_27 (fun hp H hP hD hS => ?_)
  have hP : va_P (dC, dI) cls (((hy, .inr (5, [.ref h, .ref ht, .null, .int 0])) :: (wK cI h (ad, tk0) ++ wT cI ht (ae, tr0))) ++ [(hp, .inr (2, [.null, .null, .int 0, .null, .int 0, .int 0, .null]))]) H := hP
  have hD : va_D A (((hy, .inr (5, [.ref h, .ref ht, .null, .int 0])) :: (wK cI h (ad, tk0) ++ wT cI ht (ae, tr0))) ++ [(hp, .inr (2, [.null, .null, .int 0, .null, .int 0, .int 0, .null]))]) := hD
  refine lv_dup hx hb d_Sy_init_30 rfl ?_
  refine lv_aload_n hx hb d_Sy_init_31 rfl (lv_at hl 0 rfl) ?_
  refine va_get (D := (dC, dI)) (ci := 5) (v := .ref h) (C := R_Sy) (T := T_Sy) (N := 4) hx hb hts u_Sy hown hK hP 0 rfl rfl 0 (by decide) (hts _ L_238) (fun _ h9 => h9) rfl d_Sy_init_32 ?_
  refine lv_aload_n hx hb d_Sy_init_35 rfl (lv_at hl 0 rfl) ?_
  refine va_get (D := (dC, dI)) (ci := 5) (v := .ref ht) (C := R_Sy) (T := T_Sy) (N := 4) hx hb hts u_Sy hown hK hP 0 rfl rfl 1 (by decide) (hts _ L_239) (fun _ h9 => h9) rfl d_Sy_init_36 ?_
  refine ci_I (wr := ((hy, .inr (5, [.ref h, .ref ht, .null, .int 0])) :: (wK cI h (ad, tk0) ++ wT cI ht (ae, tr0)))) (As := [.ref h, .ref ht]) (rest := [.ref hp, .ref hy]) ⟨hx, hb, hml, hown, hts0⟩ (m_Pa_init l dC dI cI cZ sa rk hp h ht _) hP hD hK hS hA hC hZ hN [11] [0, 1, 2, 3, 4, 5, 6, 7, 8, 9, 10] rfl rfl (by decide) (by decide) (by decide) L_156 L_157 L_87 L_158 rfl k_Pa_init ⟨Nat.le_of_ble_eq_true rfl, Nat.le_of_ble_eq_true rfl⟩ hl.1 ⟨Nat.le_of_ble_eq_true rfl, Nat.le_of_ble_eq_true rfl⟩ (Nat.le_of_ble_eq_true rfl) d_Sy_init_39 rfl (fun u H locs _ hP hD hS => ?_)
  obtain ⟨hc, hq, n1, n2⟩ := u
  have hP : va_P (dC, dI) cls ((hy, .inr (5, [.ref h, .ref ht, .null, .int 0])) :: wQ cI cZ hp hc h ad.1 ad.2.1 ad.2.2.1 ad.2.2.2 ht hq n1 n2 (ae, stI 0 0)) H := hP.sub [0, 11, 12, 1, 2, 3, 4, 5, 6, 7, 8, 9, 10, 13, 14, 15] rfl
  have hD : va_D A ((hy, .inr (5, [.ref h, .ref ht, .null, .int 0])) :: wQ cI cZ hp hc h ad.1 ad.2.1 ad.2.2.1 ad.2.2.2 ht hq n1 n2 (ae, stI 0 0)) := hD.sub [0, 11, 12, 1, 2, 3, 4, 5, 6, 7, 8, 9, 10, 13, 14, 15] (by decide) rfl
  refine va_putF (D := (dC, dI)) (ci := 5) (v := .ref hp) (ty := .object "SyntaxTree$Parser") (C := R_Sy) (T := T_Sy) (N := 4) hx hb hts u_Sy ty_Sy tk_Sy nm_Sy hown hK hP hD hS 0 rfl rfl 2 (by decide) (hts _ L_240) (fun _ h9 => h9) rfl hin rfl (by decide +kernel) rfl rfl (Nat.le_of_ble_eq_true rfl) d_Sy_init_42 (fun H locs hP hD hS => ?_)
  have hP : va_P (dC, dI) cls ((hy, .inr (5, [.ref h, .ref ht, .ref hp, .int 0])) :: wQ cI cZ hp hc h ad.1 ad.2.1 ad.2.2.1 ad.2.2.2 ht hq n1 n2 (ae, stI 0 0)) H := hP
  have hD : va_D A ((hy, .inr (5, [.ref h, .ref ht, .ref hp, .int 0])) :: wQ cI cZ hp hc h ad.1 ad.2.1 ad.2.2.1 ad.2.2.2 ht hq n1 n2 (ae, stI 0 0)) := hD
  refine lv_aload_n hx hb d_Sy_init_45 rfl (lv_at hl 0 rfl) ?_
  refine lv_iconst (v := (-1)) hx hb d_Sy_init_46 (by decide) ?_
  refine va_put (D := (dC, dI)) (ci := 5) (v := .int (-1)) (ty := .int) (C := R_Sy) (T := T_Sy) (N := 4) hx hb hts u_Sy ty_Sy tk_Sy nm_Sy hown hK hP hD hS 0 rfl rfl 3 (by decide) (hts _ L_241) (fun _ h9 => h9) rfl (by decide +kernel) rfl rfl (Nat.le_of_ble_eq_true rfl) d_Sy_init_47 (fun H locs hP hD hS => ?_)
  have hP : va_P (dC, dI) cls ((hy, .inr (5, [.ref h, .ref ht, .ref hp, .int (-1)])) :: wQ cI cZ hp hc h ad.1 ad.2.1 ad.2.2.1 ad.2.2.2 ht hq n1 n2 (ae, stI 0 0)) H := hP
  have hD : va_D A ((hy, .inr (5, [.ref h, .ref ht, .ref hp, .int (-1)])) :: wQ cI cZ hp hc h ad.1 ad.2.1 ad.2.2.1 ad.2.2.2 ht hq n1 n2 (ae, stI 0 0)) := hD
  exact W.vret hx hb hr (fun t ht9 hW => ⟨⟨((hp, h, ht, hq, n1, n2), ad, hc, ae), rfl, trivial, by rw [ht9]; exact hP, va_K.moved hW.alike hK, hD⟩, hS.F ht9⟩) hS.2.2 d_Sy_init_50
