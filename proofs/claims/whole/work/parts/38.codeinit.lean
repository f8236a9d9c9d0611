theorem fB {v : Int32} (h : v = 0 ∨ v = 1) : fits .boolean (.int v) = true := by rcases h with rfl | rfl <;> rfl
set_option maxRecDepth 100000 in
set_option maxHeartbeats 4000000 in
theorem m_Co_init (l : Launch) (dC : Nat → ClassId) (dI : Nat → Nat → Nat) (cI cZ : ClassId) (sa rk q sz : Nat) (f s9 fl : Int32) (hf : f = 0 ∨ f = 1) (hs9 : s9 = 0 ∨ s9 = 1) : cMv l y_Co_init c_Co_init 4 1 22 0 0 (dC, dI) cI cZ sa rk [.ref q, .int f, .int s9, .int fl] [(q, .inr (0, [.int 0, .int 0, .int 0, .int 0, .int 0]))] sz (fun _ : Unit => True) (fun _ => [(q, .inr (0, [.int f, .int fl, .int s9, .int 0, .int 0]))]) := by
  refine Met.ofW (cc := c_Co_init) (maxL := 4) (ret := none) (by decide) rfl ?_
  intro p e s m args below meth c s₁ B hml hv9
  obtain ⟨rfl, hsz, hP, hK, hD0, hC, hZ⟩ := hv9
  have hx := B.exec
  have hb := B.bytes
  have hr := B.returns
  have hts0 := atoms_spec (ws := wy y_Co_init c_Co_init 4 none) B.pre
  have hts := htsL hts0
  have hown : s.vm.findClass R_Co = some m.cls := findClass_of_methodNamed B.named
  have hlocks := B.notSynchronized
  have hin : meth.name = "<init>" := (name_of_methodNamed B.named B.method).1
  subst hsz
  have hD := hD0.self (sz := s.heap.size)
  generalize hAe : va_A [(q, .inr (0, [.int 0, .int 0, .int 0, .int 0, .int 0]))] s.heap.size = A at hD hZ ⊢
  have hA : ∀ q : Nat, s.heap.size ≤ q → A q := fun q h => by rw [← hAe]; exact Or.inr h
  have hS : va_S A s.heap s.heap [] := va_S.rf
  have hl := lv_entry ([.ref q, .int f, .int s9, .int fl]) (n := 4) (Nat.le_of_ble_eq_true rfl)
  rw [lg_entry_eq]
  generalize (lg_sl ([.ref q, .int f, .int s9, .int fl]) ++ List.replicate (4 - (lg_sl ([.ref q, .int f, .int s9, .int fl])).length) Slot.unset).toArray = ls at hl ⊢
  have hl : lv_has ls 4 [(0, .ref q), (1, .int f), (2, .int s9), (3, .int fl)] := hl
  refine lv_aload_n hx hb d_Co_init_0 rfl (lv_at hl 0 rfl) ?_
  refine W.objInit hx hb hown (hts _ L_168) (hts _ L_107) (hts _ L_108) rfl (by rw [hml]; exact hl.1) rfl d_Co_init_1 (Nat.le_of_ble_eq_true rfl) (Nat.le_of_ble_eq_true rfl) ?_
  refine W.eq (g2 := F0 m 4 ls []) rfl ?_
  refine lv_aload_n hx hb d_Co_init_4 rfl (lv_at hl 0 rfl) ?_
  refine lv_iconst (v := 0) hx hb d_Co_init_5 (by decide) ?_
  refine va_put (D := (dC, dI)) (ci := 0) (v := .int 0) (ty := .int) (C := R_Co) (T := T_Co) (N := 5) hx hb hts u_Co ty_Co tk_Co nm_Co hown hK hP hD hS 0 rfl rfl 3 (by decide) (hts _ L_176) (fun _ h9 => h9) rfl (by decide +kernel) rfl rfl (Nat.le_of_ble_eq_true rfl) d_Co_init_6 (fun H locs hP hD hS => ?_)
  have hP : va_P (dC, dI) cls [(q, .inr (0, [.int 0, .int 0, .int 0, .int 0, .int 0]))] H := hP
  have hD : va_D A [(q, .inr (0, [.int 0, .int 0, .int 0, .int 0, .int 0]))] := hD
  refine lv_aload_n hx hb d_Co_init_9 rfl (lv_at hl 0 rfl) ?_
  refine lv_iconst (v := 0) hx hb d_Co_init_10 (by decide) ?_
  refine va_put (D := (dC, dI)) (ci := 0) (v := .int 0) (ty := .int) (C := R_Co) (T := T_Co) (N := 5) hx hb hts u_Co ty_Co tk_Co nm_Co hown hK hP hD hS 0 rfl rfl 4 (by decide) (hts _ L_178) (fun _ h9 => h9) rfl (by decide +kernel) rfl rfl (Nat.le_of_ble_eq_true rfl) d_Co_init_11 (fun H locs hP hD hS => ?_)
  have hP : va_P (dC, dI) cls [(q, .inr (0, [.int 0, .int 0, .int 0, .int 0, .int 0]))] H := hP
  have hD : va_D A [(q, .inr (0, [.int 0, .int 0, .int 0, .int 0, .int 0]))] := hD
  refine lv_aload_n hx hb d_Co_init_14 rfl (lv_at hl 0 rfl) ?_
  refine lv_iload_n hx hb d_Co_init_15 rfl (lv_at hl 1 rfl) ?_
  refine va_putF (D := (dC, dI)) (ci := 0) (v := .int f) (ty := .boolean) (C := R_Co) (T := T_Co) (N := 5) hx hb hts u_Co ty_Co tk_Co nm_Co hown hK hP hD hS 0 rfl rfl 0 (by decide) (hts _ L_169) (fun _ h9 => h9) rfl hin rfl (by decide +kernel) (nB hf) (fB hf) (Nat.le_of_ble_eq_true rfl) d_Co_init_16 (fun H locs hP hD hS => ?_)
  have hP : va_P (dC, dI) cls [(q, .inr (0, [.int f, .int 0, .int 0, .int 0, .int 0]))] H := hP
  have hD : va_D A [(q, .inr (0, [.int f, .int 0, .int 0, .int 0, .int 0]))] := hD
  refine lv_aload_n hx hb d_Co_init_19 rfl (lv_at hl 0 rfl) ?_
  refine lv_iload_n hx hb d_Co_init_20 rfl (lv_at hl 2 rfl) ?_
  refine va_put (D := (dC, dI)) (ci := 0) (v := .int s9) (ty := .boolean) (C := R_Co) (T := T_Co) (N := 5) hx hb hts u_Co ty_Co tk_Co nm_Co hown hK hP hD hS 0 rfl rfl 2 (by decide) (hts _ L_173) (fun _ h9 => h9) rfl (by decide +kernel) (nB hs9) (fB hs9) (Nat.le_of_ble_eq_true rfl) d_Co_init_21 (fun H locs hP hD hS => ?_)
  have hP : va_P (dC, dI) cls [(q, .inr (0, [.int f, .int 0, .int s9, .int 0, .int 0]))] H := hP
  have hD : va_D A [(q, .inr (0, [.int f, .int 0, .int s9, .int 0, .int 0]))] := hD
  refine lv_aload_n hx hb d_Co_init_24 rfl (lv_at hl 0 rfl) ?_
  refine lv_iload_n hx hb d_Co_init_25 rfl (lv_at hl 3 rfl) ?_
  refine va_putF (D := (dC, dI)) (ci := 0) (v := .int fl) (ty := .int) (C := R_Co) (T := T_Co) (N := 5) hx hb hts u_Co ty_Co tk_Co nm_Co hown hK hP hD hS 0 rfl rfl 1 (by decide) (hts _ L_171) (fun _ h9 => h9) rfl hin rfl (by decide +kernel) rfl rfl (Nat.le_of_ble_eq_true rfl) d_Co_init_26 (fun H locs hP hD hS => ?_)
  have hP : va_P (dC, dI) cls [(q, .inr (0, [.int f, .int fl, .int s9, .int 0, .int 0]))] H := hP
  have hD : va_D A [(q, .inr (0, [.int f, .int fl, .int s9, .int 0, .int 0]))] := hD
  exact W.vret hx hb hr (fun t ht9 hW => ⟨⟨(), rfl, trivial, by rw [ht9]; exact hP, va_K.moved hW.alike hK, hD⟩, hS.F ht9⟩) hS.2.2 d_Co_init_29
