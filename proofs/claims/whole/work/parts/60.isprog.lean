section TLRH
variable {p : Program} {l : Launch} {e : Env} {R : Room} {s : State} {m : MethodId} {args : Array Value} {below : List Frame} {meth : Method} {c : Code} {H : Heap} {locs : List Loc} {Q : State → Prop}
variable {cc bytes : ByteArray} {pc maxL fr lo idx nL : Nat} {ls : Array Slot} {rest st0 As : List Value} {x : Cond} {own : String} {y : MethodName} {rt : FieldType} {a : Array Value}
variable {D : va_G} {cI cZ : ClassId} {sa rk hm : Nat} {ma : Nat → Nat} {mo : MO} {g : Rm} {A : Nat → Prop}
theorem mr_iH (hr : vx_Run p l e R s m args below meth c H locs 0 0 (mcM g) (msM g) (F0 m pc ls st0) rest (va_Qi (fun r (u : MO) => g = some (.inr (r, u))) (wB D cI cZ (va_A (wM cI cZ hm ma mo) H.size) (wM cI cZ hm ma)) (va_A (wM cI cZ hm ma mo) H.size) a) (xM D cI cZ hm ma g (va_A (wM cI cZ hm ma mo) H.size)) (va_A (wM cI cZ hm ma mo) H.size))
    (hS : va_S A s.heap H locs) (hF : ∀ q, va_A (wM cI cZ hm ma mo) H.size q → A q)
    (kx : ∀ (mo1 : MO) (ce : Cell) (q9 : Addr) (H1 : Heap) (locs1 : List Loc), g = some (.inl mo1) → va_P D cls (wM cI cZ hm ma mo1) H1 → va_D A (wM cI cZ hm ma mo1) → va_S A s.heap H1 locs1 → H1[q9]? = some ce → ce.vm = .none → s.vm.findClass UOE = some ce.cls → vx_W p l e R s m args below meth c H1 locs1 1 6 Q (F0 m pc ls rest) q9)
    (kk : ∀ (r : Int32) (mo1 : MO) (H1 : Heap) (locs1 : List Loc), g = some (.inr (r, mo1)) → va_P D cls (wM cI cZ hm ma mo1) H1 → va_D A (wM cI cZ hm ma mo1) → va_S A s.heap H1 locs1 → W p l e R s m args below meth c H1 locs1 0 0 Q (F0 m (pc + 3) ls (.int r :: rest))) :
    W p l e R s m args below meth c H locs 0 0 Q (F0 m pc ls st0) := by
  refine vx_calli hr hS (fun q _ h => hF q h) hF (fun q _ h => hF q h) (fun E ce q9 u t H1 locs1 ht1 hvm hp1 hB hz hk hS1 hce hcv hcl1 => ?_) (fun r u t H1 locs1 ht1 hvm hp1 hB hz hk hS1 => ?_)
  · obtain ⟨hE, hP1, hK1, hD1⟩ := hB
    subst hE
    rw [ht1] at hP1
    have k := kx u ce q9 H1 locs1 hp1 hP1 (hD1.weaken (fun _ _ _ z => hF _ z)) hS1 hce hcv hcl1
    have m1 : 0 + mcM g = 1 := by rw [hp1]; rfl
    have m2 : 0 + msM g = 6 := by rw [hp1]; rfl
    rw [m1, m2]; exact k
  · obtain ⟨hP1, hK1, hD1⟩ := hB
    rw [ht1] at hP1
    have k := kk r u H1 locs1 hp1 hP1 (hD1.weaken (fun _ _ _ z => hF _ z)) hS1
    have m1 : mcM g = 0 := by rw [hp1]; rfl
    have m2 : msM g = 0 := by rw [hp1]; rfl
    rw [m1, m2]; exact k
theorem mr_vH (hr : vx_Run p l e R s m args below meth c H locs 0 0 (mcM g) (msM g) (F0 m pc ls st0) rest (va_Qv (fun u : MO => g = some (.inr (0, u))) (wB D cI cZ (va_A (wM cI cZ hm ma mo) H.size) (wM cI cZ hm ma)) (va_A (wM cI cZ hm ma mo) H.size) a) (xM D cI cZ hm ma g (va_A (wM cI cZ hm ma mo) H.size)) (va_A (wM cI cZ hm ma mo) H.size))
    (hS : va_S A s.heap H locs) (hF : ∀ q, va_A (wM cI cZ hm ma mo) H.size q → A q)
    (kx : ∀ (mo1 : MO) (ce : Cell) (q9 : Addr) (H1 : Heap) (locs1 : List Loc), g = some (.inl mo1) → va_P D cls (wM cI cZ hm ma mo1) H1 → va_D A (wM cI cZ hm ma mo1) → va_S A s.heap H1 locs1 → H1[q9]? = some ce → ce.vm = .none → s.vm.findClass UOE = some ce.cls → vx_W p l e R s m args below meth c H1 locs1 1 6 Q (F0 m pc ls rest) q9)
    (kk : ∀ (mo1 : MO) (H1 : Heap) (locs1 : List Loc), g = some (.inr (0, mo1)) → va_P D cls (wM cI cZ hm ma mo1) H1 → va_D A (wM cI cZ hm ma mo1) → va_S A s.heap H1 locs1 → W p l e R s m args below meth c H1 locs1 0 0 Q (F0 m (pc + 3) ls rest)) :
    W p l e R s m args below meth c H locs 0 0 Q (F0 m pc ls st0) := by
  refine vx_callv hr hS (fun q _ h => hF q h) hF (fun q _ h => hF q h) (fun E ce q9 u t H1 locs1 ht1 hvm hp1 hB hz hk hS1 hce hcv hcl1 => ?_) (fun u t H1 locs1 ht1 hvm hp1 hB hz hk hS1 => ?_)
  · obtain ⟨hE, hP1, hK1, hD1⟩ := hB
    subst hE
    rw [ht1] at hP1
    have k := kx u ce q9 H1 locs1 hp1 hP1 (hD1.weaken (fun _ _ _ z => hF _ z)) hS1 hce hcv hcl1
    have m1 : 0 + mcM g = 1 := by rw [hp1]; rfl
    have m2 : 0 + msM g = 6 := by rw [hp1]; rfl
    rw [m1, m2]; exact k
  · obtain ⟨hP1, hK1, hD1⟩ := hB
    rw [ht1] at hP1
    have k := kk u H1 locs1 hp1 hP1 (hD1.weaken (fun _ _ _ z => hF _ z)) hS1
    have m1 : mcM g = 0 := by rw [hp1]; rfl
    have m2 : msM g = 0 := by rw [hp1]; rfl
    rw [m1, m2]; exact k
theorem mr_ViH (CF : CallFix p m c cc nL s args (x :: LL) own) (hM : cXi l y bytes maxL rt fr lo D cI cZ sa rk hm ma mo H.size (.ref hm :: As) g)
    (hP : va_P D cls (wM cI cZ hm ma mo) H) (hD : va_D A (wM cI cZ hm ma mo)) (hK : va_K D cls (ty2 cI cZ) s) (hS : va_S A s.heap H locs) (hA : ∀ q, s.heap.size ≤ q → A q) (hC : CX cI sa s) (hZ : ZX rk A s s.heap)
    (l1 : Cond.methodLink own idx y ∈ LL) (l2 : Cond.instanceMethod y ∈ LL) (l3 : Cond.selects R_Mo y y ∈ LL) (l4 : Cond.initialized y.cls ∈ LL) (l5 : Cond.code y bytes maxL (some rt) ∈ LL)
    (hd : y.cls ≠ "java/lang/invoke/MethodHandle" ∧ y.cls ≠ "java/lang/invoke/VarHandle" ∧ (parseMethodDescriptor y.desc).map (fun d => d.parameters.length) = some As.length)
    (hR : fr + 1 ≤ R.frames ∧ 8 + (maxL + 11) + lo ≤ R.locals) (hRc : R.cells = 1) (hRs : R.slots = 6) (hls : ls.size = nL) (hst : (rest.map fun v => v.category).sum ≤ 8) (hdg : decode cc pc = .ok (.invokevirtual idx, 3)) (h0 : st0 = As.reverse ++ .ref hm :: rest)
    (kx : ∀ (mo1 : MO) (ce : Cell) (q9 : Addr) (H1 : Heap) (locs1 : List Loc), g = some (.inl mo1) → va_P D cls (wM cI cZ hm ma mo1) H1 → va_D A (wM cI cZ hm ma mo1) → va_S A s.heap H1 locs1 → H1[q9]? = some ce → ce.vm = .none → s.vm.findClass UOE = some ce.cls → vx_W p l e R s m args below meth c H1 locs1 1 6 Q (F0 m pc ls rest) q9)
    (kk : ∀ (r : Int32) (mo1 : MO) (H1 : Heap) (locs1 : List Loc), g = some (.inr (r, mo1)) → va_P D cls (wM cI cZ hm ma mo1) H1 → va_D A (wM cI cZ hm ma mo1) → va_S A s.heap H1 locs1 → W p l e R s m args below meth c H1 locs1 0 0 Q (F0 m (pc + 3) ls (.int r :: rest))) :
    W p l e R s m args below meth c H locs 0 0 Q (F0 m pc ls st0) := by
  have hF := va_free (wc := wM cI cZ hm ma mo) hD hS hA [0, 1, 2, 3, 4, 5, 6, 7, 8, 9, 10, 11, 12, 13, 14, 15, 16] rfl
  exact mr_iH (vy_runV (As := As) (rest := rest) CF hM ⟨prM_blind, va_recv hK hP (ci := 6) (q0 := 0) rfl rfl, fun U hU hW => ⟨rfl, by rw [hU], by rw [hU]; exact hP, va_K.moved hW.alike hK, hD.weaken (fun _ _ _ _ => trivial), XX.use hC hZ hS hF hU hW⟩⟩ l1 l2 l3 l4 l5 hd hR rfl hls h0 (lv_room hst) hdg ⟨by rw [hRc]; exact Nat.le_of_eq (Nat.zero_add _), by rw [hRs]; exact Nat.le_of_eq (Nat.zero_add _)⟩) hS hF kx kk
theorem mr_VvH (CF : CallFix p m c cc nL s args (x :: LL) own) (hM : cXv l y bytes maxL fr lo D cI cZ sa rk hm ma mo H.size (.ref hm :: As) g)
    (hP : va_P D cls (wM cI cZ hm ma mo) H) (hD : va_D A (wM cI cZ hm ma mo)) (hK : va_K D cls (ty2 cI cZ) s) (hS : va_S A s.heap H locs) (hA : ∀ q, s.heap.size ≤ q → A q) (hC : CX cI sa s) (hZ : ZX rk A s s.heap)
    (l1 : Cond.methodLink own idx y ∈ LL) (l2 : Cond.instanceMethod y ∈ LL) (l3 : Cond.selects R_Mo y y ∈ LL) (l4 : Cond.initialized y.cls ∈ LL) (l5 : Cond.code y bytes maxL none ∈ LL)
    (hd : y.cls ≠ "java/lang/invoke/MethodHandle" ∧ y.cls ≠ "java/lang/invoke/VarHandle" ∧ (parseMethodDescriptor y.desc).map (fun d => d.parameters.length) = some As.length)
    (hR : fr + 1 ≤ R.frames ∧ 8 + (maxL + 11) + lo ≤ R.locals) (hRc : R.cells = 1) (hRs : R.slots = 6) (hls : ls.size = nL) (hst : (rest.map fun v => v.category).sum ≤ 8) (hdg : decode cc pc = .ok (.invokevirtual idx, 3)) (h0 : st0 = As.reverse ++ .ref hm :: rest)
    (kx : ∀ (mo1 : MO) (ce : Cell) (q9 : Addr) (H1 : Heap) (locs1 : List Loc), g = some (.inl mo1) → va_P D cls (wM cI cZ hm ma mo1) H1 → va_D A (wM cI cZ hm ma mo1) → va_S A s.heap H1 locs1 → H1[q9]? = some ce → ce.vm = .none → s.vm.findClass UOE = some ce.cls → vx_W p l e R s m args below meth c H1 locs1 1 6 Q (F0 m pc ls rest) q9)
    (kk : ∀ (mo1 : MO) (H1 : Heap) (locs1 : List Loc), g = some (.inr (0, mo1)) → va_P D cls (wM cI cZ hm ma mo1) H1 → va_D A (wM cI cZ hm ma mo1) → va_S A s.heap H1 locs1 → W p l e R s m args below meth c H1 locs1 0 0 Q (F0 m (pc + 3) ls rest)) :
    W p l e R s m args below meth c H locs 0 0 Q (F0 m pc ls st0) := by
  have hF := va_free (wc := wM cI cZ hm ma mo) hD hS hA [0, 1, 2, 3, 4, 5, 6, 7, 8, 9, 10, 11, 12, 13, 14, 15, 16] rfl
  exact mr_vH (vy_runV (As := As) (rest := rest) CF hM ⟨prM_blind, va_recv hK hP (ci := 6) (q0 := 0) rfl rfl, fun U hU hW => ⟨rfl, by rw [hU], by rw [hU]; exact hP, va_K.moved hW.alike hK, hD.weaken (fun _ _ _ _ => trivial), XX.use hC hZ hS hF hU hW⟩⟩ l1 l2 l3 l4 l5 hd hR rfl hls h0 (lv_room hst) hdg ⟨by rw [hRc]; exact Nat.le_of_eq (Nat.zero_add _), by rw [hRs]; exact Nat.le_of_eq (Nat.zero_add _)⟩) hS hF kx kk
theorem mr_SvH (CF : CallFix p m c cc nL s args (x :: LL) own) (hM : cXv l y bytes maxL fr lo D cI cZ sa rk hm ma mo H.size As g)
    (hP : va_P D cls (wM cI cZ hm ma mo) H) (hD : va_D A (wM cI cZ hm ma mo)) (hK : va_K D cls (ty2 cI cZ) s) (hS : va_S A s.heap H locs) (hA : ∀ q, s.heap.size ≤ q → A q) (hC : CX cI sa s) (hZ : ZX rk A s s.heap)
    (l1 : Cond.methodLink own idx y ∈ LL) (l2 : Cond.static y ∈ LL) (l4 : Cond.initialized y.cls ∈ LL) (l5 : Cond.code y bytes maxL none ∈ LL)
    (hd : y.cls ≠ "java/lang/invoke/MethodHandle" ∧ y.cls ≠ "java/lang/invoke/VarHandle" ∧ (parseMethodDescriptor y.desc).map (fun d => d.parameters.length) = some As.length)
    (hR : fr + 1 ≤ R.frames ∧ 8 + (maxL + 11) + lo ≤ R.locals) (hRc : R.cells = 1) (hRs : R.slots = 6) (hls : ls.size = nL) (hst : (rest.map fun v => v.category).sum ≤ 8) (hdg : decode cc pc = .ok (.invokestatic idx, 3)) (h0 : st0 = As.reverse ++ rest)
    (kx : ∀ (mo1 : MO) (ce : Cell) (q9 : Addr) (H1 : Heap) (locs1 : List Loc), g = some (.inl mo1) → va_P D cls (wM cI cZ hm ma mo1) H1 → va_D A (wM cI cZ hm ma mo1) → va_S A s.heap H1 locs1 → H1[q9]? = some ce → ce.vm = .none → s.vm.findClass UOE = some ce.cls → vx_W p l e R s m args below meth c H1 locs1 1 6 Q (F0 m pc ls rest) q9)
    (kk : ∀ (mo1 : MO) (H1 : Heap) (locs1 : List Loc), g = some (.inr (0, mo1)) → va_P D cls (wM cI cZ hm ma mo1) H1 → va_D A (wM cI cZ hm ma mo1) → va_S A s.heap H1 locs1 → W p l e R s m args below meth c H1 locs1 0 0 Q (F0 m (pc + 3) ls rest)) :
    W p l e R s m args below meth c H locs 0 0 Q (F0 m pc ls st0) := by
  have hF := va_free (wc := wM cI cZ hm ma mo) hD hS hA [0, 1, 2, 3, 4, 5, 6, 7, 8, 9, 10, 11, 12, 13, 14, 15, 16] rfl
  exact mr_vH (vy_runS (As := As) (rest := rest) CF hM ⟨prM_blind, fun U hU hW => ⟨rfl, by rw [hU], by rw [hU]; exact hP, va_K.moved hW.alike hK, hD.weaken (fun _ _ _ _ => trivial), XX.use hC hZ hS hF hU hW⟩⟩ l1 l2 l4 l5 hd hR rfl hls h0 (lv_room hst) hdg ⟨by rw [hRc]; exact Nat.le_of_eq (Nat.zero_add _), by rw [hRs]; exact Nat.le_of_eq (Nat.zero_add _)⟩) hS hF kx kk
end TLRH
/-- what isProgram does up to its end, thrown or not -/
def f_progM (mo : MO) : Rm := bndM (f_Mo_begin mo) (fun _ m1 => if inb (q_count m1) 1001 then bndM (f_Mo_make (s_lines m1 (upd (q_lines m1) (q_count m1 : Int32).toNatClampNeg 1)) 0 0 0) (fun r m2 => bndM (Kn 101 6 [r, 1, 0] m2) (fun _ m3 => if q_count m3 ≤ q_at m3 then (if inb r 2600 then some (.inr (0, s_value m3 (upd (q_value m3) (r : Int32).toNatClampNeg (if q_strict m3 = 0 then 0 else 1)))) else none) else f_Mo_refuse m3 (q_at m3))) else none)
def f_isProg (mo : MO) : Option (Int32 × MO) := match f_progM mo with
  | none => none
  | some (.inl u) => some (0, u)
  | some (.inr u) => some (1, u.2)
theorem isP_l {mo u : MO} (h : f_progM mo = some (.inl u)) : f_isProg mo = some (0, u) := by unfold f_isProg; rw [h]
theorem isP_r {mo u : MO} {r : Int32} (h : f_progM mo = some (.inr (r, u))) : f_isProg mo = some (1, u) := by unfold f_isProg; rw [h]
set_option maxRecDepth 100000 in
set_option maxHeartbeats 4000000 in
theorem m_Mo_isProgram (l : Launch) (hlt : l.stackTraces = false) (dC : Nat → ClassId) (dI : Nat → Nat → Nat) (cI cZ : ClassId) (sa rk hm : Nat) (ma : Nat → Nat) (mo : MO) (sz : Nat) (hg : f_progM mo ≠ none) (hbg : ∀ u, f_Mo_begin mo ≠ some (.inl u)) :
    vx_Met l y_Mo_isProgram (wyH y_Mo_isProgram c_Mo_isProgram 2 (some .boolean) [(14, 66, 69, 81)]) { frames := 2000, cells := 1, slots := 6, locals := 41000 } (prM (dC, dI) cI cZ sa rk [.ref hm] (wM cI cZ hm ma mo) sz)
      (va_Qi (fun r (u : MO) => f_isProg mo = some (r, u)) (wB (dC, dI) cI cZ (va_A (wM cI cZ hm ma mo) sz) (wM cI cZ hm ma)) (va_A (wM cI cZ hm ma mo) sz)) (vx_X (fun _ : Unit => False) (fun _ _ _ => False) (va_A (wM cI cZ hm ma mo) sz)) 1 6 (va_A (wM cI cZ hm ma mo) sz) := by
  obtain ⟨-, -, -, -, -, -, hR6, -⟩ := r_levels l hlt dC dI cI cZ sa rk hm ma 101 1919 39996 (by decide) (by decide)
  refine vx_ofWH (cc := c_Mo_isProgram) (maxL := 2) (ret := some .boolean) (hh := [(14, 66, 69, 81)]) (by decide) rfl ?_
  intro p e s m args below meth c s₁ B hml hv
  obtain ⟨rfl, hsz, hP, hK, hD0, hC, hZ⟩ := hv
  have hx := B.exec
  have hb := B.bytes
  have hr := B.returns
  have hts0 := atoms_spec (ws := wyH y_Mo_isProgram c_Mo_isProgram 2 (some .boolean) [(14, 66, 69, 81)]) B.pre
  have hts := htsL hts0
  have htab := vx_table (x := y_Mo_isProgram) B (hts0 _ List.mem_cons_self)
  have hown : s.vm.findClass R_Mo = some m.cls := findClass_of_methodNamed B.named
  have hlocks := B.notSynchronized
  subst hsz
  have hD := hD0.self (sz := s.heap.size)
  generalize hAe : va_A (wM cI cZ hm ma mo) s.heap.size = A at hD hZ ⊢
  have hA : ∀ q : Nat, s.heap.size ≤ q → A q := fun q h => by rw [← hAe]; exact Or.inr h
  have hS : va_S A s.heap s.heap [] := va_S.rf
  have hl := lv_entry ([.ref hm]) (n := 2) (Nat.le_of_ble_eq_true rfl)
  rw [lg_entry_eq]
  generalize (lg_sl ([.ref hm]) ++ List.replicate (2 - (lg_sl ([.ref hm])).length) Slot.unset).toArray = ls at hl ⊢
  have hl : lv_has ls 2 [(0, .ref hm)] := hl
  refine lv_aload_n hx hb d_Mo_isProgram_0 rfl (lv_at hl 0 rfl) ?_
  refine mr_VvH (g := f_Mo_begin mo) (As := []) (rest := []) ⟨hx, hb, hml, hown, hts0⟩ (m_Mo_begin l hlt dC dI cI cZ sa rk hm ma mo _ (fun z => hg (by unfold f_progM; rw [bndM_n z]))) hP hD hK hS hA hC hZ L_1042 L_1044 L_58 L_90 L_1045 k_Mo_begin ⟨Nat.le_of_ble_eq_true rfl, Nat.le_of_ble_eq_true rfl⟩ rfl rfl hl.1 (Nat.le_of_ble_eq_true rfl) d_Mo_isProgram_1 rfl (fun u _ _ _ _ z _ _ _ _ _ _ => absurd z (hbg u)) (fun m1 H locs w_1 hP hD hS => ?_)
  refine lv_aload_n hx hb d_Mo_isProgram_4 rfl (lv_at hl 0 rfl) ?_
  refine va_get (D := (dC, dI)) (ci := 6) (v := .ref (ma 3)) (C := R_Mo) (T := T_Mo) (N := 31) hx hb hts u_Mo hown hK hP 0 rfl rfl 4 (by decide) (hts _ L_925) (fun _ h9 => h9) rfl d_Mo_isProgram_5 ?_
  refine lv_aload_n hx hb d_Mo_isProgram_8 rfl (lv_at hl 0 rfl) ?_
  refine va_get (D := (dC, dI)) (ci := 6) (v := .int (q_count m1)) (C := R_Mo) (T := T_Mo) (N := 31) hx hb hts u_Mo hown hK hP 0 rfl rfl 5 (by decide) (hts _ L_926) (fun _ h9 => h9) rfl d_Mo_isProgram_9 ?_
  refine lv_iconst (v := 1) hx hb d_Mo_isProgram_12 (by decide) ?_
  by_cases cb : inb (q_count m1) 1001
  case neg => exact absurd (by unfold f_progM; rw [bndM_r w_1, if_neg cb]) hg
  refine va_zast (D := (dC, dI)) hx hb hK hP hD hS 4 1 rfl rfl cb d_Mo_isProgram_13 (fun H locs hP hD hS => ?_)
  have hP : va_P (dC, dI) cls (wM cI cZ hm ma (s_lines m1 (upd (q_lines m1) (q_count m1 : Int32).toNatClampNeg 1))) H := hP
  have hD : va_D A (wM cI cZ hm ma (s_lines m1 (upd (q_lines m1) (q_count m1 : Int32).toNatClampNeg 1))) := hD
  refine lv_aload_n hx hb d_Mo_isProgram_14 rfl (lv_at hl 0 rfl) ?_
  refine lv_iconst (v := 0) hx hb d_Mo_isProgram_15 (by decide) ?_
  refine lv_iconst (v := 0) hx hb d_Mo_isProgram_16 (by decide) ?_
  refine lv_iconst (v := 0) hx hb d_Mo_isProgram_17 (by decide) ?_
  have hX : ∀ (u : MO) (ce : Cell) (q9 : Addr) (H1 : Heap) (locs1 : List Loc) (pc : Nat) (ls : Array Slot) (rest : List Value) (lv : List (Nat × Value)), (14 ≤ pc ∧ pc < 66) → lv_has ls 2 ((0, .ref hm) :: lv) → f_progM mo = some (.inl u) → va_P (dC, dI) cls (wM cI cZ hm ma u) H1 → va_D A (wM cI cZ hm ma u) → va_S A s.heap H1 locs1 → H1[q9]? = some ce → ce.vm = .none → s.vm.findClass UOE = some ce.cls → vx_W p l e (headSpec (wyH y_Mo_isProgram c_Mo_isProgram 2 (some .boolean) [(14, 66, 69, 81)]) { frames := 2000, cells := 1, slots := 6, locals := 41000 }).room s m [Value.ref hm].toArray below meth c H1 locs1 1 6 (vx_MQ below (va_Qi (fun r (u : MO) => f_isProg mo = some (r, u)) (wB (dC, dI) cI cZ A (wM cI cZ hm ma)) A) (vx_X (fun _ : Unit => False) (fun _ _ _ => False) A) [Value.ref hm].toArray s 1 6 A) (F0 m pc ls rest) q9 := by
    intro u ce q9 H1 locs1 pc ls rest lv hpc hl hu hP1 hD1 hS1 hce hcv hcl1
    refine vx_catch (own := R_Mo) (name := UOE) hown [] ⟨14, 66, 69, 81⟩ [] htab (fun z hz => by cases hz) (by simp [covers]; omega) (by decide) (hts _ L_1041) (va_Nw.use rfl hC.2.2.2.2.2.2) hce hcv hcl1 ?_
    refine lv_astore_n (lv' := [(1, .ref q9), (0, .ref hm)]) hx hb d_Mo_isProgram_69 rfl (lv_sub hl [0] rfl) (by decide) rfl (fun ls hl => ?_)
    refine lv_iconst (v := 0) hx hb d_Mo_isProgram_70 (by decide) ?_
    refine vx_ret ?_
    exact W.zret (v := 0) hx hb hr rfl (fun t ht hW => ⟨⟨0, u, rfl, isP_l hu, by rw [ht]; exact hP1, va_K.moved hW.alike hK, hD1⟩, hS1.F ht⟩) hS1.2.2 d_Mo_isProgram_71
  refine mr_ViH (g := f_Mo_make (s_lines m1 (upd (q_lines m1) (q_count m1 : Int32).toNatClampNeg 1)) 0 0 0) (As := [.int 0, .int 0, .int 0]) (rest := []) ⟨hx, hb, hml, hown, hts0⟩ (m_Mo_make l hlt dC dI cI cZ sa rk hm ma (s_lines m1 (upd (q_lines m1) (q_count m1 : Int32).toNatClampNeg 1)) _ 0 0 0 (fun z => hg (by unfold f_progM; rw [bndM_r w_1, if_pos cb, bndM_n z]))) hP hD hK hS hA hC hZ L_1046 L_1048 L_59 L_90 L_1049 k_Mo_make ⟨Nat.le_of_ble_eq_true rfl, Nat.le_of_ble_eq_true rfl⟩ rfl rfl hl.1 (Nat.le_of_ble_eq_true rfl) d_Mo_isProgram_18 rfl (fun u ce q9 H1 locs1 z => hX u ce q9 H1 locs1 18 ls _ [] (by omega) hl (by unfold f_progM; rw [bndM_r w_1, if_pos cb, bndM_l z])) (fun r m2 H locs w_2 hP hD hS => ?_)
  refine lv_istore_n (lv' := [(1, .int r), (0, .ref hm)]) hx hb d_Mo_isProgram_21 rfl hl (by decide) rfl (fun ls hl => ?_)
  refine lv_aload_n hx hb d_Mo_isProgram_22 rfl (lv_at hl 1 rfl) ?_
  refine lv_iload_n hx hb d_Mo_isProgram_23 rfl (lv_at hl 0 rfl) ?_
  refine lv_iconst (v := 1) hx hb d_Mo_isProgram_24 (by decide) ?_
  refine lv_iconst (v := 0) hx hb d_Mo_isProgram_25 (by decide) ?_
  have hl0 : lv_has ls 2 [(0, .ref hm), (1, .int r)] := lv_sub hl [1, 0] rfl
  refine mr_SvH (g := Kn 101 6 [r, 1, 0] m2) (As := [.ref hm, .int r, .int 1, .int 0]) (rest := []) ⟨hx, hb, hml, hown, hts0⟩ (hR6 m2 _ r 1 0 (fun z => hg (by unfold f_progM; rw [bndM_r w_1, if_pos cb, bndM_r w_2, bndM_n z]))) hP hD hK hS hA hC hZ L_1050 L_1051 L_90 L_1052 k_Mo_statements ⟨Nat.le_of_ble_eq_true rfl, Nat.le_of_ble_eq_true rfl⟩ rfl rfl hl.1 (Nat.le_of_ble_eq_true rfl) d_Mo_isProgram_26 rfl (fun u ce q9 H1 locs1 z => hX u ce q9 H1 locs1 26 ls _ [(1, .int r)] (by omega) hl0 (by unfold f_progM; rw [bndM_r w_1, if_pos cb, bndM_r w_2, bndM_l z])) (fun m3 H locs w_3 hP hD hS => ?_)
  refine lv_aload_n hx hb d_Mo_isProgram_29 rfl (lv_at hl 1 rfl) ?_
  refine va_get (D := (dC, dI)) (ci := 6) (v := .int (q_at m3)) (C := R_Mo) (T := T_Mo) (N := 31) hx hb hts u_Mo hown hK hP 0 rfl rfl 6 (by decide) (hts _ L_927) (fun _ h9 => h9) rfl d_Mo_isProgram_30 ?_
  refine lv_aload_n hx hb d_Mo_isProgram_33 rfl (lv_at hl 1 rfl) ?_
  refine va_get (D := (dC, dI)) (ci := 6) (v := .int (q_count m3)) (C := R_Mo) (T := T_Mo) (N := 31) hx hb hts u_Mo hown hK hP 0 rfl rfl 5 (by decide) (hts _ L_926) (fun _ h9 => h9) rfl d_Mo_isProgram_34 ?_
  refine lv_icmp_ge (tgt := 48) hx hb d_Mo_isProgram_37 (by decide) (fun c_1 => ?_) (fun c_1 => ?_)
  · refine lv_aload_n hx hb d_Mo_isProgram_48 rfl (lv_at hl 1 rfl) ?_
    refine va_get (D := (dC, dI)) (ci := 6) (v := .ref (ma 5)) (C := R_Mo) (T := T_Mo) (N := 31) hx hb hts u_Mo hown hK hP 0 rfl rfl 10 (by decide) (hts _ L_931) (fun _ h9 => h9) rfl d_Mo_isProgram_49 ?_
    refine lv_iload_n hx hb d_Mo_isProgram_52 rfl (lv_at hl 0 rfl) ?_
    refine lv_aload_n hx hb d_Mo_isProgram_53 rfl (lv_at hl 1 rfl) ?_
    refine va_get (D := (dC, dI)) (ci := 6) (v := .int (q_strict m3)) (C := R_Mo) (T := T_Mo) (N := 31) hx hb hts u_Mo hown hK hP 0 rfl rfl 19 (by decide) (hts _ L_940) (fun _ h9 => h9) rfl d_Mo_isProgram_54 ?_
    by_cases cr : inb r 2600
    case neg => exact absurd (by unfold f_progM; rw [bndM_r w_1, if_pos cb, bndM_r w_2, bndM_r w_3, if_pos c_1, if_neg cr]) hg
    refine lv_if_eq (tgt := 64) hx hb d_Mo_isProgram_57 (by decide) (fun c_2 => ?_) (fun c_2 => ?_)
    · refine lv_iconst (v := 0) hx hb d_Mo_isProgram_64 (by decide) ?_
      refine va_iast (D := (dC, dI)) hx hb hK hP hD hS 6 0 rfl rfl cr d_Mo_isProgram_65 (fun H locs hP hD hS => ?_)
      have hP : va_P (dC, dI) cls (wM cI cZ hm ma (s_value m3 (upd (q_value m3) (r : Int32).toNatClampNeg 0))) H := hP
      have hD : va_D A (wM cI cZ hm ma (s_value m3 (upd (q_value m3) (r : Int32).toNatClampNeg 0))) := hD
      have hfin : f_progM mo = some (.inr (0, (s_value m3 (upd (q_value m3) (r : Int32).toNatClampNeg 0)))) := by unfold f_progM; rw [bndM_r w_1, if_pos cb, bndM_r w_2, bndM_r w_3, if_pos c_1, if_pos cr, if_pos c_2]
      refine lv_goto (tgt := 72) hx hb d_Mo_isProgram_66 (by decide) ?_
      refine lv_iconst (v := 1) hx hb d_Mo_isProgram_72 (by decide) ?_
      refine vx_ret ?_
      refine W.widen (k := 1) (n := 6) (Nat.zero_le _) (Nat.zero_le _) ?_
      exact W.zret (v := 1) hx hb hr rfl (fun t ht hW => ⟨⟨1, (s_value m3 (upd (q_value m3) (r : Int32).toNatClampNeg 0)), rfl, isP_r hfin, by rw [ht]; exact hP, va_K.moved hW.alike hK, hD⟩, hS.F ht⟩) hS.2.2 d_Mo_isProgram_73
    · refine lv_iconst (v := 1) hx hb d_Mo_isProgram_60 (by decide) ?_
      refine lv_goto (tgt := 65) hx hb d_Mo_isProgram_61 (by decide) ?_
      refine va_iast (D := (dC, dI)) hx hb hK hP hD hS 6 0 rfl rfl cr d_Mo_isProgram_65 (fun H locs hP hD hS => ?_)
      have hP : va_P (dC, dI) cls (wM cI cZ hm ma (s_value m3 (upd (q_value m3) (r : Int32).toNatClampNeg 1))) H := hP
      have hD : va_D A (wM cI cZ hm ma (s_value m3 (upd (q_value m3) (r : Int32).toNatClampNeg 1))) := hD
      have hfin : f_progM mo = some (.inr (0, (s_value m3 (upd (q_value m3) (r : Int32).toNatClampNeg 1)))) := by unfold f_progM; rw [bndM_r w_1, if_pos cb, bndM_r w_2, bndM_r w_3, if_pos c_1, if_pos cr, if_neg c_2]
      refine lv_goto (tgt := 72) hx hb d_Mo_isProgram_66 (by decide) ?_
      refine lv_iconst (v := 1) hx hb d_Mo_isProgram_72 (by decide) ?_
      refine vx_ret ?_
      refine W.widen (k := 1) (n := 6) (Nat.zero_le _) (Nat.zero_le _) ?_
      exact W.zret (v := 1) hx hb hr rfl (fun t ht hW => ⟨⟨1, (s_value m3 (upd (q_value m3) (r : Int32).toNatClampNeg 1)), rfl, isP_r hfin, by rw [ht]; exact hP, va_K.moved hW.alike hK, hD⟩, hS.F ht⟩) hS.2.2 d_Mo_isProgram_73
  · refine lv_aload_n hx hb d_Mo_isProgram_40 rfl (lv_at hl 1 rfl) ?_
    refine lv_aload_n hx hb d_Mo_isProgram_41 rfl (lv_at hl 1 rfl) ?_
    refine va_get (D := (dC, dI)) (ci := 6) (v := .int (q_at m3)) (C := R_Mo) (T := T_Mo) (N := 31) hx hb hts u_Mo hown hK hP 0 rfl rfl 6 (by decide) (hts _ L_927) (fun _ h9 => h9) rfl d_Mo_isProgram_42 ?_
    refine mr_VvH (g := f_Mo_refuse m3 (q_at m3)) (As := [.int (q_at m3)]) (rest := []) ⟨hx, hb, hml, hown, hts0⟩ (m_Mo_refuse l hlt dC dI cI cZ sa rk hm ma m3 _ (q_at m3)) hP hD hK hS hA hC hZ L_1072 L_1074 L_64 L_90 L_1075 k_Mo_refuse ⟨Nat.le_of_ble_eq_true rfl, Nat.le_of_ble_eq_true rfl⟩ rfl rfl hl.1 (Nat.le_of_ble_eq_true rfl) d_Mo_isProgram_45 rfl (fun u ce q9 H1 locs1 z => hX u ce q9 H1 locs1 45 ls _ [(1, .int r)] (by omega) hl0 (by unfold f_progM; rw [bndM_r w_1, if_pos cb, bndM_r w_2, bndM_r w_3, if_neg c_1]; exact z)) (fun m4 H locs w_4 hP hD hS => ?_)
    exact absurd w_4 (by unfold f_Mo_refuse; intro z; cases z)
