/-! the law's own helpers: a call, its answer kept, its throw told by a number -/
abbrev ty3 (cI cZ cL : ClassId) : List (ClassId × FieldType) := [(cI, .int), (cZ, .boolean), (cL, .long)]
abbrev UO : Type := (Nat → Int64) × UY
abbrev wO (cI cZ cL : ClassId) (ho hy hp h ht hq n1 n2 : Nat) (u : UO) : va_W := (ho, .inl (cL, 1, .inr (.inl u.1))) :: wY cI cZ hy hp h ht hq n1 n2 u.2
def CKO (U : State) : Prop := va_Nc ISE IAE U ∧ va_Nc IOB IAE U
theorem CKO.moved {u U : State} (hv : u.vm.Alike U.vm) (h : CKO u) : CKO U := ⟨va_Nc.moved hv h.1, va_Nc.moved hv h.2⟩
abbrev prO (D : va_G) (cI cZ cL : ClassId) (sa rk : Nat) (sb : Nat → Nat) (av : List Value) (w : va_W) (sz : Nat) : Array Value → State → Prop :=
  va_Pc av (fun U => (U.heap.size = sz ∧ va_P D cls w U.heap ∧ va_K D cls (ty3 cI cZ cL) U ∧ va_D (fun _ => True) w ∧ XX cI sa rk w sz U) ∧ CY sb U ∧ CKO U)
theorem prO_blind {D : va_G} {cI cZ cL : ClassId} {sa rk : Nat} {sb : Nat → Nat} {av : List Value} {w : va_W} {sz : Nat} : FrameBlind (prO D cI cZ cL sa rk sb av w sz) :=
  fun a U g mk q => ⟨q.1, ⟨q.2.1.1, q.2.1.2.1, va_K.moved (u := U) (U := U.calling g mk a) (Vm.Alike.refl U.vm) q.2.1.2.2.1, q.2.1.2.2.2.1, XX.call q.2.1.2.2.2.2⟩, CY.same rfl q.2.2.1, CKO.moved (Vm.Alike.refl U.vm) q.2.2.2⟩
abbrev wB3 {S : Type} (D : va_G) (cI cZ cL : ClassId) (A : Nat → Prop) (w' : S → va_W) (u : S) (t : State) : Prop := va_P D cls (w' u) t.heap ∧ va_K D cls (ty3 cI cZ cL) t ∧ va_D A (w' u)
abbrev cO (l : Launch) (y : MethodName) (cc : ByteArray) (ml : Nat) (hh : List (Nat × Nat × Nat × Nat)) (fr lo mc ms : Nat) (D : va_G) (cI cZ cL : ClassId) (sa rk : Nat) (sb : Nat → Nat) (ho hy hp h ht hq n1 n2 : Nat) (u0 : UO) (sz : Nat) (av : List Value) (post : Int32 → UO → Prop) : Prop :=
  vx_Met l y (wyH y cc ml (some .int) hh) { frames := fr, cells := mc, slots := ms, locals := lo } (prO D cI cZ cL sa rk sb av (wO cI cZ cL ho hy hp h ht hq n1 n2 u0) sz)
    (va_Qi post (wB3 D cI cZ cL (va_A (wO cI cZ cL ho hy hp h ht hq n1 n2 u0) sz) (wO cI cZ cL ho hy hp h ht hq n1 n2)) (va_A (wO cI cZ cL ho hy hp h ht hq n1 n2 u0) sz)) (vx_X (fun _ : Unit => False) (fun _ _ _ => False) (va_A (wO cI cZ cL ho hy hp h ht hq n1 n2 u0) sz)) mc ms (va_A (wO cI cZ cL ho hy hp h ht hq n1 n2 u0) sz)
section HLP
variable {p : Program} {l : Launch} {e : Env} {R : Room} {s : State} {m : MethodId} {args : Array Value} {below : List Frame} {meth : Method} {c : Code} {H : Heap} {locs : List Loc} {Q : State → Prop} {cells slots : Nat}
variable {cc bytes : ByteArray} {pc maxL fr lo mc ms idx nL : Nat} {ls : Array Slot} {rest st0 As : List Value} {x : Cond} {own : String} {y : MethodName}
variable {D : va_G} {cI cZ cL : ClassId} {sa rk ho hy hp h ht hq n1 n2 : Nat} {sb : Nat → Nat} {u0 : UY} {f : Nat → Int64} {A : Nat → Prop} {post : Int32 → UY → Prop} {px : String → UY → Prop}
theorem ho_V (CF : CallFix p m c cc nL s args (x :: LL) own) (hM : cY l y bytes maxL fr lo mc ms D cI cZ sa rk sb hy hp h ht hq n1 n2 u0 H.size (.ref hy :: As) post px)
    (hP : va_P D cls (wO cI cZ cL ho hy hp h ht hq n1 n2 (f, u0)) H) (hD : va_D A (wO cI cZ cL ho hy hp h ht hq n1 n2 (f, u0))) (hK : va_K D cls (ty3 cI cZ cL) s) (hS : va_S A s.heap H locs) (hA : ∀ q, s.heap.size ≤ q → A q) (hC : CX cI sa s) (hZ : ZX rk A s s.heap) (hY : CY sb s)
    (l1 : Cond.methodLink own idx y ∈ LL) (l2 : Cond.instanceMethod y ∈ LL) (l3 : Cond.selects R_Sy y y ∈ LL) (l4 : Cond.initialized y.cls ∈ LL) (l5 : Cond.code y bytes maxL (some .int) ∈ LL)
    (hd : y.cls ≠ "java/lang/invoke/MethodHandle" ∧ y.cls ≠ "java/lang/invoke/VarHandle" ∧ (parseMethodDescriptor y.desc).map (fun d => d.parameters.length) = some As.length)
    (hR : fr + 1 ≤ R.frames ∧ 8 + (maxL + 11) + lo ≤ R.locals) (hcap : cells + mc ≤ R.cells ∧ slots + ms ≤ R.slots) (hls : ls.size = nL) (hst : (rest.map fun v => v.category).sum ≤ 8) (hdg : decode cc pc = .ok (.invokevirtual idx, 3)) (h0 : st0 = As.reverse ++ .ref hy :: rest)
    (kx : ∀ (E : String) (u1 : UY) (ce : Cell) (q9 : Addr) (H1 : Heap) (locs1 : List Loc), px E u1 → va_P D cls (wO cI cZ cL ho hy hp h ht hq n1 n2 (f, u1)) H1 → va_D A (wO cI cZ cL ho hy hp h ht hq n1 n2 (f, u1)) → va_S A s.heap H1 locs1 → H1[q9]? = some ce → ce.vm = .none → s.vm.findClass E = some ce.cls → vx_W p l e R s m args below meth c H1 locs1 (cells + mc) (slots + ms) Q (F0 m pc ls rest) q9)
    (kk : ∀ (r : Int32) (u1 : UY) (H1 : Heap) (locs1 : List Loc), post r u1 → va_P D cls (wO cI cZ cL ho hy hp h ht hq n1 n2 (f, u1)) H1 → va_D A (wO cI cZ cL ho hy hp h ht hq n1 n2 (f, u1)) → va_S A s.heap H1 locs1 → W p l e R s m args below meth c H1 locs1 (cells + mc) (slots + ms) Q (F0 m (pc + 3) ls (.int r :: rest))) :
    W p l e R s m args below meth c H locs cells slots Q (F0 m pc ls st0) := by
  have hPc := hP.sub (ws' := wY cI cZ hy hp h ht hq n1 n2 u0) [1, 2, 3, 4, 5, 6, 7, 8, 9, 10, 11, 12, 13, 14, 15, 16] rfl
  have hDc := hD.sub (ws' := wY cI cZ hy hp h ht hq n1 n2 u0) [1, 2, 3, 4, 5, 6, 7, 8, 9, 10, 11, 12, 13, 14, 15, 16] (by decide) rfl
  have hKc := hK.sub (tys' := ty2 cI cZ) [0, 1] rfl
  have hF := va_free (wc := wY cI cZ hy hp h ht hq n1 n2 u0) hD hS hA [1, 2, 3, 4, 5, 6, 7, 8, 9, 10, 11, 12, 13, 14, 15, 16] rfl
  refine vx_calli (vy_runV (As := As) (rest := rest) CF hM ⟨prY_blind, va_recv hKc hPc (ci := 5) (q0 := 0) rfl rfl, fun U hU hW => ⟨rfl, ⟨by rw [hU], by rw [hU]; exact hPc, va_K.moved hW.alike hKc, hDc.weaken (fun _ _ _ _ => trivial), XX.use hC hZ hS hF hU hW⟩, CY.warm hW hY⟩⟩ l1 l2 l3 l4 l5 hd hR rfl hls h0 (lv_room hst) hdg hcap) hS (fun q _ h => hF q h) hF (fun q _ h => hF q h) (fun E ce q9 u t H1 locs1 ht1 hvm hp1 hB hz hk hS1 hce hcv hcl1 => ?_) (fun r u t H1 locs1 ht1 hvm hp1 hB hz hk hS1 => ?_)
  · obtain ⟨hpx, hP1, hK1, hD1⟩ := hB
    rw [ht1] at hP1
    obtain ⟨hP2, hD2⟩ := va_join (wr := [(ho, .inl (cL, 1, .inr (.inl f)))]) (w1 := wY cI cZ hy hp h ht hq n1 n2 u) hP hD [1, 2, 3, 4, 5, 6, 7, 8, 9, 10, 11, 12, 13, 14, 15, 16] [0] rfl rfl (by decide) (by decide) hk hF hP1 hD1
    exact kx E u ce q9 H1 locs1 hpx hP2 hD2 hS1 hce hcv hcl1
  · obtain ⟨hP1, hK1, hD1⟩ := hB
    rw [ht1] at hP1
    obtain ⟨hP2, hD2⟩ := va_join (wr := [(ho, .inl (cL, 1, .inr (.inl f)))]) (w1 := wY cI cZ hy hp h ht hq n1 n2 u) hP hD [1, 2, 3, 4, 5, 6, 7, 8, 9, 10, 11, 12, 13, 14, 15, 16] [0] rfl rfl (by decide) (by decide) hk hF hP1 hD1
    exact kk r u H1 locs1 hp1 hP2 hD2 hS1
end HLP
set_option maxRecDepth 100000 in
set_option maxHeartbeats 4000000 in
theorem m_Lw_token (l : Launch) (dC : Nat → ClassId) (dI : Nat → Nat → Nat) (cI cZ cL : ClassId) (sa rk : Nat) (sb : Nat → Nat) (ho hy hp h ht hq n1 n2 : Nat) (f : Nat → Int64) (u0 : UY) (sz : Nat) (kind : Int32) (word : Int32) (name : Int32) (line : Int32) (post : Int32 → UY → Prop) (px : String → UY → Prop) (hM : cY l y_Sy_token c_Sy_token 5 6 400 5 4006 (dC, dI) cI cZ sa rk sb hy hp h ht hq n1 n2 u0 sz [.ref hy, .int kind, .int word, .int name, .int line] post px) (hE : ∀ E u, px E u → E = IAE ∨ E = ISE) : cO l y_Lw_token c_Lw_token 7 [(0, 14, 17, 13), (0, 14, 21, 15)] 7 500 5 4006 (dC, dI) cI cZ cL sa rk sb ho hy hp h ht hq n1 n2 (f, u0) sz [.ref hy, .int kind, .int word, .int name, .int line, .ref ho] (fun r (u : UO) => (r = 0 ∧ ∃ v, post v u.2 ∧ u.1 0 = v.toInt64) ∨ (r = 1 ∧ px IAE u.2) ∨ (r = 2 ∧ px ISE u.2)) := by
  refine vx_ofWH (cc := c_Lw_token) (maxL := 7) (ret := some .int) (hh := [(0, 14, 17, 13), (0, 14, 21, 15)]) (by decide) rfl ?_
  intro p e s m args below meth c s₁ B hml hv
  obtain ⟨rfl, ⟨hsz, hP, hK, hD0, hC, hZ⟩, hY, hO⟩ := hv
  have hx := B.exec
  have hb := B.bytes
  have hr := B.returns
  have hts0 := atoms_spec (ws := wyH y_Lw_token c_Lw_token 7 (some .int) [(0, 14, 17, 13), (0, 14, 21, 15)]) B.pre
  have hts := htsL hts0
  have htab := vx_table (x := y_Lw_token) B (hts0 _ List.mem_cons_self)
  have hown : s.vm.findClass "SyntaxTreeLaw" = some m.cls := findClass_of_methodNamed B.named
  subst hsz
  have hD := hD0.self (sz := s.heap.size)
  generalize hAe : va_A (wO cI cZ cL ho hy hp h ht hq n1 n2 (f, u0)) s.heap.size = A at hD hZ ⊢
  have hA : ∀ q : Nat, s.heap.size ≤ q → A q := fun q h => by rw [← hAe]; exact Or.inr h
  have hS : va_S A s.heap s.heap [] := va_S.rf
  have hl := lv_entry ([.ref hy, .int kind, .int word, .int name, .int line, .ref ho]) (n := 7) (Nat.le_of_ble_eq_true rfl)
  rw [lg_entry_eq]
  generalize (lg_sl ([.ref hy, .int kind, .int word, .int name, .int line, .ref ho]) ++ List.replicate (7 - (lg_sl ([.ref hy, .int kind, .int word, .int name, .int line, .ref ho])).length) Slot.unset).toArray = ls at hl ⊢
  have hl : lv_has ls 7 [(0, .ref hy), (1, .int kind), (2, .int word), (3, .int name), (4, .int line), (5, .ref ho)] := hl
  refine lv_aload hx hb d_Lw_token_0 (lv_at hl 5 rfl) ?_
  refine lv_iconst (v := 0) hx hb d_Lw_token_2 (by decide) ?_
  refine lv_aload_n hx hb d_Lw_token_3 rfl (lv_at hl 0 rfl) ?_
  refine lv_iload_n hx hb d_Lw_token_4 rfl (lv_at hl 1 rfl) ?_
  refine lv_iload_n hx hb d_Lw_token_5 rfl (lv_at hl 2 rfl) ?_
  refine lv_iload_n hx hb d_Lw_token_6 rfl (lv_at hl 3 rfl) ?_
  refine lv_iload hx hb d_Lw_token_7 (lv_at hl 4 rfl) ?_
  refine ho_V (As := [.int kind, .int word, .int name, .int line]) (rest := [.int 0, .ref ho]) ⟨hx, hb, hml, hown, hts0⟩ hM hP hD hK hS hA hC hZ hY L_260 L_261 L_262 L_83 L_263 k_Sy_token ⟨Nat.le_of_ble_eq_true rfl, Nat.le_of_ble_eq_true rfl⟩ ⟨Nat.le_of_eq (Nat.zero_add _), Nat.le_of_eq (Nat.zero_add _)⟩ hl.1 (Nat.le_of_ble_eq_true rfl) d_Lw_token_9 rfl (fun E u1 ce q9 H1 locs1 hpx hP hD hS hce hcv hcl1 => ?_) (fun r u1 H1 locs1 hps hP hD hS => ?_)
  · rcases hE _ _ hpx with rfl | rfl
    · refine vx_catch (own := "SyntaxTreeLaw") (name := IAE) hown [] ⟨0, 14, 17, 13⟩ [⟨0, 14, 21, 15⟩] htab (fun z hz => by cases hz) rfl (by decide) (hts _ L_258) (va_Nw.use rfl hC.2.2.1.2.2.2) hce hcv hcl1 ?_
      refine lv_astore (lv' := [(6, .ref q9), (0, .ref hy), (1, .int kind), (2, .int word), (3, .int name), (4, .int line), (5, .ref ho)]) hx hb d_Lw_token_17 hl (by decide) rfl (fun ls hl => ?_)
      refine lv_iconst (v := 1) hx hb d_Lw_token_19 (by decide) ?_
      refine vx_ret ?_
      refine W.widen (k := 5) (n := 4006) (Nat.le_of_eq (Nat.zero_add _)) (Nat.le_of_eq (Nat.zero_add _)) ?_
      exact W.iret hx hb hr (fun t ht9 hW => ⟨⟨1, (f, u1), rfl, Or.inr (Or.inl ⟨rfl, hpx⟩), by rw [ht9]; exact hP, va_K.moved hW.alike hK, hD⟩, hS.F ht9⟩) hS.2.2 d_Lw_token_20
    · refine vx_catch (own := "SyntaxTreeLaw") (name := ISE) hown [⟨0, 14, 17, 13⟩] ⟨0, 14, 21, 15⟩ [] htab (fun z hz => by rcases List.mem_singleton.mp hz with rfl; exact Or.inr ⟨by decide, IAE, hts _ L_258, hO.1⟩) rfl (by decide) (hts _ L_259) (va_Nw.use rfl hY.2.1) hce hcv hcl1 ?_
      refine lv_astore (lv' := [(6, .ref q9), (0, .ref hy), (1, .int kind), (2, .int word), (3, .int name), (4, .int line), (5, .ref ho)]) hx hb d_Lw_token_21 hl (by decide) rfl (fun ls hl => ?_)
      refine lv_iconst (v := 2) hx hb d_Lw_token_23 (by decide) ?_
      refine vx_ret ?_
      refine W.widen (k := 5) (n := 4006) (Nat.le_of_eq (Nat.zero_add _)) (Nat.le_of_eq (Nat.zero_add _)) ?_
      exact W.iret hx hb hr (fun t ht9 hW => ⟨⟨2, (f, u1), rfl, Or.inr (Or.inr ⟨rfl, hpx⟩), by rw [ht9]; exact hP, va_K.moved hW.alike hK, hD⟩, hS.F ht9⟩) hS.2.2 d_Lw_token_24
  · refine lv_i2l hx hb d_Lw_token_12 rfl ?_
    refine va_last (D := (dC, dI)) hx hb hK hP hD hS 0 2 rfl rfl (vp_in_nI (n := 0) (by decide) (by decide)) d_Lw_token_13 (fun H2 locs2 hP hD hS => ?_)
    have hP : va_P (dC, dI) cls (wO cI cZ cL ho hy hp h ht hq n1 n2 (vp_updL f (0 : Int32).toNatClampNeg r.toInt64, u1)) H2 := hP
    have hD : va_D A (wO cI cZ cL ho hy hp h ht hq n1 n2 (vp_updL f (0 : Int32).toNatClampNeg r.toInt64, u1)) := hD
    refine lv_goto (tgt := 25) hx hb d_Lw_token_14 (by decide) ?_
    refine lv_iconst (v := 0) hx hb d_Lw_token_25 (by decide) ?_
    refine vx_ret ?_
    refine W.widen (k := 5) (n := 4006) (Nat.le_of_eq (Nat.zero_add _)) (Nat.le_of_eq (Nat.zero_add _)) ?_
    exact W.iret hx hb hr (fun t ht9 hW => ⟨⟨0, (vp_updL f (0 : Int32).toNatClampNeg r.toInt64, u1), rfl, Or.inl ⟨rfl, r, hps, (show vp_updL f (0 : Int32).toNatClampNeg r.toInt64 0 = r.toInt64 from if_pos (by decide))⟩, by rw [ht9]; exact hP, va_K.moved hW.alike hK, hD⟩, hS.F ht9⟩) hS.2.2 d_Lw_token_26
set_option maxRecDepth 100000 in
set_option maxHeartbeats 4000000 in
theorem m_Lw_read (l : Launch) (dC : Nat → ClassId) (dI : Nat → Nat → Nat) (cI cZ cL : ClassId) (sa rk : Nat) (sb : Nat → Nat) (ho hy hp h ht hq n1 n2 : Nat) (f : Nat → Int64) (u0 : UY) (sz : Nat) (post : Int32 → UY → Prop) (px : String → UY → Prop) (hM : cY l y_Sy_read c_Sy_read 1 2027 76200 (bC (uS u0) + 1) (bS (uS u0) + 6) (dC, dI) cI cZ sa rk sb hy hp h ht hq n1 n2 u0 sz [.ref hy] post px) (hE : ∀ E u, px E u → E = IAE) : cO l y_Lw_read c_Lw_read 3 [(0, 8, 11, 13)] 2028 76300 (bC (uS u0) + 1) (bS (uS u0) + 6) (dC, dI) cI cZ cL sa rk sb ho hy hp h ht hq n1 n2 (f, u0) sz [.ref hy, .ref ho] (fun r (u : UO) => (r = 0 ∧ ∃ v, post v u.2 ∧ u.1 0 = v.toInt64) ∨ (r = 1 ∧ px IAE u.2)) := by
  refine vx_ofWH (cc := c_Lw_read) (maxL := 3) (ret := some .int) (hh := [(0, 8, 11, 13)]) (by decide) rfl ?_
  intro p e s m args below meth c s₁ B hml hv
  obtain ⟨rfl, ⟨hsz, hP, hK, hD0, hC, hZ⟩, hY, hO⟩ := hv
  have hx := B.exec
  have hb := B.bytes
  have hr := B.returns
  have hts0 := atoms_spec (ws := wyH y_Lw_read c_Lw_read 3 (some .int) [(0, 8, 11, 13)]) B.pre
  have hts := htsL hts0
  have htab := vx_table (x := y_Lw_read) B (hts0 _ List.mem_cons_self)
  have hown : s.vm.findClass "SyntaxTreeLaw" = some m.cls := findClass_of_methodNamed B.named
  subst hsz
  have hD := hD0.self (sz := s.heap.size)
  generalize hAe : va_A (wO cI cZ cL ho hy hp h ht hq n1 n2 (f, u0)) s.heap.size = A at hD hZ ⊢
  have hA : ∀ q : Nat, s.heap.size ≤ q → A q := fun q h => by rw [← hAe]; exact Or.inr h
  have hS : va_S A s.heap s.heap [] := va_S.rf
  have hl := lv_entry ([.ref hy, .ref ho]) (n := 3) (Nat.le_of_ble_eq_true rfl)
  rw [lg_entry_eq]
  generalize (lg_sl ([.ref hy, .ref ho]) ++ List.replicate (3 - (lg_sl ([.ref hy, .ref ho])).length) Slot.unset).toArray = ls at hl ⊢
  have hl : lv_has ls 3 [(0, .ref hy), (1, .ref ho)] := hl
  refine lv_aload_n hx hb d_Lw_read_0 rfl (lv_at hl 1 rfl) ?_
  refine lv_iconst (v := 0) hx hb d_Lw_read_1 (by decide) ?_
  refine lv_aload_n hx hb d_Lw_read_2 rfl (lv_at hl 0 rfl) ?_
  refine ho_V (As := []) (rest := [.int 0, .ref ho]) ⟨hx, hb, hml, hown, hts0⟩ hM hP hD hK hS hA hC hZ hY L_393 L_394 L_395 L_83 L_396 k_Sy_read ⟨Nat.le_of_ble_eq_true rfl, Nat.le_of_ble_eq_true rfl⟩ ⟨Nat.le_of_eq (Nat.zero_add _), Nat.le_of_eq (Nat.zero_add _)⟩ hl.1 (Nat.le_of_ble_eq_true rfl) d_Lw_read_3 rfl (fun E u1 ce q9 H1 locs1 hpx hP hD hS hce hcv hcl1 => ?_) (fun r u1 H1 locs1 hps hP hD hS => ?_)
  · obtain rfl := hE _ _ hpx
    refine vx_catch (own := "SyntaxTreeLaw") (name := IAE) hown [] ⟨0, 8, 11, 13⟩ [] htab (fun z hz => by cases hz) rfl (by decide) (hts _ L_258) (va_Nw.use rfl hC.2.2.1.2.2.2) hce hcv hcl1 ?_
    refine lv_astore_n (lv' := [(2, .ref q9), (0, .ref hy), (1, .ref ho)]) hx hb d_Lw_read_11 rfl hl (by decide) rfl (fun ls hl => ?_)
    refine lv_iconst (v := 1) hx hb d_Lw_read_12 (by decide) ?_
    refine vx_ret ?_
    refine W.widen (k := (bC (uS u0) + 1)) (n := (bS (uS u0) + 6)) (Nat.le_of_eq (Nat.zero_add _)) (Nat.le_of_eq (Nat.zero_add _)) ?_
    exact W.iret hx hb hr (fun t ht9 hW => ⟨⟨1, (f, u1), rfl, Or.inr ⟨rfl, hpx⟩, by rw [ht9]; exact hP, va_K.moved hW.alike hK, hD⟩, hS.F ht9⟩) hS.2.2 d_Lw_read_13
  · refine lv_i2l hx hb d_Lw_read_6 rfl ?_
    refine va_last (D := (dC, dI)) hx hb hK hP hD hS 0 2 rfl rfl (vp_in_nI (n := 0) (by decide) (by decide)) d_Lw_read_7 (fun H2 locs2 hP hD hS => ?_)
    have hP : va_P (dC, dI) cls (wO cI cZ cL ho hy hp h ht hq n1 n2 (vp_updL f (0 : Int32).toNatClampNeg r.toInt64, u1)) H2 := hP
    have hD : va_D A (wO cI cZ cL ho hy hp h ht hq n1 n2 (vp_updL f (0 : Int32).toNatClampNeg r.toInt64, u1)) := hD
    refine lv_goto (tgt := 14) hx hb d_Lw_read_8 (by decide) ?_
    refine lv_iconst (v := 0) hx hb d_Lw_read_14 (by decide) ?_
    refine vx_ret ?_
    refine W.widen (k := (bC (uS u0) + 1)) (n := (bS (uS u0) + 6)) (Nat.le_of_eq (Nat.zero_add _)) (Nat.le_of_eq (Nat.zero_add _)) ?_
    exact W.iret hx hb hr (fun t ht9 hW => ⟨⟨0, (vp_updL f (0 : Int32).toNatClampNeg r.toInt64, u1), rfl, Or.inl ⟨rfl, r, hps, (show vp_updL f (0 : Int32).toNatClampNeg r.toInt64 0 = r.toInt64 from if_pos (by decide))⟩, by rw [ht9]; exact hP, va_K.moved hW.alike hK, hD⟩, hS.F ht9⟩) hS.2.2 d_Lw_read_15
set_option maxRecDepth 100000 in
set_option maxHeartbeats 4000000 in
theorem m_Lw_node (l : Launch) (dC : Nat → ClassId) (dI : Nat → Nat → Nat) (cI cZ cL : ClassId) (sa rk : Nat) (sb : Nat → Nat) (ho hy hp h ht hq n1 n2 : Nat) (f : Nat → Int64) (u0 : UY) (sz : Nat) (k : Int32) (i : Int32) (post : Int32 → UY → Prop) (px : String → UY → Prop) (hM : cY l y_Sy_node c_Sy_node 3 6 100 1 6 (dC, dI) cI cZ sa rk sb hy hp h ht hq n1 n2 u0 sz [.ref hy, .int k, .int i] post px) (hE : ∀ E u, px E u → E = IAE ∨ E = IOB) : cO l y_Lw_node c_Lw_node 5 [(0, 10, 13, 13), (0, 10, 17, 25)] 7 200 1 6 (dC, dI) cI cZ cL sa rk sb ho hy hp h ht hq n1 n2 (f, u0) sz [.ref hy, .int k, .int i, .ref ho] (fun r (u : UO) => (r = 0 ∧ ∃ v, post v u.2 ∧ u.1 0 = v.toInt64) ∨ (r = 1 ∧ px IAE u.2) ∨ (r = 2 ∧ px IOB u.2)) := by
  refine vx_ofWH (cc := c_Lw_node) (maxL := 5) (ret := some .int) (hh := [(0, 10, 13, 13), (0, 10, 17, 25)]) (by decide) rfl ?_
  intro p e s m args below meth c s₁ B hml hv
  obtain ⟨rfl, ⟨hsz, hP, hK, hD0, hC, hZ⟩, hY, hO⟩ := hv
  have hx := B.exec
  have hb := B.bytes
  have hr := B.returns
  have hts0 := atoms_spec (ws := wyH y_Lw_node c_Lw_node 5 (some .int) [(0, 10, 13, 13), (0, 10, 17, 25)]) B.pre
  have hts := htsL hts0
  have htab := vx_table (x := y_Lw_node) B (hts0 _ List.mem_cons_self)
  have hown : s.vm.findClass "SyntaxTreeLaw" = some m.cls := findClass_of_methodNamed B.named
  subst hsz
  have hD := hD0.self (sz := s.heap.size)
  generalize hAe : va_A (wO cI cZ cL ho hy hp h ht hq n1 n2 (f, u0)) s.heap.size = A at hD hZ ⊢
  have hA : ∀ q : Nat, s.heap.size ≤ q → A q := fun q h => by rw [← hAe]; exact Or.inr h
  have hS : va_S A s.heap s.heap [] := va_S.rf
  have hl := lv_entry ([.ref hy, .int k, .int i, .ref ho]) (n := 5) (Nat.le_of_ble_eq_true rfl)
  rw [lg_entry_eq]
  generalize (lg_sl ([.ref hy, .int k, .int i, .ref ho]) ++ List.replicate (5 - (lg_sl ([.ref hy, .int k, .int i, .ref ho])).length) Slot.unset).toArray = ls at hl ⊢
  have hl : lv_has ls 5 [(0, .ref hy), (1, .int k), (2, .int i), (3, .ref ho)] := hl
  refine lv_aload_n hx hb d_Lw_node_0 rfl (lv_at hl 3 rfl) ?_
  refine lv_iconst (v := 0) hx hb d_Lw_node_1 (by decide) ?_
  refine lv_aload_n hx hb d_Lw_node_2 rfl (lv_at hl 0 rfl) ?_
  refine lv_iload_n hx hb d_Lw_node_3 rfl (lv_at hl 1 rfl) ?_
  refine lv_iload_n hx hb d_Lw_node_4 rfl (lv_at hl 2 rfl) ?_
  refine ho_V (As := [.int k, .int i]) (rest := [.int 0, .ref ho]) ⟨hx, hb, hml, hown, hts0⟩ hM hP hD hK hS hA hC hZ hY L_877 L_878 L_879 L_83 L_880 k_Sy_node ⟨Nat.le_of_ble_eq_true rfl, Nat.le_of_ble_eq_true rfl⟩ ⟨Nat.le_of_eq (Nat.zero_add _), Nat.le_of_eq (Nat.zero_add _)⟩ hl.1 (Nat.le_of_ble_eq_true rfl) d_Lw_node_5 rfl (fun E u1 ce q9 H1 locs1 hpx hP hD hS hce hcv hcl1 => ?_) (fun r u1 H1 locs1 hps hP hD hS => ?_)
  · rcases hE _ _ hpx with rfl | rfl
    · refine vx_catch (own := "SyntaxTreeLaw") (name := IAE) hown [] ⟨0, 10, 13, 13⟩ [⟨0, 10, 17, 25⟩] htab (fun z hz => by cases hz) rfl (by decide) (hts _ L_258) (va_Nw.use rfl hC.2.2.1.2.2.2) hce hcv hcl1 ?_
      refine lv_astore (lv' := [(4, .ref q9), (0, .ref hy), (1, .int k), (2, .int i), (3, .ref ho)]) hx hb d_Lw_node_13 hl (by decide) rfl (fun ls hl => ?_)
      refine lv_iconst (v := 1) hx hb d_Lw_node_15 (by decide) ?_
      refine vx_ret ?_
      refine W.widen (k := 1) (n := 6) (Nat.le_of_eq (Nat.zero_add _)) (Nat.le_of_eq (Nat.zero_add _)) ?_
      exact W.iret hx hb hr (fun t ht9 hW => ⟨⟨1, (f, u1), rfl, Or.inr (Or.inl ⟨rfl, hpx⟩), by rw [ht9]; exact hP, va_K.moved hW.alike hK, hD⟩, hS.F ht9⟩) hS.2.2 d_Lw_node_16
    · refine vx_catch (own := "SyntaxTreeLaw") (name := IOB) hown [⟨0, 10, 13, 13⟩] ⟨0, 10, 17, 25⟩ [] htab (fun z hz => by rcases List.mem_singleton.mp hz with rfl; exact Or.inr ⟨by decide, IAE, hts _ L_258, hO.2⟩) rfl (by decide) (hts _ L_876) (va_Nw.use rfl hY.2.2) hce hcv hcl1 ?_
      refine lv_astore (lv' := [(4, .ref q9), (0, .ref hy), (1, .int k), (2, .int i), (3, .ref ho)]) hx hb d_Lw_node_17 hl (by decide) rfl (fun ls hl => ?_)
      refine lv_iconst (v := 2) hx hb d_Lw_node_19 (by decide) ?_
      refine vx_ret ?_
      refine W.widen (k := 1) (n := 6) (Nat.le_of_eq (Nat.zero_add _)) (Nat.le_of_eq (Nat.zero_add _)) ?_
      exact W.iret hx hb hr (fun t ht9 hW => ⟨⟨2, (f, u1), rfl, Or.inr (Or.inr ⟨rfl, hpx⟩), by rw [ht9]; exact hP, va_K.moved hW.alike hK, hD⟩, hS.F ht9⟩) hS.2.2 d_Lw_node_20
  · refine lv_i2l hx hb d_Lw_node_8 rfl ?_
    refine va_last (D := (dC, dI)) hx hb hK hP hD hS 0 2 rfl rfl (vp_in_nI (n := 0) (by decide) (by decide)) d_Lw_node_9 (fun H2 locs2 hP hD hS => ?_)
    have hP : va_P (dC, dI) cls (wO cI cZ cL ho hy hp h ht hq n1 n2 (vp_updL f (0 : Int32).toNatClampNeg r.toInt64, u1)) H2 := hP
    have hD : va_D A (wO cI cZ cL ho hy hp h ht hq n1 n2 (vp_updL f (0 : Int32).toNatClampNeg r.toInt64, u1)) := hD
    refine lv_goto (tgt := 21) hx hb d_Lw_node_10 (by decide) ?_
    refine lv_iconst (v := 0) hx hb d_Lw_node_21 (by decide) ?_
    refine vx_ret ?_
    refine W.widen (k := 1) (n := 6) (Nat.le_of_eq (Nat.zero_add _)) (Nat.le_of_eq (Nat.zero_add _)) ?_
    exact W.iret hx hb hr (fun t ht9 hW => ⟨⟨0, (vp_updL f (0 : Int32).toNatClampNeg r.toInt64, u1), rfl, Or.inl ⟨rfl, r, hps, (show vp_updL f (0 : Int32).toNatClampNeg r.toInt64 0 = r.toInt64 from if_pos (by decide))⟩, by rw [ht9]; exact hP, va_K.moved hW.alike hK, hD⟩, hS.F ht9⟩) hS.2.2 d_Lw_node_22
set_option maxRecDepth 100000 in
set_option maxHeartbeats 4000000 in
theorem m_Lw_child (l : Launch) (dC : Nat → ClassId) (dI : Nat → Nat → Nat) (cI cZ cL : ClassId) (sa rk : Nat) (sb : Nat → Nat) (ho hy hp h ht hq n1 n2 : Nat) (f : Nat → Int64) (u0 : UY) (sz : Nat) (k : Int32) (i : Int32) (post : Int32 → UY → Prop) (px : String → UY → Prop) (hM : cY l y_Sy_child c_Sy_child 4 6 100 1 6 (dC, dI) cI cZ sa rk sb hy hp h ht hq n1 n2 u0 sz [.ref hy, .int k, .int i] post px) (hE : ∀ E u, px E u → E = IOB) : cO l y_Lw_child c_Lw_child 5 [(0, 10, 13, 25)] 7 200 1 6 (dC, dI) cI cZ cL sa rk sb ho hy hp h ht hq n1 n2 (f, u0) sz [.ref hy, .int k, .int i, .ref ho] (fun r (u : UO) => (r = 0 ∧ ∃ v, post v u.2 ∧ u.1 0 = v.toInt64) ∨ (r = 1 ∧ px IOB u.2)) := by
  refine vx_ofWH (cc := c_Lw_child) (maxL := 5) (ret := some .int) (hh := [(0, 10, 13, 25)]) (by decide) rfl ?_
  intro p e s m args below meth c s₁ B hml hv
  obtain ⟨rfl, ⟨hsz, hP, hK, hD0, hC, hZ⟩, hY, hO⟩ := hv
  have hx := B.exec
  have hb := B.bytes
  have hr := B.returns
  have hts0 := atoms_spec (ws := wyH y_Lw_child c_Lw_child 5 (some .int) [(0, 10, 13, 25)]) B.pre
  have hts := htsL hts0
  have htab := vx_table (x := y_Lw_child) B (hts0 _ List.mem_cons_self)
  have hown : s.vm.findClass "SyntaxTreeLaw" = some m.cls := findClass_of_methodNamed B.named
  subst hsz
  have hD := hD0.self (sz := s.heap.size)
  generalize hAe : va_A (wO cI cZ cL ho hy hp h ht hq n1 n2 (f, u0)) s.heap.size = A at hD hZ ⊢
  have hA : ∀ q : Nat, s.heap.size ≤ q → A q := fun q h => by rw [← hAe]; exact Or.inr h
  have hS : va_S A s.heap s.heap [] := va_S.rf
  have hl := lv_entry ([.ref hy, .int k, .int i, .ref ho]) (n := 5) (Nat.le_of_ble_eq_true rfl)
  rw [lg_entry_eq]
  generalize (lg_sl ([.ref hy, .int k, .int i, .ref ho]) ++ List.replicate (5 - (lg_sl ([.ref hy, .int k, .int i, .ref ho])).length) Slot.unset).toArray = ls at hl ⊢
  have hl : lv_has ls 5 [(0, .ref hy), (1, .int k), (2, .int i), (3, .ref ho)] := hl
  refine lv_aload_n hx hb d_Lw_child_0 rfl (lv_at hl 3 rfl) ?_
  refine lv_iconst (v := 0) hx hb d_Lw_child_1 (by decide) ?_
  refine lv_aload_n hx hb d_Lw_child_2 rfl (lv_at hl 0 rfl) ?_
  refine lv_iload_n hx hb d_Lw_child_3 rfl (lv_at hl 1 rfl) ?_
  refine lv_iload_n hx hb d_Lw_child_4 rfl (lv_at hl 2 rfl) ?_
  refine ho_V (As := [.int k, .int i]) (rest := [.int 0, .ref ho]) ⟨hx, hb, hml, hown, hts0⟩ hM hP hD hK hS hA hC hZ hY L_906 L_907 L_908 L_83 L_909 k_Sy_child ⟨Nat.le_of_ble_eq_true rfl, Nat.le_of_ble_eq_true rfl⟩ ⟨Nat.le_of_eq (Nat.zero_add _), Nat.le_of_eq (Nat.zero_add _)⟩ hl.1 (Nat.le_of_ble_eq_true rfl) d_Lw_child_5 rfl (fun E u1 ce q9 H1 locs1 hpx hP hD hS hce hcv hcl1 => ?_) (fun r u1 H1 locs1 hps hP hD hS => ?_)
  · obtain rfl := hE _ _ hpx
    refine vx_catch (own := "SyntaxTreeLaw") (name := IOB) hown [] ⟨0, 10, 13, 25⟩ [] htab (fun z hz => by cases hz) rfl (by decide) (hts _ L_876) (va_Nw.use rfl hY.2.2) hce hcv hcl1 ?_
    refine lv_astore (lv' := [(4, .ref q9), (0, .ref hy), (1, .int k), (2, .int i), (3, .ref ho)]) hx hb d_Lw_child_13 hl (by decide) rfl (fun ls hl => ?_)
    refine lv_iconst (v := 1) hx hb d_Lw_child_15 (by decide) ?_
    refine vx_ret ?_
    refine W.widen (k := 1) (n := 6) (Nat.le_of_eq (Nat.zero_add _)) (Nat.le_of_eq (Nat.zero_add _)) ?_
    exact W.iret hx hb hr (fun t ht9 hW => ⟨⟨1, (f, u1), rfl, Or.inr ⟨rfl, hpx⟩, by rw [ht9]; exact hP, va_K.moved hW.alike hK, hD⟩, hS.F ht9⟩) hS.2.2 d_Lw_child_16
  · refine lv_i2l hx hb d_Lw_child_8 rfl ?_
    refine va_last (D := (dC, dI)) hx hb hK hP hD hS 0 2 rfl rfl (vp_in_nI (n := 0) (by decide) (by decide)) d_Lw_child_9 (fun H2 locs2 hP hD hS => ?_)
    have hP : va_P (dC, dI) cls (wO cI cZ cL ho hy hp h ht hq n1 n2 (vp_updL f (0 : Int32).toNatClampNeg r.toInt64, u1)) H2 := hP
    have hD : va_D A (wO cI cZ cL ho hy hp h ht hq n1 n2 (vp_updL f (0 : Int32).toNatClampNeg r.toInt64, u1)) := hD
    refine lv_goto (tgt := 17) hx hb d_Lw_child_10 (by decide) ?_
    refine lv_iconst (v := 0) hx hb d_Lw_child_17 (by decide) ?_
    refine vx_ret ?_
    refine W.widen (k := 1) (n := 6) (Nat.le_of_eq (Nat.zero_add _)) (Nat.le_of_eq (Nat.zero_add _)) ?_
    exact W.iret hx hb hr (fun t ht9 hW => ⟨⟨0, (vp_updL f (0 : Int32).toNatClampNeg r.toInt64, u1), rfl, Or.inl ⟨rfl, r, hps, (show vp_updL f (0 : Int32).toNatClampNeg r.toInt64 0 = r.toInt64 from if_pos (by decide))⟩, by rw [ht9]; exact hP, va_K.moved hW.alike hK, hD⟩, hS.F ht9⟩) hS.2.2 d_Lw_child_18
