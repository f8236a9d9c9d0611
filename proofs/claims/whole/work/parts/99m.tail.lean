/-! behind the two calls: the same number thrown, the same answer -/
section LWT
variable {p : Program} {l : Launch} {e : Env} {s : State} {m : MethodId} {below : List Frame} {meth : Method} {c : Code} {b L : Nat} {xs : Nat → Int32} {H : Heap} {locs : List Loc} {cells slots : Nat} {ls : Array Slot}
variable {dC : Nat → ClassId} {dI : Nat → Nat → Nat} {cI cZ cL : ClassId} {sa rk ho hy hp h ht hq n1 n2 hm : Nat} {ma : Nat → Nat} {mo : MO} {u : UO}
theorem lw_CF (C0 : lw_At p s m meth c b L xs) : CallFix p m c c_Lw_law 7 s #[Value.ref b] (Cond.initialized "SyntaxTreeLaw" :: LL) "SyntaxTreeLaw" := by
  obtain ⟨hx, hb, hr, hml, hown, hts, hX, hbl, hlocks, hgv⟩ := C0
  refine ⟨hx, hb, hml, hown, fun w hw => ?_⟩
  rcases List.mem_cons.mp hw with rfl | hw
  · exact hts _ (List.mem_filter.mp L_82).1
  · exact hts w (List.mem_filter.mp hw).1
set_option maxRecDepth 100000 in
set_option maxHeartbeats 4000000 in
theorem lw_tail_147 (hlt : l.stackTraces = false) (C0 : lw_At p s m meth c b L xs) (hK : va_K (dC, dI) cls (ty3 cI cZ cL) s) (hC : CX cI sa s) (hZ : ZX rk (fun q : Nat => s.heap.size ≤ q) s s.heap) {r v i : Int32} (hthr : q_thrown mo = r) (hval : r = 0 → u.1 0 = v.toInt64) (hcap : cells + 1 ≤ 601024 ∧ slots + 6 ≤ 7293034)
    (hP : va_P (dC, dI) cls (wW cI cZ cL ho hy hp h ht hq n1 n2 u hm ma mo) H) (hD : va_D (fun q : Nat => s.heap.size ≤ q) (wW cI cZ cL ho hy hp h ht hq n1 n2 u hm ma mo)) (hS : va_S (fun q : Nat => s.heap.size ≤ q) s.heap H locs) (hl : lv_has ls 7 [(6, .int v), (5, .int r), (0, .ref b), (1, .ref hy), (2, .ref hm), (3, .ref ho), (4, .int i)])
    (kk : ∀ (H : Heap) (locs : List Loc), va_P (dC, dI) cls (wW cI cZ cL ho hy hp h ht hq n1 n2 u hm ma mo) H → va_D (fun q : Nat => s.heap.size ≤ q) (wW cI cZ cL ho hy hp h ht hq n1 n2 u hm ma mo) → va_S (fun q : Nat => s.heap.size ≤ q) s.heap H locs → W p l e room_1 s m #[Value.ref b] below meth c H locs cells slots (lw_Z below #[Value.ref b] s) (F0 m 373 ls [])) :
    W p l e room_1 s m #[Value.ref b] below meth c H locs cells slots (lw_Z below #[Value.ref b] s) (F0 m 149 ls []) := by
  have CF := lw_CF C0
  obtain ⟨hx, hb, hr, hml, hown, hts, hX, hbl, hlocks, hgv⟩ := C0
  have hA : ∀ q : Nat, s.heap.size ≤ q → (fun q : Nat => s.heap.size ≤ q) q := fun _ h => h
  refine lv_aload_n hx hb d_Lw_law_149 rfl (lv_at hl 4 rfl) ?_
  refine lw_M (g := f_Mo_thrown mo) (r0 := r) (mo1 := mo) (As := []) (rest := []) CF (m_Mo_thrown l hlt dC dI cI cZ sa rk hm ma mo _ (fun z => by cases z)) (by unfold f_Mo_thrown; rw [hthr]) hP hD hK hS hA hC hZ L_1015 L_1016 L_1017 L_90 L_1018 k_Mo_thrown ⟨Nat.le_of_ble_eq_true rfl, Nat.le_of_ble_eq_true rfl⟩ hcap hl.1 (Nat.le_of_ble_eq_true rfl) d_Lw_law_150 rfl (fun H locs hP hD hS => ?_)
  refine lv_iload hx hb d_Lw_law_153 (lv_at hl 1 rfl) ?_
  refine lv_icmp_eq (tgt := 160) hx hb d_Lw_law_155 (by decide) (fun _ => ?_) (fun c1 => absurd rfl c1)
  refine lv_iload hx hb d_Lw_law_160 (lv_at hl 1 rfl) ?_
  refine lv_if_ne (tgt := 177) hx hb d_Lw_law_162 (by decide) (fun c1 => ?_) (fun c1 => ?_)
  · refine lv_goto (tgt := 373) hx hb d_Lw_law_177 (by decide) ?_
    exact kk H locs hP hD hS
  · refine lv_aload_n hx hb d_Lw_law_165 rfl (lv_at hl 5 rfl) ?_
    refine lv_iconst (v := 0) hx hb d_Lw_law_166 (by decide) ?_
    refine va_lald (D := (dC, dI)) hx hb hK hP 0 2 rfl rfl (vp_in_nI (n := 0) (by decide) (by decide)) d_Lw_law_167 ?_
    refine lv_iload hx hb d_Lw_law_168 (lv_at hl 0 rfl) ?_
    refine lv_i2l hx hb d_Lw_law_170 rfl ?_
    refine W.lcmp hx hb d_Lw_law_171 ?_
    refine lv_if_eq (tgt := 177) hx hb d_Lw_law_172 (by decide) (fun _ => ?_) (fun c2 => ?_)
    · refine lv_goto (tgt := 373) hx hb d_Lw_law_177 (by decide) ?_
      exact kk H locs hP hD hS
    · have r0 : r = 0 := by first | exact c1 | exact Decidable.not_not.mp c1
      refine absurd ?_ c2
      have e1 : u.1 (0 : Int32).toNatClampNeg = v.toInt64 := hval r0
      rw [e1]
      simp [lg_cmp]
set_option maxRecDepth 100000 in
set_option maxHeartbeats 4000000 in
theorem lw_tail_191 (hlt : l.stackTraces = false) (C0 : lw_At p s m meth c b L xs) (hK : va_K (dC, dI) cls (ty3 cI cZ cL) s) (hC : CX cI sa s) (hZ : ZX rk (fun q : Nat => s.heap.size ≤ q) s s.heap) {r v i : Int32} (hthr : q_thrown mo = r) (hval : r = 0 → u.1 0 = v.toInt64) (hcap : cells + 1 ≤ 601024 ∧ slots + 6 ≤ 7293034)
    (hP : va_P (dC, dI) cls (wW cI cZ cL ho hy hp h ht hq n1 n2 u hm ma mo) H) (hD : va_D (fun q : Nat => s.heap.size ≤ q) (wW cI cZ cL ho hy hp h ht hq n1 n2 u hm ma mo)) (hS : va_S (fun q : Nat => s.heap.size ≤ q) s.heap H locs) (hl : lv_has ls 7 [(6, .int v), (5, .int r), (0, .ref b), (1, .ref hy), (2, .ref hm), (3, .ref ho), (4, .int i)])
    (kk : ∀ (H : Heap) (locs : List Loc), va_P (dC, dI) cls (wW cI cZ cL ho hy hp h ht hq n1 n2 u hm ma mo) H → va_D (fun q : Nat => s.heap.size ≤ q) (wW cI cZ cL ho hy hp h ht hq n1 n2 u hm ma mo) → va_S (fun q : Nat => s.heap.size ≤ q) s.heap H locs → W p l e room_1 s m #[Value.ref b] below meth c H locs cells slots (lw_Z below #[Value.ref b] s) (F0 m 373 ls [])) :
    W p l e room_1 s m #[Value.ref b] below meth c H locs cells slots (lw_Z below #[Value.ref b] s) (F0 m 193 ls []) := by
  have CF := lw_CF C0
  obtain ⟨hx, hb, hr, hml, hown, hts, hX, hbl, hlocks, hgv⟩ := C0
  have hA : ∀ q : Nat, s.heap.size ≤ q → (fun q : Nat => s.heap.size ≤ q) q := fun _ h => h
  refine lv_aload_n hx hb d_Lw_law_193 rfl (lv_at hl 4 rfl) ?_
  refine lw_M (g := f_Mo_thrown mo) (r0 := r) (mo1 := mo) (As := []) (rest := []) CF (m_Mo_thrown l hlt dC dI cI cZ sa rk hm ma mo _ (fun z => by cases z)) (by unfold f_Mo_thrown; rw [hthr]) hP hD hK hS hA hC hZ L_1015 L_1016 L_1017 L_90 L_1018 k_Mo_thrown ⟨Nat.le_of_ble_eq_true rfl, Nat.le_of_ble_eq_true rfl⟩ hcap hl.1 (Nat.le_of_ble_eq_true rfl) d_Lw_law_194 rfl (fun H locs hP hD hS => ?_)
  refine lv_iload hx hb d_Lw_law_197 (lv_at hl 1 rfl) ?_
  refine lv_icmp_eq (tgt := 204) hx hb d_Lw_law_199 (by decide) (fun _ => ?_) (fun c1 => absurd rfl c1)
  refine lv_iload hx hb d_Lw_law_204 (lv_at hl 1 rfl) ?_
  refine lv_if_ne (tgt := 221) hx hb d_Lw_law_206 (by decide) (fun c1 => ?_) (fun c1 => ?_)
  · refine lv_goto (tgt := 373) hx hb d_Lw_law_221 (by decide) ?_
    exact kk H locs hP hD hS
  · refine lv_aload_n hx hb d_Lw_law_209 rfl (lv_at hl 5 rfl) ?_
    refine lv_iconst (v := 0) hx hb d_Lw_law_210 (by decide) ?_
    refine va_lald (D := (dC, dI)) hx hb hK hP 0 2 rfl rfl (vp_in_nI (n := 0) (by decide) (by decide)) d_Lw_law_211 ?_
    refine lv_iload hx hb d_Lw_law_212 (lv_at hl 0 rfl) ?_
    refine lv_i2l hx hb d_Lw_law_214 rfl ?_
    refine W.lcmp hx hb d_Lw_law_215 ?_
    refine lv_if_eq (tgt := 221) hx hb d_Lw_law_216 (by decide) (fun _ => ?_) (fun c2 => ?_)
    · refine lv_goto (tgt := 373) hx hb d_Lw_law_221 (by decide) ?_
      exact kk H locs hP hD hS
    · have r0 : r = 0 := by first | exact c1 | exact Decidable.not_not.mp c1
      refine absurd ?_ c2
      have e1 : u.1 (0 : Int32).toNatClampNeg = v.toInt64 := hval r0
      rw [e1]
      simp [lg_cmp]
set_option maxRecDepth 100000 in
set_option maxHeartbeats 4000000 in
theorem lw_tail_272 (hlt : l.stackTraces = false) (C0 : lw_At p s m meth c b L xs) (hK : va_K (dC, dI) cls (ty3 cI cZ cL) s) (hC : CX cI sa s) (hZ : ZX rk (fun q : Nat => s.heap.size ≤ q) s s.heap) {r v i : Int32} (hthr : q_thrown mo = r) (hval : r = 0 → u.1 0 = v.toInt64) (hcap : cells + 1 ≤ 601024 ∧ slots + 6 ≤ 7293034)
    (hP : va_P (dC, dI) cls (wW cI cZ cL ho hy hp h ht hq n1 n2 u hm ma mo) H) (hD : va_D (fun q : Nat => s.heap.size ≤ q) (wW cI cZ cL ho hy hp h ht hq n1 n2 u hm ma mo)) (hS : va_S (fun q : Nat => s.heap.size ≤ q) s.heap H locs) (hl : lv_has ls 7 [(6, .int v), (5, .int r), (0, .ref b), (1, .ref hy), (2, .ref hm), (3, .ref ho), (4, .int i)])
    (kk : ∀ (H : Heap) (locs : List Loc), va_P (dC, dI) cls (wW cI cZ cL ho hy hp h ht hq n1 n2 u hm ma mo) H → va_D (fun q : Nat => s.heap.size ≤ q) (wW cI cZ cL ho hy hp h ht hq n1 n2 u hm ma mo) → va_S (fun q : Nat => s.heap.size ≤ q) s.heap H locs → W p l e room_1 s m #[Value.ref b] below meth c H locs cells slots (lw_Z below #[Value.ref b] s) (F0 m 373 ls [])) :
    W p l e room_1 s m #[Value.ref b] below meth c H locs cells slots (lw_Z below #[Value.ref b] s) (F0 m 274 ls []) := by
  have CF := lw_CF C0
  obtain ⟨hx, hb, hr, hml, hown, hts, hX, hbl, hlocks, hgv⟩ := C0
  have hA : ∀ q : Nat, s.heap.size ≤ q → (fun q : Nat => s.heap.size ≤ q) q := fun _ h => h
  refine lv_aload_n hx hb d_Lw_law_274 rfl (lv_at hl 4 rfl) ?_
  refine lw_M (g := f_Mo_thrown mo) (r0 := r) (mo1 := mo) (As := []) (rest := []) CF (m_Mo_thrown l hlt dC dI cI cZ sa rk hm ma mo _ (fun z => by cases z)) (by unfold f_Mo_thrown; rw [hthr]) hP hD hK hS hA hC hZ L_1015 L_1016 L_1017 L_90 L_1018 k_Mo_thrown ⟨Nat.le_of_ble_eq_true rfl, Nat.le_of_ble_eq_true rfl⟩ hcap hl.1 (Nat.le_of_ble_eq_true rfl) d_Lw_law_275 rfl (fun H locs hP hD hS => ?_)
  refine lv_iload hx hb d_Lw_law_278 (lv_at hl 1 rfl) ?_
  refine lv_icmp_eq (tgt := 285) hx hb d_Lw_law_280 (by decide) (fun _ => ?_) (fun c1 => absurd rfl c1)
  refine lv_iload hx hb d_Lw_law_285 (lv_at hl 1 rfl) ?_
  refine lv_if_ne (tgt := 302) hx hb d_Lw_law_287 (by decide) (fun c1 => ?_) (fun c1 => ?_)
  · refine lv_goto (tgt := 373) hx hb d_Lw_law_302 (by decide) ?_
    exact kk H locs hP hD hS
  · refine lv_aload_n hx hb d_Lw_law_290 rfl (lv_at hl 5 rfl) ?_
    refine lv_iconst (v := 0) hx hb d_Lw_law_291 (by decide) ?_
    refine va_lald (D := (dC, dI)) hx hb hK hP 0 2 rfl rfl (vp_in_nI (n := 0) (by decide) (by decide)) d_Lw_law_292 ?_
    refine lv_iload hx hb d_Lw_law_293 (lv_at hl 0 rfl) ?_
    refine lv_i2l hx hb d_Lw_law_295 rfl ?_
    refine W.lcmp hx hb d_Lw_law_296 ?_
    refine lv_if_eq (tgt := 302) hx hb d_Lw_law_297 (by decide) (fun _ => ?_) (fun c2 => ?_)
    · refine lv_goto (tgt := 373) hx hb d_Lw_law_302 (by decide) ?_
      exact kk H locs hP hD hS
    · have r0 : r = 0 := by first | exact c1 | exact Decidable.not_not.mp c1
      refine absurd ?_ c2
      have e1 : u.1 (0 : Int32).toNatClampNeg = v.toInt64 := hval r0
      rw [e1]
      simp [lg_cmp]
set_option maxRecDepth 100000 in
set_option maxHeartbeats 4000000 in
theorem lw_tail_340 (hlt : l.stackTraces = false) (C0 : lw_At p s m meth c b L xs) (hK : va_K (dC, dI) cls (ty3 cI cZ cL) s) (hC : CX cI sa s) (hZ : ZX rk (fun q : Nat => s.heap.size ≤ q) s s.heap) {r v i : Int32} (hthr : q_thrown mo = r) (hval : r = 0 → u.1 0 = v.toInt64) (hcap : cells + 1 ≤ 601024 ∧ slots + 6 ≤ 7293034)
    (hP : va_P (dC, dI) cls (wW cI cZ cL ho hy hp h ht hq n1 n2 u hm ma mo) H) (hD : va_D (fun q : Nat => s.heap.size ≤ q) (wW cI cZ cL ho hy hp h ht hq n1 n2 u hm ma mo)) (hS : va_S (fun q : Nat => s.heap.size ≤ q) s.heap H locs) (hl : lv_has ls 7 [(6, .int v), (5, .int r), (0, .ref b), (1, .ref hy), (2, .ref hm), (3, .ref ho), (4, .int i)])
    (kk : ∀ (H : Heap) (locs : List Loc), va_P (dC, dI) cls (wW cI cZ cL ho hy hp h ht hq n1 n2 u hm ma mo) H → va_D (fun q : Nat => s.heap.size ≤ q) (wW cI cZ cL ho hy hp h ht hq n1 n2 u hm ma mo) → va_S (fun q : Nat => s.heap.size ≤ q) s.heap H locs → W p l e room_1 s m #[Value.ref b] below meth c H locs cells slots (lw_Z below #[Value.ref b] s) (F0 m 373 ls [])) :
    W p l e room_1 s m #[Value.ref b] below meth c H locs cells slots (lw_Z below #[Value.ref b] s) (F0 m 342 ls []) := by
  have CF := lw_CF C0
  obtain ⟨hx, hb, hr, hml, hown, hts, hX, hbl, hlocks, hgv⟩ := C0
  have hA : ∀ q : Nat, s.heap.size ≤ q → (fun q : Nat => s.heap.size ≤ q) q := fun _ h => h
  refine lv_aload_n hx hb d_Lw_law_342 rfl (lv_at hl 4 rfl) ?_
  refine lw_M (g := f_Mo_thrown mo) (r0 := r) (mo1 := mo) (As := []) (rest := []) CF (m_Mo_thrown l hlt dC dI cI cZ sa rk hm ma mo _ (fun z => by cases z)) (by unfold f_Mo_thrown; rw [hthr]) hP hD hK hS hA hC hZ L_1015 L_1016 L_1017 L_90 L_1018 k_Mo_thrown ⟨Nat.le_of_ble_eq_true rfl, Nat.le_of_ble_eq_true rfl⟩ hcap hl.1 (Nat.le_of_ble_eq_true rfl) d_Lw_law_343 rfl (fun H locs hP hD hS => ?_)
  refine lv_iload hx hb d_Lw_law_346 (lv_at hl 1 rfl) ?_
  refine lv_icmp_eq (tgt := 353) hx hb d_Lw_law_348 (by decide) (fun _ => ?_) (fun c1 => absurd rfl c1)
  refine lv_iload hx hb d_Lw_law_353 (lv_at hl 1 rfl) ?_
  refine lv_if_ne (tgt := 370) hx hb d_Lw_law_355 (by decide) (fun c1 => ?_) (fun c1 => ?_)
  · refine lv_goto (tgt := 373) hx hb d_Lw_law_370 (by decide) ?_
    exact kk H locs hP hD hS
  · refine lv_aload_n hx hb d_Lw_law_358 rfl (lv_at hl 5 rfl) ?_
    refine lv_iconst (v := 0) hx hb d_Lw_law_359 (by decide) ?_
    refine va_lald (D := (dC, dI)) hx hb hK hP 0 2 rfl rfl (vp_in_nI (n := 0) (by decide) (by decide)) d_Lw_law_360 ?_
    refine lv_iload hx hb d_Lw_law_361 (lv_at hl 0 rfl) ?_
    refine lv_i2l hx hb d_Lw_law_363 rfl ?_
    refine W.lcmp hx hb d_Lw_law_364 ?_
    refine lv_if_eq (tgt := 370) hx hb d_Lw_law_365 (by decide) (fun _ => ?_) (fun c2 => ?_)
    · refine lv_goto (tgt := 373) hx hb d_Lw_law_370 (by decide) ?_
      exact kk H locs hP hD hS
    · have r0 : r = 0 := by first | exact c1 | exact Decidable.not_not.mp c1
      refine absurd ?_ c2
      have e1 : u.1 (0 : Int32).toNatClampNeg = v.toInt64 := hval r0
      rw [e1]
      simp [lg_cmp]
end LWT
