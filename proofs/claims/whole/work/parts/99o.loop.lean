/-! the law's loop, case by case -/
/-- a script's int as a boolean -/
def ln (x : Int32) : Int32 := if x = 0 then 0 else 1
theorem ln_b (x : Int32) : ln x = 0 ∨ ln x = 1 := by
  unfold ln
  split
  · exact Or.inl rfl
  · exact Or.inr rfl
section LWL
variable {p : Program} {l : Launch} {e : Env} {s : State} {m : MethodId} {below : List Frame} {meth : Method} {c : Code} {b L : Nat} {xs : Nat → Int32} {H : Heap} {locs : List Loc} {cells slots pc : Nat} {ls : Array Slot} {rest : List Value}
variable {dC : Nat → ClassId} {dI : Nat → Nat → Nat} {cI cZ cL : ClassId} {sa rk ho hy hp h ht hq n1 n2 hm : Nat} {sb : Nat → Nat} {ma : Nat → Nat} {mo : MO} {f : Nat → Int64} {uy : UY}
theorem lw_ld (C0 : lw_At p s m meth c b L xs) (hS : va_S (fun q : Nat => s.heap.size ≤ q) s.heap H locs) (hL : L ≤ 2560) {i j : Nat} {ji : Int} (hl0 : ls[0]? = some (.val (.ref b))) (hl4 : ls[4]? = some (.val (.int (nI i)))) (hj : Int32.ofInt ji = nI j) (hij : i + j < L)
    (d0 : decode c_Lw_law pc = .ok (.aload_n 0, 1)) (d1 : decode c_Lw_law (pc + 1) = .ok (.iload 4, 2)) (d2 : decode c_Lw_law (pc + 3) = .ok (.iconst ji, 1)) (d3 : decode c_Lw_law (pc + 4) = .ok (.iadd, 1)) (d4 : decode c_Lw_law (pc + 5) = .ok (.iaload, 1))
    (k : W p l e room_1 s m #[Value.ref b] below meth c H locs cells slots (lw_Z below #[Value.ref b] s) (F0 m (pc + 6) ls (.int (xs (i + j)) :: rest))) : W p l e room_1 s m #[Value.ref b] below meth c H locs cells slots (lw_Z below #[Value.ref b] s) (F0 m pc ls rest) := by
  obtain ⟨hx, hb, hr, hml, hown, hts, hX, hbl, hlocks, hgv⟩ := C0
  have hb : c.code = c_Lw_law := hb
  refine lv_aload_n hx hb d0 rfl hl0 ?_
  refine lv_iload hx hb d1 hl4 ?_
  refine lv_iconst (v := nI j) hx hb d2 hj ?_
  refine lv_iadd hx hb d3 ?_
  refine lv_eqi (nI_add i j) ?_
  refine va_sld hx hb hX hbl (Nat.not_le.mpr hbl) hS (vp_in_nI hij (by omega)) d4 ?_
  refine lv_eqi (y := xs (i + j)) (by rw [nI_clamp (by omega)]) ?_
  exact k
theorem lw_bool (C0 : lw_At p s m meth c b L xs) {x : Int32} (d0 : decode c_Lw_law pc = .ok (.ifCond .eq 7, 3)) (d1 : decode c_Lw_law (pc + 3) = .ok (.iconst 1, 1)) (d2 : decode c_Lw_law (pc + 4) = .ok (.goto 4, 3)) (d3 : decode c_Lw_law (pc + 7) = .ok (.iconst 0, 1))
    (k : W p l e room_1 s m #[Value.ref b] below meth c H locs cells slots (lw_Z below #[Value.ref b] s) (F0 m (pc + 8) ls (.int (ln x) :: rest))) : W p l e room_1 s m #[Value.ref b] below meth c H locs cells slots (lw_Z below #[Value.ref b] s) (F0 m pc ls (.int x :: rest)) := by
  obtain ⟨hx, hb, hr, hml, hown, hts, hX, hbl, hlocks, hgv⟩ := C0
  have hb : c.code = c_Lw_law := hb
  refine lv_if_eq (tgt := pc + 7) hx hb d0 (by omega) (fun c1 => ?_) (fun c1 => ?_)
  · refine lv_iconst (v := 0) hx hb d3 (by decide) ?_
    exact lv_eqi (show (0 : Int32) = ln x by unfold ln; rw [if_pos c1]) k
  · refine lv_iconst (v := 1) hx hb d1 (by decide) ?_
    refine lv_goto (tgt := pc + 8) hx hb d2 (by omega) ?_
    exact lv_eqi (show (1 : Int32) = ln x by unfold ln; rw [if_neg c1]) k
set_option maxRecDepth 100000 in
set_option maxHeartbeats 4000000 in
theorem law_c0 (hlt : l.stackTraces = false) (hL : L ≤ 2560) (C0 : lw_At p s m meth c b L xs) (hK : va_K (dC, dI) cls (ty3 cI cZ cL) s) (hC : CX cI sa s) (hZ : ZX rk (fun q : Nat => s.heap.size ≤ q) s s.heap) (hY : CY sb s) (hO : CKO s) {n : Nat} (hn : 5 * n + 5 ≤ L) (hLI : LI uy mo) (hc : cells + 3 * tkn (sTk (uS uy)) ≤ 60 + 16 * n) (hs : slots + 37 * tkn (sTk (uS uy)) ≤ 40000 + 4100 * n)
    (hP : va_P (dC, dI) cls (wW cI cZ cL ho hy hp h ht hq n1 n2 (f, uy) hm ma mo) H) (hD : va_D (fun q : Nat => s.heap.size ≤ q) (wW cI cZ cL ho hy hp h ht hq n1 n2 (f, uy) hm ma mo)) (hS : va_S (fun q : Nat => s.heap.size ≤ q) s.heap H locs) (hl : lv_has ls 7 [(0, .ref b), (1, .ref hy), (2, .ref hm), (3, .ref ho), (4, .int (nI (5 * n)))])
    (kk : ∀ (u1 : UO) (mo1 : MO) (H : Heap) (locs : List Loc) (cells slots : Nat) (ls : Array Slot), LI u1.2 mo1 → cells + 3 * tkn (sTk (uS u1.2)) ≤ 60 + 16 * (n + 1) → slots + 37 * tkn (sTk (uS u1.2)) ≤ 40000 + 4100 * (n + 1) → va_P (dC, dI) cls (wW cI cZ cL ho hy hp h ht hq n1 n2 u1 hm ma mo1) H → va_D (fun q : Nat => s.heap.size ≤ q) (wW cI cZ cL ho hy hp h ht hq n1 n2 u1 hm ma mo1) → va_S (fun q : Nat => s.heap.size ≤ q) s.heap H locs → lv_has ls 7 [(0, .ref b), (1, .ref hy), (2, .ref hm), (3, .ref ho), (4, .int (nI (5 * n)))] → W p l e room_1 s m #[Value.ref b] below meth c H locs cells slots (lw_Z below #[Value.ref b] s) (F0 m 373 ls [])) :
    W p l e room_1 s m #[Value.ref b] below meth c H locs cells slots (lw_Z below #[Value.ref b] s) (F0 m 72 ls []) := by
  have CF := lw_CF C0
  have C1 := C0
  obtain ⟨hx, hb, hr, hml, hown, hts, hX, hbl, hlocks, hgv⟩ := C0
  have hn5 : n ≤ 512 := by omega
  have hA : ∀ q : Nat, s.heap.size ≤ q → (fun q : Nat => s.heap.size ≤ q) q := fun _ h => h
  refine lv_aload_n hx hb d_Lw_law_72 rfl (lv_at hl 1 rfl) ?_
  refine lw_ld C1 hS hL (j := 1) (lv_at hl 0 rfl) (lv_at hl 4 rfl) (by decide) (by omega) d_Lw_law_73 d_Lw_law_74 d_Lw_law_76 d_Lw_law_77 d_Lw_law_78 ?_
  refine lw_ld C1 hS hL (j := 2) (lv_at hl 0 rfl) (lv_at hl 4 rfl) (by decide) (by omega) d_Lw_law_79 d_Lw_law_80 d_Lw_law_82 d_Lw_law_83 d_Lw_law_84 ?_
  refine lw_ld C1 hS hL (j := 3) (lv_at hl 0 rfl) (lv_at hl 4 rfl) (by decide) (by omega) d_Lw_law_85 d_Lw_law_86 d_Lw_law_88 d_Lw_law_89 d_Lw_law_90 ?_
  refine lw_ld C1 hS hL (j := 4) (lv_at hl 0 rfl) (lv_at hl 4 rfl) (by decide) (by omega) d_Lw_law_91 d_Lw_law_92 d_Lw_law_94 d_Lw_law_95 d_Lw_law_96 ?_
  refine lw_bool C1 d_Lw_law_97 d_Lw_law_100 d_Lw_law_101 d_Lw_law_104 ?_
  refine lv_aload_n hx hb d_Lw_law_105 rfl (lv_at hl 3 rfl) ?_
  refine lw_O (u0 := (f, uy)) (As := [.ref hy, .int (xs (5 * n + 1)), .int (xs (5 * n + 2)), .int (xs (5 * n + 3)), .int (ln (xs (5 * n + 4))), .ref ho]) (rest := []) CF (m_Lw_token l dC dI cI cZ cL sa rk sb ho hy hp h ht hq n1 n2 f uy _ (xs (5 * n + 1)) (xs (5 * n + 2)) (xs (5 * n + 3)) (ln (xs (5 * n + 4))) (poT uy (xs (5 * n + 1)) (xs (5 * n + 2)) (xs (5 * n + 3)) (ln (xs (5 * n + 4)))) (pxT uy (xs (5 * n + 1)) (xs (5 * n + 2)) (xs (5 * n + 3))) (m_Sy_token l hlt dC dI cI cZ sa rk sb hy hp h ht hq n1 n2 uy hLI.1 _ _ _ _ _) (fun E u z => by rcases z.1 with z | z; exact Or.inl z.1; exact Or.inr z.1)) hP hD hK hS hA hC hZ hY hO L_255 L_256 L_82 L_257 k_Lw_token ⟨Nat.le_of_ble_eq_true rfl, Nat.le_of_ble_eq_true rfl⟩ ⟨show cells + 5 ≤ 601024 from by omega, show slots + 4006 ≤ 7293034 from by omega⟩ hl.1 (Nat.le_of_ble_eq_true rfl) d_Lw_law_106 rfl (fun r u1 H locs hp1 hP hD hS => ?_)
  obtain ⟨vM, moM, e1, e2, e3, e4, e5⟩ := tok_fin hLI _ _ _ _ (ln_b _) hp1
  refine lv_istore (lv' := [(5, .int r), (0, .ref b), (1, .ref hy), (2, .ref hm), (3, .ref ho), (4, .int (nI (5 * n)))]) hx hb d_Lw_law_109 hl (by decide) rfl (fun ls hl => ?_)
  refine lv_aload_n hx hb d_Lw_law_111 rfl (lv_at hl 3 rfl) ?_
  refine lw_ld C1 hS hL (j := 1) (lv_at hl 1 rfl) (lv_at hl 5 rfl) (by decide) (by omega) d_Lw_law_112 d_Lw_law_113 d_Lw_law_115 d_Lw_law_116 d_Lw_law_117 ?_
  refine lw_ld C1 hS hL (j := 2) (lv_at hl 1 rfl) (lv_at hl 5 rfl) (by decide) (by omega) d_Lw_law_118 d_Lw_law_119 d_Lw_law_121 d_Lw_law_122 d_Lw_law_123 ?_
  refine lw_ld C1 hS hL (j := 3) (lv_at hl 1 rfl) (lv_at hl 5 rfl) (by decide) (by omega) d_Lw_law_124 d_Lw_law_125 d_Lw_law_127 d_Lw_law_128 d_Lw_law_129 ?_
  refine lw_ld C1 hS hL (j := 4) (lv_at hl 1 rfl) (lv_at hl 5 rfl) (by decide) (by omega) d_Lw_law_130 d_Lw_law_131 d_Lw_law_133 d_Lw_law_134 d_Lw_law_135 ?_
  refine lw_bool C1 d_Lw_law_136 d_Lw_law_139 d_Lw_law_140 d_Lw_law_143 ?_
  refine lw_M (g := f_Mo_token mo (xs (5 * n + 1)) (xs (5 * n + 2)) (xs (5 * n + 3)) (ln (xs (5 * n + 4)))) (r0 := vM) (mo1 := moM) (As := [.int (xs (5 * n + 1)), .int (xs (5 * n + 2)), .int (xs (5 * n + 3)), .int (ln (xs (5 * n + 4)))]) (rest := []) CF (m_Mo_token l hlt dC dI cI cZ sa rk hm ma mo _ _ _ _ _ (by rw [e1]; exact Option.some_ne_none _)) e1 hP hD hK hS hA hC hZ L_1019 L_1020 L_1021 L_90 L_1022 k_Mo_token ⟨Nat.le_of_ble_eq_true rfl, Nat.le_of_ble_eq_true rfl⟩ ⟨show cells + 5 + 1 ≤ 601024 from by omega, show slots + 4006 + 6 ≤ 7293034 from by omega⟩ hl.1 (Nat.le_of_ble_eq_true rfl) d_Lw_law_144 rfl (fun H locs hP hD hS => ?_)
  refine lv_istore (lv' := [(6, .int vM), (5, .int r), (0, .ref b), (1, .ref hy), (2, .ref hm), (3, .ref ho), (4, .int (nI (5 * n)))]) hx hb d_Lw_law_147 hl (by decide) rfl (fun ls hl => ?_)
  exact lw_tail_147 hlt C1 hK hC hZ e2 e3 ⟨show cells + 5 + 1 ≤ 601024 from by omega, show slots + 4006 + 6 ≤ 7293034 from by omega⟩ hP hD hS hl (fun H locs hP hD hS => kk u1 moM H locs _ _ ls e4 (show cells + 5 + 3 * tkn (sTk (uS u1.2)) ≤ _ from by omega) (show slots + 4006 + 37 * tkn (sTk (uS u1.2)) ≤ _ from by omega) hP hD hS (lv_sub hl [2, 3, 4, 5, 6] rfl))
set_option maxRecDepth 100000 in
set_option maxHeartbeats 4000000 in
theorem law_c1 (hlt : l.stackTraces = false) (hL : L ≤ 2560) (C0 : lw_At p s m meth c b L xs) (hK : va_K (dC, dI) cls (ty3 cI cZ cL) s) (hC : CX cI sa s) (hZ : ZX rk (fun q : Nat => s.heap.size ≤ q) s s.heap) (hY : CY sb s) (hO : CKO s) {n : Nat} (hn : 5 * n + 5 ≤ L) (hLI : LI uy mo) (hc : cells + 3 * tkn (sTk (uS uy)) ≤ 60 + 16 * n) (hs : slots + 37 * tkn (sTk (uS uy)) ≤ 40000 + 4100 * n)
    (hP : va_P (dC, dI) cls (wW cI cZ cL ho hy hp h ht hq n1 n2 (f, uy) hm ma mo) H) (hD : va_D (fun q : Nat => s.heap.size ≤ q) (wW cI cZ cL ho hy hp h ht hq n1 n2 (f, uy) hm ma mo)) (hS : va_S (fun q : Nat => s.heap.size ≤ q) s.heap H locs) (hl : lv_has ls 7 [(0, .ref b), (1, .ref hy), (2, .ref hm), (3, .ref ho), (4, .int (nI (5 * n)))])
    (kk : ∀ (u1 : UO) (mo1 : MO) (H : Heap) (locs : List Loc) (cells slots : Nat) (ls : Array Slot), LI u1.2 mo1 → cells + 3 * tkn (sTk (uS u1.2)) ≤ 60 + 16 * (n + 1) → slots + 37 * tkn (sTk (uS u1.2)) ≤ 40000 + 4100 * (n + 1) → va_P (dC, dI) cls (wW cI cZ cL ho hy hp h ht hq n1 n2 u1 hm ma mo1) H → va_D (fun q : Nat => s.heap.size ≤ q) (wW cI cZ cL ho hy hp h ht hq n1 n2 u1 hm ma mo1) → va_S (fun q : Nat => s.heap.size ≤ q) s.heap H locs → lv_has ls 7 [(0, .ref b), (1, .ref hy), (2, .ref hm), (3, .ref ho), (4, .int (nI (5 * n)))] → W p l e room_1 s m #[Value.ref b] below meth c H locs cells slots (lw_Z below #[Value.ref b] s) (F0 m 373 ls [])) :
    W p l e room_1 s m #[Value.ref b] below meth c H locs cells slots (lw_Z below #[Value.ref b] s) (F0 m 180 ls []) := by
  have CF := lw_CF C0
  have C1 := C0
  obtain ⟨hx, hb, hr, hml, hown, hts, hX, hbl, hlocks, hgv⟩ := C0
  have hn5 : n ≤ 512 := by omega
  have hA : ∀ q : Nat, s.heap.size ≤ q → (fun q : Nat => s.heap.size ≤ q) q := fun _ h => h
  obtain ⟨g1, g2, g3, g4⟩ := read_pre hLI (3 * tkn (sTk (uS uy)) + 10) (37 * tkn (sTk (uS uy)) + 139) (Nat.le_refl _) (Nat.le_refl _)
  refine lv_aload_n hx hb d_Lw_law_180 rfl (lv_at hl 1 rfl) ?_
  refine lv_aload_n hx hb d_Lw_law_181 rfl (lv_at hl 3 rfl) ?_
  have hP : va_P (dC, dI) cls (wW cI cZ cL ho hy hp h ht hq n1 n2 (f, (bud uy (3 * tkn (sTk (uS uy)) + 10) (37 * tkn (sTk (uS uy)) + 139))) hm ma mo) H := hP
  have hD : va_D (fun q : Nat => s.heap.size ≤ q) (wW cI cZ cL ho hy hp h ht hq n1 n2 (f, (bud uy (3 * tkn (sTk (uS uy)) + 10) (37 * tkn (sTk (uS uy)) + 139))) hm ma mo) := hD
  refine lw_O (u0 := (f, (bud uy (3 * tkn (sTk (uS uy)) + 10) (37 * tkn (sTk (uS uy)) + 139)))) (As := [.ref hy, .ref ho]) (rest := []) CF (m_Lw_read l dC dI cI cZ cL sa rk sb ho hy hp h ht hq n1 n2 f (bud uy (3 * tkn (sTk (uS uy)) + 10) (37 * tkn (sTk (uS uy)) + 139)) _ (poR (bud uy (3 * tkn (sTk (uS uy)) + 10) (37 * tkn (sTk (uS uy)) + 139))) (pxR (bud uy (3 * tkn (sTk (uS uy)) + 10) (37 * tkn (sTk (uS uy)) + 139))) (m_Sy_read l hlt dC dI cI cZ sa rk sb hy hp h ht hq n1 n2 (bud uy (3 * tkn (sTk (uS uy)) + 10) (37 * tkn (sTk (uS uy)) + 139)) hLI.1 _ g1 g2 g3) (fun E u z => z.1)) hP hD hK hS hA hC hZ hY hO L_390 L_391 L_82 L_392 k_Lw_read ⟨Nat.le_of_ble_eq_true rfl, Nat.le_of_ble_eq_true rfl⟩ ⟨show cells + (3 * tkn (sTk (uS uy)) + 10 + 1) ≤ 601024 from by omega, show slots + (37 * tkn (sTk (uS uy)) + 139 + 6) ≤ 7293034 from by omega⟩ hl.1 (Nat.le_of_ble_eq_true rfl) d_Lw_law_182 rfl (fun r u1 H locs hp1 hP hD hS => ?_)
  obtain ⟨vM, moM, e1, e2, e3, e4, e5⟩ := read_fin hLI (3 * tkn (sTk (uS uy)) + 10) (37 * tkn (sTk (uS uy)) + 139) (Nat.le_refl _) (Nat.le_refl _) hp1
  refine lv_istore (lv' := [(5, .int r), (0, .ref b), (1, .ref hy), (2, .ref hm), (3, .ref ho), (4, .int (nI (5 * n)))]) hx hb d_Lw_law_185 hl (by decide) rfl (fun ls hl => ?_)
  refine lv_aload_n hx hb d_Lw_law_187 rfl (lv_at hl 3 rfl) ?_
  refine lw_R (As := []) (rest := []) CF (m_Mo_read l hlt dC dI cI cZ sa rk hm ma mo _ g4 (begin_ok mo) throwing_ok numberAll_ok) hP hD hK hS hA hC hZ L_1033 L_1034 L_1035 L_90 L_1036 ⟨rfl, k_Mo_read⟩ ⟨Nat.le_of_ble_eq_true rfl, Nat.le_of_ble_eq_true rfl⟩ ⟨show cells + (3 * tkn (sTk (uS uy)) + 10 + 1) + 2 ≤ 601024 from by omega, show slots + (37 * tkn (sTk (uS uy)) + 139 + 6) + 12 ≤ 7293034 from by omega⟩ hl.1 (Nat.le_of_ble_eq_true rfl) d_Lw_law_188 rfl (fun r1 mo1 H locs hp2 hP hD hS => ?_)
  rw [e1] at hp2
  cases hp2
  refine lv_istore (lv' := [(6, .int vM), (5, .int r), (0, .ref b), (1, .ref hy), (2, .ref hm), (3, .ref ho), (4, .int (nI (5 * n)))]) hx hb d_Lw_law_191 hl (by decide) rfl (fun ls hl => ?_)
  exact lw_tail_191 hlt C1 hK hC hZ e2 e3 ⟨show cells + (3 * tkn (sTk (uS uy)) + 10 + 1) + 2 + 1 ≤ 601024 from by omega, show slots + (37 * tkn (sTk (uS uy)) + 139 + 6) + 12 + 6 ≤ 7293034 from by omega⟩ hP hD hS hl (fun H locs hP hD hS => kk u1 moM H locs _ _ ls e4 (show cells + (3 * tkn (sTk (uS uy)) + 10 + 1) + 2 + 3 * tkn (sTk (uS u1.2)) ≤ _ from by rw [e5]; omega) (show slots + (37 * tkn (sTk (uS uy)) + 139 + 6) + 12 + 37 * tkn (sTk (uS u1.2)) ≤ _ from by rw [e5]; omega) hP hD hS (lv_sub hl [2, 3, 4, 5, 6] rfl))
set_option maxRecDepth 100000 in
set_option maxHeartbeats 4000000 in
theorem law_c2 (hlt : l.stackTraces = false) (hL : L ≤ 2560) (C0 : lw_At p s m meth c b L xs) (hK : va_K (dC, dI) cls (ty3 cI cZ cL) s) (hC : CX cI sa s) (hZ : ZX rk (fun q : Nat => s.heap.size ≤ q) s s.heap) (hY : CY sb s) (hO : CKO s) {n : Nat} (hn : 5 * n + 5 ≤ L) (hLI : LI uy mo) (hc : cells + 3 * tkn (sTk (uS uy)) ≤ 60 + 16 * n) (hs : slots + 37 * tkn (sTk (uS uy)) ≤ 40000 + 4100 * n)
    (hP : va_P (dC, dI) cls (wW cI cZ cL ho hy hp h ht hq n1 n2 (f, uy) hm ma mo) H) (hD : va_D (fun q : Nat => s.heap.size ≤ q) (wW cI cZ cL ho hy hp h ht hq n1 n2 (f, uy) hm ma mo)) (hS : va_S (fun q : Nat => s.heap.size ≤ q) s.heap H locs) (hl : lv_has ls 7 [(0, .ref b), (1, .ref hy), (2, .ref hm), (3, .ref ho), (4, .int (nI (5 * n)))])
    (kk : ∀ (u1 : UO) (mo1 : MO) (H : Heap) (locs : List Loc) (cells slots : Nat) (ls : Array Slot), LI u1.2 mo1 → cells + 3 * tkn (sTk (uS u1.2)) ≤ 60 + 16 * (n + 1) → slots + 37 * tkn (sTk (uS u1.2)) ≤ 40000 + 4100 * (n + 1) → va_P (dC, dI) cls (wW cI cZ cL ho hy hp h ht hq n1 n2 u1 hm ma mo1) H → va_D (fun q : Nat => s.heap.size ≤ q) (wW cI cZ cL ho hy hp h ht hq n1 n2 u1 hm ma mo1) → va_S (fun q : Nat => s.heap.size ≤ q) s.heap H locs → lv_has ls 7 [(0, .ref b), (1, .ref hy), (2, .ref hm), (3, .ref ho), (4, .int (nI (5 * n)))] → W p l e room_1 s m #[Value.ref b] below meth c H locs cells slots (lw_Z below #[Value.ref b] s) (F0 m 373 ls [])) :
    W p l e room_1 s m #[Value.ref b] below meth c H locs cells slots (lw_Z below #[Value.ref b] s) (F0 m 224 ls []) := by
  have CF := lw_CF C0
  have C1 := C0
  obtain ⟨hx, hb, hr, hml, hown, hts, hX, hbl, hlocks, hgv⟩ := C0
  have hn5 : n ≤ 512 := by omega
  have hA : ∀ q : Nat, s.heap.size ≤ q → (fun q : Nat => s.heap.size ≤ q) q := fun _ h => h
  obtain ⟨e1, e4⟩ := place_fin hLI
  refine lv_aload_n hx hb d_Lw_law_224 rfl (lv_at hl 1 rfl) ?_
  refine lw_Y (u0 := (f, uy)) (As := []) (rest := []) CF (m_Sy_place l hlt dC dI cI cZ sa rk sb hy hp h ht hq n1 n2 uy hLI.1 _) hP hD hK hS hA hC hZ hY L_251 L_252 L_253 L_83 L_254 k_Sy_place ⟨Nat.le_of_ble_eq_true rfl, Nat.le_of_ble_eq_true rfl⟩ ⟨show cells + 0 ≤ 601024 from by omega, show slots + 0 ≤ 7293034 from by omega⟩ hl.1 (Nat.le_of_ble_eq_true rfl) d_Lw_law_225 rfl (fun H locs hP hD hS => ?_)
  refine lv_aload_n hx hb d_Lw_law_228 rfl (lv_at hl 2 rfl) ?_
  refine lw_M (g := f_Mo_place mo) (r0 := uR uy) (mo1 := s_thrown mo 0) (As := []) (rest := [.int (uR uy)]) CF (m_Mo_place l hlt dC dI cI cZ sa rk hm ma mo _ (by rw [e1]; exact Option.some_ne_none _)) e1 hP hD hK hS hA hC hZ L_1265 L_1266 L_1267 L_90 L_1268 k_Mo_place ⟨Nat.le_of_ble_eq_true rfl, Nat.le_of_ble_eq_true rfl⟩ ⟨show cells + 0 + 1 ≤ 601024 from by omega, show slots + 0 + 6 ≤ 7293034 from by omega⟩ hl.1 (Nat.le_of_ble_eq_true rfl) d_Lw_law_229 rfl (fun H locs hP hD hS => ?_)
  refine lv_icmp_eq (tgt := 373) hx hb d_Lw_law_232 (by decide) (fun _ => ?_) (fun c1 => absurd rfl c1)
  exact kk (f, uy) (s_thrown mo 0) H locs _ _ ls e4 (show cells + 0 + 3 * tkn (sTk (uS uy)) ≤ _ from by omega) (show slots + 0 + 37 * tkn (sTk (uS uy)) ≤ _ from by omega) hP hD hS hl
set_option maxRecDepth 100000 in
set_option maxHeartbeats 4000000 in
theorem law_c3 (hlt : l.stackTraces = false) (hL : L ≤ 2560) (C0 : lw_At p s m meth c b L xs) (hK : va_K (dC, dI) cls (ty3 cI cZ cL) s) (hC : CX cI sa s) (hZ : ZX rk (fun q : Nat => s.heap.size ≤ q) s s.heap) (hY : CY sb s) (hO : CKO s) {n : Nat} (hn : 5 * n + 5 ≤ L) (hLI : LI uy mo) (hc : cells + 3 * tkn (sTk (uS uy)) ≤ 60 + 16 * n) (hs : slots + 37 * tkn (sTk (uS uy)) ≤ 40000 + 4100 * n)
    (hP : va_P (dC, dI) cls (wW cI cZ cL ho hy hp h ht hq n1 n2 (f, uy) hm ma mo) H) (hD : va_D (fun q : Nat => s.heap.size ≤ q) (wW cI cZ cL ho hy hp h ht hq n1 n2 (f, uy) hm ma mo)) (hS : va_S (fun q : Nat => s.heap.size ≤ q) s.heap H locs) (hl : lv_has ls 7 [(0, .ref b), (1, .ref hy), (2, .ref hm), (3, .ref ho), (4, .int (nI (5 * n)))])
    (kk : ∀ (u1 : UO) (mo1 : MO) (H : Heap) (locs : List Loc) (cells slots : Nat) (ls : Array Slot), LI u1.2 mo1 → cells + 3 * tkn (sTk (uS u1.2)) ≤ 60 + 16 * (n + 1) → slots + 37 * tkn (sTk (uS u1.2)) ≤ 40000 + 4100 * (n + 1) → va_P (dC, dI) cls (wW cI cZ cL ho hy hp h ht hq n1 n2 u1 hm ma mo1) H → va_D (fun q : Nat => s.heap.size ≤ q) (wW cI cZ cL ho hy hp h ht hq n1 n2 u1 hm ma mo1) → va_S (fun q : Nat => s.heap.size ≤ q) s.heap H locs → lv_has ls 7 [(0, .ref b), (1, .ref hy), (2, .ref hm), (3, .ref ho), (4, .int (nI (5 * n)))] → W p l e room_1 s m #[Value.ref b] below meth c H locs cells slots (lw_Z below #[Value.ref b] s) (F0 m 373 ls [])) :
    W p l e room_1 s m #[Value.ref b] below meth c H locs cells slots (lw_Z below #[Value.ref b] s) (F0 m 237 ls []) := by
  have CF := lw_CF C0
  have C1 := C0
  obtain ⟨hx, hb, hr, hml, hown, hts, hX, hbl, hlocks, hgv⟩ := C0
  have hn5 : n ≤ 512 := by omega
  have hA : ∀ q : Nat, s.heap.size ≤ q → (fun q : Nat => s.heap.size ≤ q) q := fun _ h => h
  obtain ⟨v, hv⟩ := TrR_ch hLI.2.2.1 (xs (5 * n + 1))
  refine lv_aload_n hx hb d_Lw_law_237 rfl (lv_at hl 1 rfl) ?_
  refine lw_ld C1 hS hL (j := 1) (lv_at hl 0 rfl) (lv_at hl 4 rfl) (by decide) (by omega) d_Lw_law_238 d_Lw_law_239 d_Lw_law_241 d_Lw_law_242 d_Lw_law_243 ?_
  refine lw_ld C1 hS hL (j := 2) (lv_at hl 0 rfl) (lv_at hl 4 rfl) (by decide) (by omega) d_Lw_law_244 d_Lw_law_245 d_Lw_law_247 d_Lw_law_248 d_Lw_law_249 ?_
  refine lv_aload_n hx hb d_Lw_law_250 rfl (lv_at hl 3 rfl) ?_
  refine lw_O (u0 := (f, uy)) (As := [.ref hy, .int (xs (5 * n + 1)), .int (xs (5 * n + 2)), .ref ho]) (rest := []) CF (m_Lw_node l dC dI cI cZ cL sa rk sb ho hy hp h ht hq n1 n2 f uy _ (xs (5 * n + 1)) (xs (5 * n + 2)) (poNd uy (xs (5 * n + 1)) (xs (5 * n + 2)) v) (pxNd uy (xs (5 * n + 1)) (xs (5 * n + 2))) (m_Sy_node l hlt dC dI cI cZ sa rk sb hy hp h ht hq n1 n2 uy hLI.1 _ _ _ v hv) (fun E u z => by rcases z.1 with z | z; exact Or.inl z.1; exact Or.inr z.1)) hP hD hK hS hA hC hZ hY hO L_873 L_874 L_82 L_875 k_Lw_node ⟨Nat.le_of_ble_eq_true rfl, Nat.le_of_ble_eq_true rfl⟩ ⟨show cells + 1 ≤ 601024 from by omega, show slots + 6 ≤ 7293034 from by omega⟩ hl.1 (Nat.le_of_ble_eq_true rfl) d_Lw_law_251 rfl (fun r u1 H locs hp1 hP hD hS => ?_)
  obtain ⟨vM, moM, e1, e2, e3, e4, e5⟩ := node_fin hLI _ _ v hv hp1
  refine lv_istore (lv' := [(5, .int r), (0, .ref b), (1, .ref hy), (2, .ref hm), (3, .ref ho), (4, .int (nI (5 * n)))]) hx hb d_Lw_law_254 hl (by decide) rfl (fun ls hl => ?_)
  refine lv_aload_n hx hb d_Lw_law_256 rfl (lv_at hl 3 rfl) ?_
  refine lw_ld C1 hS hL (j := 1) (lv_at hl 1 rfl) (lv_at hl 5 rfl) (by decide) (by omega) d_Lw_law_257 d_Lw_law_258 d_Lw_law_260 d_Lw_law_261 d_Lw_law_262 ?_
  refine lw_ld C1 hS hL (j := 2) (lv_at hl 1 rfl) (lv_at hl 5 rfl) (by decide) (by omega) d_Lw_law_263 d_Lw_law_264 d_Lw_law_266 d_Lw_law_267 d_Lw_law_268 ?_
  refine lw_M (g := f_Mo_node mo (xs (5 * n + 1)) (xs (5 * n + 2))) (r0 := vM) (mo1 := moM) (As := [.int (xs (5 * n + 1)), .int (xs (5 * n + 2))]) (rest := []) CF (m_Mo_node l hlt dC dI cI cZ sa rk hm ma mo _ _ _ (by rw [e1]; exact Option.some_ne_none _)) e1 hP hD hK hS hA hC hZ L_1269 L_1270 L_1271 L_90 L_1272 k_Mo_node ⟨Nat.le_of_ble_eq_true rfl, Nat.le_of_ble_eq_true rfl⟩ ⟨show cells + 1 + 1 ≤ 601024 from by omega, show slots + 6 + 6 ≤ 7293034 from by omega⟩ hl.1 (Nat.le_of_ble_eq_true rfl) d_Lw_law_269 rfl (fun H locs hP hD hS => ?_)
  refine lv_istore (lv' := [(6, .int vM), (5, .int r), (0, .ref b), (1, .ref hy), (2, .ref hm), (3, .ref ho), (4, .int (nI (5 * n)))]) hx hb d_Lw_law_272 hl (by decide) rfl (fun ls hl => ?_)
  exact lw_tail_272 hlt C1 hK hC hZ e2 e3 ⟨show cells + 1 + 1 ≤ 601024 from by omega, show slots + 6 + 6 ≤ 7293034 from by omega⟩ hP hD hS hl (fun H locs hP hD hS => kk u1 moM H locs _ _ ls e4 (show cells + 1 + 3 * tkn (sTk (uS u1.2)) ≤ _ from by rw [e5]; omega) (show slots + 6 + 37 * tkn (sTk (uS u1.2)) ≤ _ from by rw [e5]; omega) hP hD hS (lv_sub hl [2, 3, 4, 5, 6] rfl))
set_option maxRecDepth 100000 in
set_option maxHeartbeats 4000000 in
theorem law_c4 (hlt : l.stackTraces = false) (hL : L ≤ 2560) (C0 : lw_At p s m meth c b L xs) (hK : va_K (dC, dI) cls (ty3 cI cZ cL) s) (hC : CX cI sa s) (hZ : ZX rk (fun q : Nat => s.heap.size ≤ q) s s.heap) (hY : CY sb s) (hO : CKO s) {n : Nat} (hn : 5 * n + 5 ≤ L) (hLI : LI uy mo) (hc : cells + 3 * tkn (sTk (uS uy)) ≤ 60 + 16 * n) (hs : slots + 37 * tkn (sTk (uS uy)) ≤ 40000 + 4100 * n)
    (hP : va_P (dC, dI) cls (wW cI cZ cL ho hy hp h ht hq n1 n2 (f, uy) hm ma mo) H) (hD : va_D (fun q : Nat => s.heap.size ≤ q) (wW cI cZ cL ho hy hp h ht hq n1 n2 (f, uy) hm ma mo)) (hS : va_S (fun q : Nat => s.heap.size ≤ q) s.heap H locs) (hl : lv_has ls 7 [(0, .ref b), (1, .ref hy), (2, .ref hm), (3, .ref ho), (4, .int (nI (5 * n)))])
    (kk : ∀ (u1 : UO) (mo1 : MO) (H : Heap) (locs : List Loc) (cells slots : Nat) (ls : Array Slot), LI u1.2 mo1 → cells + 3 * tkn (sTk (uS u1.2)) ≤ 60 + 16 * (n + 1) → slots + 37 * tkn (sTk (uS u1.2)) ≤ 40000 + 4100 * (n + 1) → va_P (dC, dI) cls (wW cI cZ cL ho hy hp h ht hq n1 n2 u1 hm ma mo1) H → va_D (fun q : Nat => s.heap.size ≤ q) (wW cI cZ cL ho hy hp h ht hq n1 n2 u1 hm ma mo1) → va_S (fun q : Nat => s.heap.size ≤ q) s.heap H locs → lv_has ls 7 [(0, .ref b), (1, .ref hy), (2, .ref hm), (3, .ref ho), (4, .int (nI (5 * n)))] → W p l e room_1 s m #[Value.ref b] below meth c H locs cells slots (lw_Z below #[Value.ref b] s) (F0 m 373 ls [])) :
    W p l e room_1 s m #[Value.ref b] below meth c H locs cells slots (lw_Z below #[Value.ref b] s) (F0 m 305 ls []) := by
  have CF := lw_CF C0
  have C1 := C0
  obtain ⟨hx, hb, hr, hml, hown, hts, hX, hbl, hlocks, hgv⟩ := C0
  have hn5 : n ≤ 512 := by omega
  have hA : ∀ q : Nat, s.heap.size ≤ q → (fun q : Nat => s.heap.size ≤ q) q := fun _ h => h
  obtain ⟨v, hv⟩ := part_some hLI (xs (5 * n + 1)) (xs (5 * n + 2))
  refine lv_aload_n hx hb d_Lw_law_305 rfl (lv_at hl 1 rfl) ?_
  refine lw_ld C1 hS hL (j := 1) (lv_at hl 0 rfl) (lv_at hl 4 rfl) (by decide) (by omega) d_Lw_law_306 d_Lw_law_307 d_Lw_law_309 d_Lw_law_310 d_Lw_law_311 ?_
  refine lw_ld C1 hS hL (j := 2) (lv_at hl 0 rfl) (lv_at hl 4 rfl) (by decide) (by omega) d_Lw_law_312 d_Lw_law_313 d_Lw_law_315 d_Lw_law_316 d_Lw_law_317 ?_
  refine lv_aload_n hx hb d_Lw_law_318 rfl (lv_at hl 3 rfl) ?_
  refine lw_O (u0 := (f, uy)) (As := [.ref hy, .int (xs (5 * n + 1)), .int (xs (5 * n + 2)), .ref ho]) (rest := []) CF (m_Lw_child l dC dI cI cZ cL sa rk sb ho hy hp h ht hq n1 n2 f uy _ (xs (5 * n + 1)) (xs (5 * n + 2)) (poC uy v) (pxC uy v) (m_Sy_child l hlt dC dI cI cZ sa rk sb hy hp h ht hq n1 n2 uy hLI.1 _ _ _ v hv) (fun E u z => z.1)) hP hD hK hS hA hC hZ hY hO L_903 L_904 L_82 L_905 k_Lw_child ⟨Nat.le_of_ble_eq_true rfl, Nat.le_of_ble_eq_true rfl⟩ ⟨show cells + 1 ≤ 601024 from by omega, show slots + 6 ≤ 7293034 from by omega⟩ hl.1 (Nat.le_of_ble_eq_true rfl) d_Lw_law_319 rfl (fun r u1 H locs hp1 hP hD hS => ?_)
  obtain ⟨vM, moM, e1, e2, e3, e4, e5⟩ := child_fin hLI _ _ v hv hp1
  refine lv_istore (lv' := [(5, .int r), (0, .ref b), (1, .ref hy), (2, .ref hm), (3, .ref ho), (4, .int (nI (5 * n)))]) hx hb d_Lw_law_322 hl (by decide) rfl (fun ls hl => ?_)
  refine lv_aload_n hx hb d_Lw_law_324 rfl (lv_at hl 3 rfl) ?_
  refine lw_ld C1 hS hL (j := 1) (lv_at hl 1 rfl) (lv_at hl 5 rfl) (by decide) (by omega) d_Lw_law_325 d_Lw_law_326 d_Lw_law_328 d_Lw_law_329 d_Lw_law_330 ?_
  refine lw_ld C1 hS hL (j := 2) (lv_at hl 1 rfl) (lv_at hl 5 rfl) (by decide) (by omega) d_Lw_law_331 d_Lw_law_332 d_Lw_law_334 d_Lw_law_335 d_Lw_law_336 ?_
  refine lw_M (g := f_Mo_child mo (xs (5 * n + 1)) (xs (5 * n + 2))) (r0 := vM) (mo1 := moM) (As := [.int (xs (5 * n + 1)), .int (xs (5 * n + 2))]) (rest := []) CF (m_Mo_child l hlt dC dI cI cZ sa rk hm ma mo _ _ _ (by rw [e1]; exact Option.some_ne_none _)) e1 hP hD hK hS hA hC hZ L_1277 L_1278 L_1279 L_90 L_1280 k_Mo_child ⟨Nat.le_of_ble_eq_true rfl, Nat.le_of_ble_eq_true rfl⟩ ⟨show cells + 1 + 1 ≤ 601024 from by omega, show slots + 6 + 6 ≤ 7293034 from by omega⟩ hl.1 (Nat.le_of_ble_eq_true rfl) d_Lw_law_337 rfl (fun H locs hP hD hS => ?_)
  refine lv_istore (lv' := [(6, .int vM), (5, .int r), (0, .ref b), (1, .ref hy), (2, .ref hm), (3, .ref ho), (4, .int (nI (5 * n)))]) hx hb d_Lw_law_340 hl (by decide) rfl (fun ls hl => ?_)
  exact lw_tail_340 hlt C1 hK hC hZ e2 e3 ⟨show cells + 1 + 1 ≤ 601024 from by omega, show slots + 6 + 6 ≤ 7293034 from by omega⟩ hP hD hS hl (fun H locs hP hD hS => kk u1 moM H locs _ _ ls e4 (show cells + 1 + 3 * tkn (sTk (uS u1.2)) ≤ _ from by rw [e5]; omega) (show slots + 6 + 37 * tkn (sTk (uS u1.2)) ≤ _ from by rw [e5]; omega) hP hD hS (lv_sub hl [2, 3, 4, 5, 6] rfl))
set_option maxRecDepth 100000 in
set_option maxHeartbeats 4000000 in
theorem law_loop (hlt : l.stackTraces = false) (hL : L ≤ 2560) (C0 : lw_At p s m meth c b L xs) (hK : va_K (dC, dI) cls (ty3 cI cZ cL) s) (hC : CX cI sa s) (hZ : ZX rk (fun q : Nat => s.heap.size ≤ q) s s.heap) (hY : CY sb s) (hO : CKO s) : ∀ (k n : Nat), 5 * n ≤ L → L + 1 ≤ 5 * n + k → ∀ (u : UO) (mo : MO) (H : Heap) (locs : List Loc) (cells slots : Nat) (ls : Array Slot), LI u.2 mo → cells + 3 * tkn (sTk (uS u.2)) ≤ 60 + 16 * n → slots + 37 * tkn (sTk (uS u.2)) ≤ 40000 + 4100 * n → va_P (dC, dI) cls (wW cI cZ cL ho hy hp h ht hq n1 n2 u hm ma mo) H → va_D (fun q : Nat => s.heap.size ≤ q) (wW cI cZ cL ho hy hp h ht hq n1 n2 u hm ma mo) → va_S (fun q : Nat => s.heap.size ≤ q) s.heap H locs → lv_has ls 7 [(0, .ref b), (1, .ref hy), (2, .ref hm), (3, .ref ho), (4, .int (nI (5 * n)))] →
    W p l e room_1 s m #[Value.ref b] below meth c H locs cells slots (lw_Z below #[Value.ref b] s) (F0 m 23 ls []) := by
  intro k
  induction k with
  | zero => intro n q1 q2; omega
  | succ k ih =>
    intro n q1 q2 u mo H locs cells slots ls hLI hc hs hP hD hS hl
    have C1 := C0
    obtain ⟨hx, hb, hr, hml, hown, hts, hX, hbl, hlocks, hgv⟩ := C0
    have hbA : ¬ s.heap.size ≤ b := Nat.not_le.mpr hbl
    have next : 5 * n + 5 ≤ L → ∀ (u1 : UO) (mo1 : MO) (H : Heap) (locs : List Loc) (cells slots : Nat) (ls : Array Slot), LI u1.2 mo1 → cells + 3 * tkn (sTk (uS u1.2)) ≤ 60 + 16 * (n + 1) → slots + 37 * tkn (sTk (uS u1.2)) ≤ 40000 + 4100 * (n + 1) → va_P (dC, dI) cls (wW cI cZ cL ho hy hp h ht hq n1 n2 u1 hm ma mo1) H → va_D (fun q : Nat => s.heap.size ≤ q) (wW cI cZ cL ho hy hp h ht hq n1 n2 u1 hm ma mo1) → va_S (fun q : Nat => s.heap.size ≤ q) s.heap H locs → lv_has ls 7 [(0, .ref b), (1, .ref hy), (2, .ref hm), (3, .ref ho), (4, .int (nI (5 * n)))] → W p l e room_1 s m #[Value.ref b] below meth c H locs cells slots (lw_Z below #[Value.ref b] s) (F0 m 373 ls []) := by
      intro hn u1 mo1 H locs cells slots ls hLI hc hs hP hD hS hl
      refine lv_iinc (v := nI (5 * (n + 1))) (lv' := [(4, .int (nI (5 * (n + 1)))), (0, .ref b), (1, .ref hy), (2, .ref hm), (3, .ref ho)]) hx hb d_Lw_law_373 hl (k := 4) rfl (nI_add (5 * n) 5) (by decide) rfl (fun ls hl => ?_)
      refine lv_goto (tgt := 23) hx hb d_Lw_law_376 (by decide) ?_
      exact ih (n + 1) (by omega) (by omega) u1 mo1 H locs cells slots ls hLI hc hs hP hD hS (lv_sub hl [1, 2, 3, 4, 0] rfl)
    refine lv_iload hx hb d_Lw_law_23 (lv_at hl 4 rfl) ?_
    refine lv_aload_n hx hb d_Lw_law_25 rfl (lv_at hl 0 rfl) ?_
    refine va_slen hx hb hX hbl hbA hS d_Lw_law_26 ?_
    refine lv_iconst (v := nI 5) hx hb d_Lw_law_27 (by decide) ?_
    refine lv_isub hx hb d_Lw_law_28 ?_
    have e5 : (nI L - nI 5).toInt = (L : Int) - 5 := pk_sub_toInt (by omega) (by omega)
    have en : (nI (5 * n)).toInt = ((5 * n : Nat) : Int) := nI_toInt (by omega)
    refine lv_icmp_gt (tgt := 379) hx hb d_Lw_law_29 (by decide) (fun _ => ?_) (fun c1 => ?_)
    · refine lv_iconst (v := 1) hx hb d_Lw_law_379 (by decide) ?_
      refine va_forget (fun q hq => hS.2.2 q hq) ?_
      refine W.widen (k := 601024) (n := 7293034) (by omega) (by omega) ?_
      exact lw_ret hx hb hr hlocks d_Lw_law_380
    · have hn : 5 * n + 5 ≤ L := by
        have c2 : ¬ (nI L - nI 5) < nI (5 * n) := c1
        rw [Int32.lt_iff_toInt_lt, e5, en] at c2
        omega
      have nx := next hn
      refine lv_aload_n hx hb d_Lw_law_32 rfl (lv_at hl 0 rfl) ?_
      refine lv_iload hx hb d_Lw_law_33 (lv_at hl 4 rfl) ?_
      refine va_sld hx hb hX hbl hbA hS (vp_in_nI (show 5 * n < L by omega) (by omega)) d_Lw_law_35 ?_
      refine lv_bipush (v := 7) hx hb d_Lw_law_36 (by decide) ?_
      refine lv_iand hx hb d_Lw_law_38 ?_
      obtain ⟨j, hj, ej⟩ := pk_andE (xs (nI (5 * n)).toNatClampNeg) (m := 7) 3 (by decide)
      refine lv_eqi ej ?_
      have tj : (nI j).toInt = (j : Int) := nI_toInt (by omega)
      by_cases hj5 : 4 < j
      · refine lv_tableOut (tgt := 373) hx hb d_Lw_law_39 (Or.inr (by rw [tj]; omega)) (by decide) ?_
        exact nx u mo H locs cells slots ls hLI (by omega) (by omega) hP hD hS hl
      · have hj4 : j = 0 ∨ j = 1 ∨ j = 2 ∨ j = 3 ∨ j = 4 := by omega
        rcases hj4 with rfl | rfl | rfl | rfl | rfl
        · refine lv_tableIn (tgt := 72) (off := 33) hx hb d_Lw_law_39 (by decide) (by decide) (by decide) (by decide) ?_
          exact law_c0 (f := u.1) (uy := u.2) hlt hL C1 hK hC hZ hY hO hn hLI hc hs hP hD hS hl nx
        · refine lv_tableIn (tgt := 180) (off := 141) hx hb d_Lw_law_39 (by decide) (by decide) (by decide) (by decide) ?_
          exact law_c1 (f := u.1) (uy := u.2) hlt hL C1 hK hC hZ hY hO hn hLI hc hs hP hD hS hl nx
        · refine lv_tableIn (tgt := 224) (off := 185) hx hb d_Lw_law_39 (by decide) (by decide) (by decide) (by decide) ?_
          exact law_c2 (f := u.1) (uy := u.2) hlt hL C1 hK hC hZ hY hO hn hLI hc hs hP hD hS hl nx
        · refine lv_tableIn (tgt := 237) (off := 198) hx hb d_Lw_law_39 (by decide) (by decide) (by decide) (by decide) ?_
          exact law_c3 (f := u.1) (uy := u.2) hlt hL C1 hK hC hZ hY hO hn hLI hc hs hP hD hS hl nx
        · refine lv_tableIn (tgt := 305) (off := 266) hx hb d_Lw_law_39 (by decide) (by decide) (by decide) (by decide) ?_
          exact law_c4 (f := u.1) (uy := u.2) hlt hL C1 hK hC hZ hY hO hn hLI hc hs hP hD hS hl nx
end LWL
