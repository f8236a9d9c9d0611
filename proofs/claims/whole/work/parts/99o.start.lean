/-! from the law's entry to its loop -/
section NWL
variable {p : Program} {l : Launch} {e : Env} {R : Room} {s : State} {m : MethodId} {args : Array Value} {below : List Frame} {meth : Method} {c : Code} {H : Heap} {locs : List Loc} {cells slots : Nat} {Q : State → Prop} {D : va_G} {cl : List vw_C} {cL : ClassId} {A : Nat → Prop} {H0 : Heap} {ws : va_W} {cc : ByteArray} {pc : Nat} {ls : Array Slot} {rest : List Value}
theorem va_newL (hexec : p.tables.exec = Jvm.exec) (hb : c.code = cc) (harr : (Cond.arrayClass (newarray.typeOf .long)).before args s = true) (hI : s.vm.findClass ("[" ++ (newarray.typeOf .long).toString) = some cL) (hP : va_P D cl ws H) (hD : va_D A ws) (hS : va_S A H0 H locs) (hA : ∀ q, H0.size ≤ q → A q)
    {n : Int32} {N' : Nat} (hn : ¬ n < 0) (hN : n.toNatClampNeg = N') (hbytes : N' * 8 ≤ 536870912) (hcells : cells + 1 ≤ R.cells) (hslots : slots + N' ≤ R.slots) (hdg : decode cc pc = .ok (.newarray .long, 2))
    (kk : ∀ (q : Nat) (H1 : Heap), va_P D cl (ws ++ [(q, .inl (cL, N', .inr (.inl (fun _ => 0))))]) H1 → va_D A (ws ++ [(q, .inl (cL, N', .inr (.inl (fun _ => 0))))]) → va_S A H0 H1 locs →
      W p l e R s m args below meth c H1 locs (cells + 1) (slots + N') Q (F0 m (pc + 2) ls (.ref q :: rest))) : W p l e R s m args below meth c H locs cells slots Q (F0 m pc ls (.int n :: rest)) := by
  refine va_newaK hexec hb harr rfl hdg rfl hn hN hbytes hcells hslots rfl fun H1 cA e1 z1 o1 hAr hNm => ?_
  have hk : ∀ (k : Nat) (x : Nat × va_E), ws[k]? = some x → H1[x.1]? = H[x.1]? := fun k x hx => o1 x.1 ((hP k x hx).lt)
  have hcA : cA = cL := Option.some.inj (hNm.symm.trans hI)
  subst hcA
  refine kk H.size H1 ((hP.kept hk).app (fun k x hx => ?_)) (hD.push hP rfl (hA _ hS.1)) ⟨Nat.le_trans hS.1 (by omega), fun x h1 h2 => (o1 x (Nat.lt_of_lt_of_le h1 hS.1)).trans (hS.2.1 x h1 h2), hS.2.2⟩
  have hz : k < 1 := (List.getElem?_eq_some_iff.mp hx).1
  rw [show k = 0 by omega] at hx
  cases hx
  exact e1
end NWL
set_option maxRecDepth 100000 in
set_option maxHeartbeats 4000000 in
theorem whole_start {p : Program} {e : Env} {s : State} {m : MethodId} {below : List Frame} {meth : Method} {c : Code} (l : Launch) (hlt : l.stackTraces = false) {b L : Nat} {xs : Nat → Int32} (hL : L ≤ 2560) (C0 : lw_At p s m meth c b L xs) : W p l e room_1 s m #[Value.ref b] below meth c s.heap [] 0 0 (lw_Z below #[Value.ref b] s) (entryFrame m ([Value.ref b] : List Value).toArray 7) := by
  have CF := lw_CF C0
  have C1 := C0
  obtain ⟨hx, hb, hr, hml, hown, hts, hX, hbl, hlocks, hgv⟩ := C0
  obtain ⟨dC, dI, cI, cZ, cL, sa, rk, sb, hK, hC, hZ, hN, hY, hO⟩ := start_ctx hts hgv
  have htl : ∀ w ∈ LL, w.before #[Value.ref b] s = true := fun w hw => hts w (List.mem_filter.mp hw).1
  have hK2 := hK.sub (tys' := ty2 cI cZ) [0, 1] rfl
  have hA : ∀ q : Nat, s.heap.size ≤ q → (fun q : Nat => s.heap.size ≤ q) q := fun _ h => h
  have hS : va_S (fun q : Nat => s.heap.size ≤ q) s.heap s.heap [] := va_S.rf
  have hP : va_P (dC, dI) cls [] s.heap := fun k q z => by simp at z
  have hD : va_D (fun q : Nat => s.heap.size ≤ q) [] := ⟨fun i j p q z => by simp at z, fun k q z => by simp at z⟩
  have hl := lv_entry ([.ref b]) (n := 7) (Nat.le_of_ble_eq_true rfl)
  rw [lg_entry_eq]
  generalize (lg_sl ([.ref b]) ++ List.replicate (7 - (lg_sl ([.ref b])).length) Slot.unset).toArray = ls at hl ⊢
  have hl : lv_has ls 7 [(0, .ref b)] := hl
  refine va_new (ci := 5) (fs := [.null, .null, .null, .int 0]) (C := R_Sy) (T := T_Sy) (N := 4) hx hb htl u_Sy ty_Sy tk_Sy hown (htl _ L_101) (htl _ L_102) (htl _ L_83) hK hP hD hS hA rfl (fun j hj => by rcases (show j = 0 ∨ j = 1 ∨ j = 2 ∨ j = 3 by omega) with rfl | rfl | rfl | rfl <;> rfl) (Nat.le_of_ble_eq_true rfl) (Nat.le_of_ble_eq_true rfl) d_Lw_law_0 (fun hy H hP hD hS => ?_)
  have hP : va_P (dC, dI) cls ([(hy, .inr (5, [.null, .null, .null, .int 0]))]) H := hP
  have hD : va_D (fun q : Nat => s.heap.size ≤ q) ([(hy, .inr (5, [.null, .null, .null, .int 0]))]) := hD
  refine lv_dup hx hb d_Lw_law_3 rfl ?_
  refine ci_I (wr := []) (As := []) (rest := [.ref hy]) CF (m_Sy_init l dC dI cI cZ sa rk hy _) hP hD hK2 hS hA hC hZ hN [0] [] rfl rfl (by decide) (by decide) (by decide) L_103 L_104 L_83 L_105 rfl k_Sy_init ⟨Nat.le_of_ble_eq_true rfl, Nat.le_of_ble_eq_true rfl⟩ hl.1 ⟨Nat.le_of_ble_eq_true rfl, Nat.le_of_ble_eq_true rfl⟩ (Nat.le_of_ble_eq_true rfl) d_Lw_law_4 rfl (fun ua H locs _ hP hD hS => ?_)
  obtain ⟨⟨hp, h, ht, hq, n1, n2⟩, ad, n9, ae⟩ := ua
  have hP : va_P (dC, dI) cls (wY cI cZ hy hp h ht hq n1 n2 (ad, n9, ae, stI 0 0, -1)) H := hP
  have hD : va_D (fun q : Nat => s.heap.size ≤ q) (wY cI cZ hy hp h ht hq n1 n2 (ad, n9, ae, stI 0 0, -1)) := hD
  refine lv_astore_n (lv' := [(1, .ref hy), (0, .ref b)]) hx hb d_Lw_law_7 rfl hl (by decide) rfl (fun ls hl => ?_)
  refine va_new (ci := 6) (fs := [.int 0, .null, .null, .null, .null, .int 0, .int 0, .int 0, .int 0, .null, .null, .null, .null, .null, .null, .int 0, .null, .null, .int 0, .int 0, .int 0, .int 0, .int 0, .int 0, .null, .null, .int 0, .int 0, .int 0, .null, .null]) (C := R_Mo) (T := T_Mo) (N := 31) hx hb htl u_Mo ty_Mo tk_Mo hown (htl _ L_915) (htl _ L_916) (htl _ L_90) hK hP hD hS hA rfl (fun j hj => by rcases (show j = 0 ∨ j = 1 ∨ j = 2 ∨ j = 3 ∨ j = 4 ∨ j = 5 ∨ j = 6 ∨ j = 7 ∨ j = 8 ∨ j = 9 ∨ j = 10 ∨ j = 11 ∨ j = 12 ∨ j = 13 ∨ j = 14 ∨ j = 15 ∨ j = 16 ∨ j = 17 ∨ j = 18 ∨ j = 19 ∨ j = 20 ∨ j = 21 ∨ j = 22 ∨ j = 23 ∨ j = 24 ∨ j = 25 ∨ j = 26 ∨ j = 27 ∨ j = 28 ∨ j = 29 ∨ j = 30 by omega) with rfl | rfl | rfl | rfl | rfl | rfl | rfl | rfl | rfl | rfl | rfl | rfl | rfl | rfl | rfl | rfl | rfl | rfl | rfl | rfl | rfl | rfl | rfl | rfl | rfl | rfl | rfl | rfl | rfl | rfl | rfl <;> rfl) (Nat.le_of_ble_eq_true rfl) (Nat.le_of_ble_eq_true rfl) d_Lw_law_8 (fun hm H hP hD hS => ?_)
  have hP : va_P (dC, dI) cls (wY cI cZ hy hp h ht hq n1 n2 (ad, n9, ae, stI 0 0, -1) ++ [(hm, .inr (6, [.int 0, .null, .null, .null, .null, .int 0, .int 0, .int 0, .int 0, .null, .null, .null, .null, .null, .null, .int 0, .null, .null, .int 0, .int 0, .int 0, .int 0, .int 0, .int 0, .null, .null, .int 0, .int 0, .int 0, .null, .null]))]) H := hP
  have hD : va_D (fun q : Nat => s.heap.size ≤ q) (wY cI cZ hy hp h ht hq n1 n2 (ad, n9, ae, stI 0 0, -1) ++ [(hm, .inr (6, [.int 0, .null, .null, .null, .null, .int 0, .int 0, .int 0, .int 0, .null, .null, .null, .null, .null, .null, .int 0, .null, .null, .int 0, .int 0, .int 0, .int 0, .int 0, .int 0, .null, .null, .int 0, .int 0, .int 0, .null, .null]))]) := hD
  refine lv_dup hx hb d_Lw_law_11 rfl ?_
  refine ci_I (wr := wY cI cZ hy hp h ht hq n1 n2 (ad, n9, ae, stI 0 0, -1)) (As := []) (rest := [.ref hm]) CF (m_Mo_init l dC dI cI cZ sa rk hm _) hP hD hK2 hS hA hC hZ hN [16] [0, 1, 2, 3, 4, 5, 6, 7, 8, 9, 10, 11, 12, 13, 14, 15] rfl rfl (by decide) (by decide) (by decide) L_917 L_918 L_90 L_919 rfl k_Mo_init ⟨Nat.le_of_ble_eq_true rfl, Nat.le_of_ble_eq_true rfl⟩ hl.1 ⟨Nat.le_of_ble_eq_true rfl, Nat.le_of_ble_eq_true rfl⟩ (Nat.le_of_ble_eq_true rfl) d_Lw_law_12 rfl (fun ma H locs _ hP hD hS => ?_)
  refine lv_astore_n (lv' := [(2, .ref hm), (1, .ref hy), (0, .ref b)]) hx hb d_Lw_law_15 rfl hl (by decide) rfl (fun ls hl => ?_)
  refine lv_iconst (v := 1) hx hb d_Lw_law_16 (by decide) ?_
  refine va_newL (D := (dC, dI)) (cl := cls) (N' := 1) hx hb (htl _ L_1281) (hK.2 2 (cL, .long) rfl).2 hP hD hS hA (by decide) (by decide) (by decide) (Nat.le_of_ble_eq_true rfl) (Nat.le_of_ble_eq_true rfl) d_Lw_law_17 (fun ho H hP hD hS => ?_)
  have hP := hP.sub (ws' := wW cI cZ cL ho hy hp h ht hq n1 n2 (fun _ => 0, (ad, n9, ae, stI 0 0, -1)) hm ma mo0) [33, 0, 1, 2, 3, 4, 5, 6, 7, 8, 9, 10, 11, 12, 13, 14, 15, 16, 17, 18, 19, 20, 21, 22, 23, 24, 25, 26, 27, 28, 29, 30, 31, 32] rfl
  have hD := hD.sub (ws' := wW cI cZ cL ho hy hp h ht hq n1 n2 (fun _ => 0, (ad, n9, ae, stI 0 0, -1)) hm ma mo0) [33, 0, 1, 2, 3, 4, 5, 6, 7, 8, 9, 10, 11, 12, 13, 14, 15, 16, 17, 18, 19, 20, 21, 22, 23, 24, 25, 26, 27, 28, 29, 30, 31, 32] (by decide) rfl
  refine lv_astore_n (lv' := [(3, .ref ho), (2, .ref hm), (1, .ref hy), (0, .ref b)]) hx hb d_Lw_law_19 rfl hl (by decide) rfl (fun ls hl => ?_)
  refine lv_iconst (v := nI (5 * 0)) hx hb d_Lw_law_20 (by decide) ?_
  refine lv_istore (lv' := [(4, .int (nI (5 * 0))), (3, .ref ho), (2, .ref hm), (1, .ref hy), (0, .ref b)]) hx hb d_Lw_law_21 hl (by decide) rfl (fun ls hl => ?_)
  have hok : okSt (stI 0 0) := by decide
  exact law_loop hlt hL C1 hK hC hZ hY hO (L + 1) 0 (by omega) (by omega) (fun _ => 0, (ad, n9, ae, stI 0 0, -1)) mo0 H locs _ _ ls ⟨hok, TkR_nil rfl rfl, TrR_nil rfl rfl, rfl⟩ (Nat.le_of_ble_eq_true rfl) (Nat.le_of_ble_eq_true rfl) hP hD hS (lv_sub hl [4, 3, 2, 1, 0] rfl)
