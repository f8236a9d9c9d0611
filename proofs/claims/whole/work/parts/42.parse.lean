/-! parse: the place where the tokens are refused, or -1 -/
abbrev wyH (y : MethodName) (cc : ByteArray) (ml : Nat) (rt : Option FieldType) (hh : List (Nat × Nat × Nat × Nat)) : List Cond := Cond.codeWith y cc ml rt hh :: LL
abbrev st_par (st : ST) : ST := (sTk st, t_clear (sTr st), (lbN (sLb st), lbL (sLb st), 0), (0, 0, 0, 0, 0), 0, -1, 0, bC st - 1, bS st - 5)
def f_parse (st : ST) : Rz := if bC st < 1 ∨ bS st < 5 then none else bnd (f_prog (st_par st)) (fun _ s1 => some (.inr (-1, s1)))
abbrev poP (st : ST) (r : Int32) (u : Nat × AD × ST) : Prop := okSt u.2.2 ∧ bC u.2.2 ≤ bC st ∧ bS u.2.2 ≤ bS st ∧ (f_parse st = some (.inl (r, bC u.2.2, bS u.2.2)) ∨ f_parse st = some (.inr (r, u.2.2)))
abbrev cPp (l : Launch) (D : va_G) (cI cZ : ClassId) (sa rk hp hc h a1 a2 a3 a4 ht hq n1 n2 : Nat) (ad : AD) (st : ST) (sz : Nat) : Prop :=
  vx_Met l y_Pa_parse (wyH y_Pa_parse c_Pa_parse 2 (some .int) [(43, 47, 50, 50)]) { frames := 2025, cells := bC st, slots := bS st, locals := 76097 } (prM D cI cZ sa rk [.ref hp] (wQ cI cZ hp hc h a1 a2 a3 a4 ht hq n1 n2 (ad, st)) sz)
    (va_Qi (poP st) (wB D cI cZ (va_A (wQ cI cZ hp hc h a1 a2 a3 a4 ht hq n1 n2 (ad, st)) sz) (wX cI cZ hp h a1 a2 a3 a4 ht hq n1 n2)) (va_A (wQ cI cZ hp hc h a1 a2 a3 a4 ht hq n1 n2 (ad, st)) sz)) (vx_X (fun _ : Unit => False) (fun _ _ _ => False) (va_A (wQ cI cZ hp hc h a1 a2 a3 a4 ht hq n1 n2 (ad, st)) sz)) (bC st) (bS st) (va_A (wQ cI cZ hp hc h a1 a2 a3 a4 ht hq n1 n2 (ad, st)) sz)
set_option maxRecDepth 100000 in
set_option maxHeartbeats 4000000 in
theorem m_Pa_parse (l : Launch) (hlt : l.stackTraces = false) (dC : Nat → ClassId) (dI : Nat → Nat → Nat) (cI cZ : ClassId) (sa rk hp hc h a1 a2 a3 a4 ht hq n1 n2 : Nat) (ad : AD) (st : ST) (hst : okSt st) (sz : Nat) (hg : f_parse st ≠ none) : cPp l (dC, dI) cI cZ sa rk hp hc h a1 a2 a3 a4 ht hq n1 n2 ad st sz := by
  have hg1 : ¬ (bC st < 1 ∨ bS st < 5) := fun z => hg (by unfold f_parse; rw [if_pos z])
  have hgv : f_parse st = bnd (f_prog (st_par st)) (fun _ s1 => some (.inr (-1, s1))) := by unfold f_parse; rw [if_neg hg1]
  have hg2 : f_prog (st_par st) ≠ none := fun z => hg (by rw [hgv, bnd_n z])
  refine vx_ofWH (cc := c_Pa_parse) (maxL := 2) (ret := some .int) (hh := [(43, 47, 50, 50)]) (by decide) rfl ?_
  intro p e s m args below meth c s₁ B hml hv
  obtain ⟨rfl, hsz, hP, hK, hD0, hC, hZ⟩ := hv
  have hx := B.exec
  have hb := B.bytes
  have hr := B.returns
  have hts0 := atoms_spec (ws := wyH y_Pa_parse c_Pa_parse 2 (some .int) [(43, 47, 50, 50)]) B.pre
  have hts := htsL hts0
  have htab := vx_table (x := y_Pa_parse) B (hts0 _ List.mem_cons_self)
  have hown : s.vm.findClass R_Pa = some m.cls := findClass_of_methodNamed B.named
  have hlocks := B.notSynchronized
  subst hsz
  have hD := hD0.self (sz := s.heap.size)
  generalize hAe : va_A (wQ cI cZ hp hc h a1 a2 a3 a4 ht hq n1 n2 (ad, st)) s.heap.size = A at hD hZ ⊢
  have hA : ∀ q : Nat, s.heap.size ≤ q → A q := fun q h => by rw [← hAe]; exact Or.inr h
  have hS : va_S A s.heap s.heap [] := va_S.rf
  have hl := lv_entry ([.ref hp]) (n := 2) (Nat.le_of_ble_eq_true rfl)
  rw [lg_entry_eq]
  generalize (lg_sl ([.ref hp]) ++ List.replicate (2 - (lg_sl ([.ref hp])).length) Slot.unset).toArray = ls at hl ⊢
  have hl : lv_has ls 2 [(0, .ref hp)] := hl
  refine lv_aload_n hx hb d_Pa_parse_0 rfl (lv_at hl 0 rfl) ?_
  refine lv_iconst (v := 0) hx hb d_Pa_parse_1 (by decide) ?_
  refine va_put (D := (dC, dI)) (ci := 2) (v := .int 0) (ty := .int) (C := R_Pa) (T := T_Pa) (N := 7) hx hb hts u_Pa ty_Pa tk_Pa nm_Pa hown hK hP hD hS 0 rfl rfl 4 (by decide) (hts _ L_215) (fun x9 h9 => u_same (hts _ L_216) x9 h9) rfl (by decide +kernel) rfl rfl (Nat.le_of_ble_eq_true rfl) d_Pa_parse_2 (fun H locs hP hD hS => ?_)
  have hP : va_P (dC, dI) cls (wQ cI cZ hp hc h a1 a2 a3 a4 ht hq n1 n2 (ad, setAt st 0)) H := hP
  have hD : va_D A (wQ cI cZ hp hc h a1 a2 a3 a4 ht hq n1 n2 (ad, setAt st 0)) := hD
  refine lv_aload_n hx hb d_Pa_parse_5 rfl (lv_at hl 0 rfl) ?_
  refine lv_iconst (v := 0) hx hb d_Pa_parse_6 (by decide) ?_
  refine va_put (D := (dC, dI)) (ci := 2) (v := .int 0) (ty := .int) (C := R_Pa) (T := T_Pa) (N := 7) hx hb hts u_Pa ty_Pa tk_Pa nm_Pa hown hK hP hD hS 0 rfl rfl 2 (by decide) (hts _ L_210) (fun _ h9 => h9) rfl (by decide +kernel) rfl rfl (Nat.le_of_ble_eq_true rfl) d_Pa_parse_7 (fun H locs hP hD hS => ?_)
  have hP : va_P (dC, dI) cls (wQ cI cZ hp hc h a1 a2 a3 a4 ht hq n1 n2 (ad, setLi (setAt st 0) 0)) H := hP
  have hD : va_D A (wQ cI cZ hp hc h a1 a2 a3 a4 ht hq n1 n2 (ad, setLi (setAt st 0) 0)) := hD
  refine lv_aload_n hx hb d_Pa_parse_10 rfl (lv_at hl 0 rfl) ?_
  refine lv_iconst (v := (-1)) hx hb d_Pa_parse_11 (by decide) ?_
  refine va_put (D := (dC, dI)) (ci := 2) (v := .int (-1)) (ty := .int) (C := R_Pa) (T := T_Pa) (N := 7) hx hb hts u_Pa ty_Pa tk_Pa nm_Pa hown hK hP hD hS 0 rfl rfl 5 (by decide) (hts _ L_218) (fun x9 h9 => u_same (hts _ L_219) x9 h9) rfl (by decide +kernel) rfl rfl (Nat.le_of_ble_eq_true rfl) d_Pa_parse_12 (fun H locs hP hD hS => ?_)
  have hP : va_P (dC, dI) cls (wQ cI cZ hp hc h a1 a2 a3 a4 ht hq n1 n2 (ad, (setRa (setLi (setAt st 0) 0) (-1)))) H := hP
  have hD : va_D A (wQ cI cZ hp hc h a1 a2 a3 a4 ht hq n1 n2 (ad, (setRa (setLi (setAt st 0) 0) (-1)))) := hD
  refine lv_aload_n hx hb d_Pa_parse_15 rfl (lv_at hl 0 rfl) ?_
  refine va_new (ci := 0) (fs := [.int 0, .int 0, .int 0, .int 0, .int 0]) (C := R_Co) (T := T_Co) (N := 5) hx hb hts u_Co ty_Co tk_Co hown (hts _ L_402) (hts _ L_164) (hts _ L_88) hK hP hD hS hA rfl (fun j hj => by rcases (show j = 0 ∨ j = 1 ∨ j = 2 ∨ j = 3 ∨ j = 4 by omega) with rfl | rfl | rfl | rfl | rfl <;> rfl) (by show 0 + 1 ≤ bC st; omega) (by show 0 + 5 ≤ bS st; omega) d_Pa_parse_16 (fun hcn H hP hD hS => ?_)
  have hP : va_P (dC, dI) cls ((hcn, .inr (0, [.int 0, .int 0, .int 0, .int 0, .int 0])) :: (wQ cI cZ hp hc h a1 a2 a3 a4 ht hq n1 n2 (ad, (setRa (setLi (setAt st 0) 0) (-1))))) H := hP.sub [15, 0, 1, 2, 3, 4, 5, 6, 7, 8, 9, 10, 11, 12, 13, 14] rfl
  have hD : va_D A ((hcn, .inr (0, [.int 0, .int 0, .int 0, .int 0, .int 0])) :: (wQ cI cZ hp hc h a1 a2 a3 a4 ht hq n1 n2 (ad, (setRa (setLi (setAt st 0) 0) (-1))))) := hD.sub [15, 0, 1, 2, 3, 4, 5, 6, 7, 8, 9, 10, 11, 12, 13, 14] (by decide) rfl
  refine lv_dup hx hb d_Pa_parse_19 rfl ?_
  refine lv_iconst (v := 0) hx hb d_Pa_parse_20 (by decide) ?_
  refine lv_iconst (v := 0) hx hb d_Pa_parse_21 (by decide) ?_
  refine lv_iconst (v := 0) hx hb d_Pa_parse_22 (by decide) ?_
  refine co_I (fl := 0) (s9 := 0) (f := 0) (rest := [.ref hcn, .ref hp]) ⟨hx, hb, hml, hown, hts0⟩ (Or.inl rfl) (Or.inl rfl) hP hD hK hS hA hC hZ L_403 L_166 L_88 L_167 ⟨(by show _ ≤ 2025; omega), (by show _ ≤ 76097; omega)⟩ hl.1 ⟨(by show 0 + 1 ≤ bC st; omega), (by show 0 + 5 ≤ bS st; omega)⟩ (Nat.le_of_ble_eq_true rfl) d_Pa_parse_23 (fun H locs hP hD hS => ?_)
  refine va_put (D := (dC, dI)) (ci := 2) (v := .ref hcn) (ty := .object "SyntaxTree$Code") (C := R_Pa) (T := T_Pa) (N := 7) hx hb hts u_Pa ty_Pa tk_Pa nm_Pa hown hK hP hD hS 1 rfl rfl 6 (by decide) (hts _ L_221) (fun x9 h9 => u_same (hts _ L_222) x9 h9) rfl (by decide +kernel) rfl rfl (Nat.le_of_ble_eq_true rfl) d_Pa_parse_26 (fun H locs hP hD hS => ?_)
  have hP : va_P (dC, dI) cls (wQ cI cZ hp hcn h a1 a2 a3 a4 ht hq n1 n2 (ad, (setB (setCo (setRa (setLi (setAt st 0) 0) (-1)) (0, 0, 0, 0, 0)) (bC st - 1) (bS st - 5)))) H := hP.sub [1, 0, 3, 4, 5, 6, 7, 8, 9, 10, 11, 12, 13, 14, 15] rfl
  have hD : va_D A (wQ cI cZ hp hcn h a1 a2 a3 a4 ht hq n1 n2 (ad, (setB (setCo (setRa (setLi (setAt st 0) 0) (-1)) (0, 0, 0, 0, 0)) (bC st - 1) (bS st - 5)))) := hD.sub [1, 0, 3, 4, 5, 6, 7, 8, 9, 10, 11, 12, 13, 14, 15] (by decide) rfl
  have hcl : 0 + 1 + bC (setB (setCo (setRa (setLi (setAt st 0) 0) (-1)) (0, 0, 0, 0, 0)) (bC st - 1) (bS st - 5)) ≤ bC st := by show 0 + 1 + (bC st - 1) ≤ bC st; omega
  have hsl : 0 + 5 + bS (setB (setCo (setRa (setLi (setAt st 0) 0) (-1)) (0, 0, 0, 0, 0)) (bC st - 1) (bS st - 5)) ≤ bS st := by show 0 + 5 + (bS st - 5) ≤ bS st; omega
  refine lv_aload_n hx hb d_Pa_parse_29 rfl (lv_at hl 0 rfl) ?_
  refine va_get (D := (dC, dI)) (ci := 2) (v := .ref hq) (C := R_Pa) (T := T_Pa) (N := 7) hx hb hts u_Pa hown hK hP 0 rfl rfl 1 (by decide) (hts _ L_209) (fun _ h9 => h9) rfl d_Pa_parse_30 ?_
  refine pL_v (g := some (.inr (0, setLb (setB (setCo (setRa (setLi (setAt st 0) 0) (-1)) (0, 0, 0, 0, 0)) (bC st - 1) (bS st - 5)) (lbN (sLb st), lbL (sLb st), 0)))) (st := (setB (setCo (setRa (setLi (setAt st 0) 0) (-1)) (0, 0, 0, 0, 0)) (bC st - 1) (bS st - 5))) (lb1 := (lbN (sLb st), lbL (sLb st), 0)) (stO := st) (As := []) (rest := []) ⟨hx, hb, hml, hown, hts0⟩ (m_La_clear l dC dI cI cZ sa rk hq n1 n2 (sLb st) (lbN (sLb st), lbL (sLb st), 0) hst.2.2.1 _ rfl) hP hD hK hS hA hC hZ L_404 L_405 L_406 L_89 L_407 ⟨rfl, k_La_clear⟩ ⟨(by show _ ≤ 2025; omega), (by show _ ≤ 76097; omega)⟩ rfl rfl hl.1 (Nat.le_of_ble_eq_true rfl) d_Pa_parse_33 rfl hcl hsl ⟨hst.1, hst.2.1, hst.2.2.1, Or.inl rfl⟩ (Nat.zero_le _) rfl (fun ad st_1 H locs w_1 ok_1 e1_1 e2_1 hP hD hS => ?_)
  have hcl := cl_next hcl e1_1
  have hsl := cl_next hsl e2_1
  cases w_1
  refine lv_aload_n hx hb d_Pa_parse_36 rfl (lv_at hl 0 rfl) ?_
  refine va_get (D := (dC, dI)) (ci := 2) (v := .ref ht) (C := R_Pa) (T := T_Pa) (N := 7) hx hb hts u_Pa hown hK hP 0 rfl rfl 0 (by decide) (hts _ L_208) (fun _ h9 => h9) rfl d_Pa_parse_37 ?_
  refine pT_v (g := some (.inr (0, tB (setLb (setB (setCo (setRa (setLi (setAt st 0) 0) (-1)) (0, 0, 0, 0, 0)) (bC st - 1) (bS st - 5)) (lbN (sLb st), lbL (sLb st), 0)) (t_clear (sTr st)) 0 0))) (st := (setLb (setB (setCo (setRa (setLi (setAt st 0) 0) (-1)) (0, 0, 0, 0, 0)) (bC st - 1) (bS st - 5)) (lbN (sLb st), lbL (sLb st), 0))) (tr1 := t_clear (sTr st)) (stO := st) (As := []) (rest := []) ⟨hx, hb, hml, hown, hts0⟩ (m_Tr_clear l dC dI cI cZ sa rk ht ad (sTr st) hst.2.1 _) hP hD hK hS hA hC hZ L_408 L_409 L_410 L_85 L_411 ⟨rfl, k_Tr_clear⟩ ⟨(by show _ ≤ 2025; omega), (by show _ ≤ 76097; omega)⟩ rfl rfl hl.1 (Nat.le_of_ble_eq_true rfl) d_Pa_parse_40 rfl hcl hsl (Nat.zero_le _) (Nat.zero_le _) ok_1 ⟨Nat.zero_le _, hst.2.1.2⟩ rfl (fun ad st_2 H locs w_2 ok_2 e1_2 e2_2 hP hD hS => ?_)
  have hcl := cl_next hcl e1_2
  have hsl := cl_next hsl e2_2
  cases w_2
  have hP : va_P (dC, dI) cls (wQ cI cZ hp hcn h a1 a2 a3 a4 ht hq n1 n2 (ad, st_par st)) H := hP
  have hD : va_D A (wQ cI cZ hp hcn h a1 a2 a3 a4 ht hq n1 n2 (ad, st_par st)) := hD
  have ok : okSt (st_par st) := ok_2
  have hcl : _ + bC (st_par st) ≤ bC st := hcl
  have hsl : _ + bS (st_par st) ≤ bS st := hsl
  refine lv_aload_n hx hb d_Pa_parse_43 rfl (lv_at hl 0 rfl) ?_
  have hF := va_free (wc := (wQ cI cZ hp hcn h a1 a2 a3 a4 ht hq n1 n2 (ad, st_par st))) hD hS hA [0, 1, 2, 3, 4, 5, 6, 7, 8, 9, 10, 11, 12, 13, 14] rfl
  refine vx_callv (vy_runV (As := []) (rest := []) ⟨hx, hb, hml, hown, hts0⟩ (m_prog l hlt dC dI cI cZ sa rk hp h a1 a2 a3 a4 ht hq n1 n2 hcn ad (st_par st) ok H.size hg2) ⟨prM_blind, va_recv hK hP (ci := 2) (q0 := 0) rfl rfl, fun U hU hW => ⟨rfl, by rw [hU], by rw [hU]; exact hP, va_K.moved hW.alike hK, hD.weaken (fun _ _ _ _ => trivial), XX.use hC hZ hS hF hU hW⟩⟩ L_412 L_414 L_2 L_87 L_415 k_Pa_program ⟨(by show 2024 + 1 ≤ 2025; decide), (by show 8 + (5 + 11) + 76073 ≤ 76097; decide)⟩ rfl hl.1 rfl (lv_room (Nat.le_of_ble_eq_true rfl)) d_Pa_parse_44 ⟨hcl, hsl⟩) hS (fun q _ h => hF q h) hF (fun q _ h => hF q h) (fun E ce q9 u t H1 locs1 ht1 hvm hp1 hB hz hk hS1 hce hcv hcl1 => ?_) (fun u t H1 locs1 ht1 hvm hp1 hB hz hk hS1 => ?_)
  · obtain ⟨hE, hP1, hK1, hD1⟩ := hB
    obtain ⟨e1, e2, e3, e4⟩ := hp1
    obtain ⟨hc1, ad1, st1⟩ := u
    subst hE
    rw [ht1] at hP1
    have hD1 := hD1.weaken (fun _ _ _ z => hF _ z)
    have hgr : f_parse st = some (.inl (sRa st1, bC st1, bS st1)) := by rw [hgv, bnd_l e1]
    have hcl2 : bC st1 ≤ bC (st_par st) := e3
    have hsl2 : bS st1 ≤ bS (st_par st) := e4
    refine vx_catch (own := R_Pa) (name := IAE) hown [] ⟨43, 47, 50, 50⟩ [] htab (fun z hz => by cases hz) rfl (by decide) (hts _ L_401) (va_Nw.use rfl hC.2.2.1.2.2.2) hce hcv hcl1 ?_
    refine lv_astore_n (lv' := [(1, .ref q9), (0, .ref hp)]) hx hb d_Pa_parse_50 rfl hl (by decide) rfl (fun ls hl => ?_)
    refine lv_aload_n hx hb d_Pa_parse_51 rfl (lv_at hl 1 rfl) ?_
    refine va_get (D := (dC, dI)) (ci := 2) (v := .int (sRa st1)) (C := R_Pa) (T := T_Pa) (N := 7) hx hb hts u_Pa hown hK hP1 0 rfl rfl 5 (by decide) (hts _ L_218) (fun x9 h9 => u_same (hts _ L_219) x9 h9) rfl d_Pa_parse_52 ?_
    refine vx_ret ?_
    refine W.widen (k := bC st) (n := bS st) (by rw [e1]; simp only [mcO]; omega) (by rw [e1]; simp only [msO]; omega) ?_
    exact W.iret hx hb hr (fun t ht hW => ⟨⟨sRa st1, (hc1, ad1, st1), rfl, ⟨e2, by show bC st1 ≤ bC st; have : bC (st_par st) ≤ bC st := Nat.sub_le _ _; omega, by show bS st1 ≤ bS st; have : bS (st_par st) ≤ bS st := Nat.sub_le _ _; omega, Or.inl hgr⟩, by rw [ht]; exact hP1, va_K.moved hW.alike hK, hD1⟩, hS1.F ht⟩) hS1.2.2 d_Pa_parse_55
  · obtain ⟨hP1, hK1, hD1⟩ := hB
    obtain ⟨e1, e2, e3, e4⟩ := hp1
    obtain ⟨ad1, st1⟩ := u
    rw [ht1] at hP1
    have hD1 := hD1.weaken (fun _ _ _ z => hF _ z)
    have hgr : f_parse st = some (.inr (-1, st1)) := by rw [hgv, bnd_r e1]
    have hcl2 : bC st1 ≤ bC (st_par st) := e3
    have hsl2 : bS st1 ≤ bS (st_par st) := e4
    refine lv_goto (tgt := 56) hx hb d_Pa_parse_47 (by decide) ?_
    refine lv_iconst (v := (-1)) hx hb d_Pa_parse_56 (by decide) ?_
    refine vx_ret ?_
    refine W.widen (k := bC st) (n := bS st) (by rw [e1]; simp only [mcO]; omega) (by rw [e1]; simp only [msO]; omega) ?_
    exact W.iret hx hb hr (fun t ht hW => ⟨⟨-1, (hcn, ad1, st1), rfl, ⟨e2, by show bC st1 ≤ bC st; have : bC (st_par st) ≤ bC st := Nat.sub_le _ _; omega, by show bS st1 ≤ bS st; have : bS (st_par st) ≤ bS st := Nat.sub_le _ _; omega, Or.inr hgr⟩, by rw [ht]; exact hP1, va_K.moved hW.alike hK, hD1⟩, hS1.F ht⟩) hS1.2.2 d_Pa_parse_57
