/-! the reference: labelled, plainStatement, declarations, variables, condition, body, doLoop, whileLoop, part, forLoop, giveBack, with_, choice, thrower -/
def f_Mo_labelled_L14 (K : Nat → List Int32 → MO → Rm) (depth : Int32) (own : Int32) (token : Int32) (e4 : Int32) : Nat → Int32 → MO → Rm
  | 0, _, _ => none
  | fu_2 + 1, x5, sx_2 => (if (q_labels sx_2) ≤ x5 then (some (.inr (0, sx_2))) else (if inb x5 1000 then (if ((q_label sx_2) (x5 : Int32).toNatClampNeg) = e4 then (bndM (f_Mo_refuse sx_2 token) (fun _ mo_10 => (f_Mo_labelled_L14 K depth own token e4 fu_2 (x5 + 1) mo_10))) else (f_Mo_labelled_L14 K depth own token e4 fu_2 (x5 + 1) sx_2)) else none))
def f_Mo_labelled (K : Nat → List Int32 → MO → Rm) (mo : MO) (depth : Int32) (own : Int32) (token : Int32) : Rm := (if inb token 1001 then (bndM (f_Mo_labelled_L14 K depth own token ((q_names mo) (token : Int32).toNatClampNeg) 5000 (q_ownLabels mo) mo) (fun _ se_2 => (bndM (f_Mo_make se_2 18 ((q_names mo) (token : Int32).toNatClampNeg) token) (fun r_4 mo_4 => (if inb (q_labels mo_4) 1000 then (bndM (K 5 [(depth + 1), own] (s_loopLabel (s_label (s_labels mo_4 ((q_labels mo_4) + 1)) (upd (q_label mo_4) ((q_labels mo_4) : Int32).toNatClampNeg ((q_names mo) (token : Int32).toNatClampNeg))) (upd (q_loopLabel mo_4) ((q_labels mo_4) : Int32).toNatClampNeg 0))) (fun r_6 mo_6 => (bndM (f_Mo_hang mo_6 r_4 r_6) (fun _ mo_7 => (some (.inr (r_4, (s_labels mo_7 ((q_labels mo_7) - 1))))))))) else none))))) else none)
set_option maxRecDepth 100000 in
set_option maxHeartbeats 4000000 in
theorem m_Mo_labelled (l : Launch) (hlt : l.stackTraces = false) (dC : Nat → ClassId) (dI : Nat → Nat → Nat) (cI cZ : ClassId) (sa rk hm : Nat) (ma : Nat → Nat) (fr0 lo0 : Nat) (K : Nat → List Int32 → MO → Rm) (hR0 : ∀ (mo : MO) (sz : Nat) (p0 p1 : Int32), K 0 [p0, p1] mo ≠ none → cXi l y_Mo_expression c_Mo_expression 5 .int fr0 lo0 (dC, dI) cI cZ sa rk hm ma mo sz [.ref hm, .int p0, .int p1] (K 0 [p0, p1] mo)) (hR1 : ∀ (mo : MO) (sz : Nat) (p0 p1 : Int32), K 1 [p0, p1] mo ≠ none → cXi l y_Mo_assignment c_Mo_assignment 5 .int fr0 lo0 (dC, dI) cI cZ sa rk hm ma mo sz [.ref hm, .int p0, .int p1] (K 1 [p0, p1] mo)) (hR2 : ∀ (mo : MO) (sz : Nat) (p0 p1 p2 : Int32), K 2 [p0, p1, p2] mo ≠ none → cXi l y_Mo_binary c_Mo_binary 7 .int fr0 lo0 (dC, dI) cI cZ sa rk hm ma mo sz [.ref hm, .int p0, .int p1, .int p2] (K 2 [p0, p1, p2] mo)) (hR3 : ∀ (mo : MO) (sz : Nat) (p0 : Int32), K 3 [p0] mo ≠ none → cXi l y_Mo_unary c_Mo_unary 5 .int fr0 lo0 (dC, dI) cI cZ sa rk hm ma mo sz [.ref hm, .int p0] (K 3 [p0] mo)) (hR4 : ∀ (mo : MO) (sz : Nat) (p0 p1 : Int32), K 4 [p0, p1] mo ≠ none → cXi l y_Mo_member c_Mo_member 6 .int fr0 lo0 (dC, dI) cI cZ sa rk hm ma mo sz [.ref hm, .int p0, .int p1] (K 4 [p0, p1] mo)) (hR5 : ∀ (mo : MO) (sz : Nat) (p0 p1 : Int32), K 5 [p0, p1] mo ≠ none → cXi l y_Mo_statement c_Mo_statement 3 .int fr0 lo0 (dC, dI) cI cZ sa rk hm ma mo sz [.ref hm, .int p0, .int p1] (K 5 [p0, p1] mo)) (hR6 : ∀ (mo : MO) (sz : Nat) (p0 p1 p2 : Int32), K 6 [p0, p1, p2] mo ≠ none → cXv l y_Mo_statements c_Mo_statements 8 fr0 lo0 (dC, dI) cI cZ sa rk hm ma mo sz [.ref hm, .int p0, .int p1, .int p2] (K 6 [p0, p1, p2] mo)) (hR7 : ∀ (mo : MO) (sz : Nat) (p0 : Int32), K 7 [p0] mo ≠ none → cXi l y_Mo_block c_Mo_block 4 .int fr0 lo0 (dC, dI) cI cZ sa rk hm ma mo sz [.ref hm, .int p0] (K 7 [p0] mo)) (mo : MO) (sz : Nat) (depth : Int32) (own : Int32) (token : Int32) (hg : (f_Mo_labelled K mo depth own token) ≠ none) : cXi l y_Mo_labelled c_Mo_labelled 6 .int (fr0 + 7) (lo0 + 102) (dC, dI) cI cZ sa rk hm ma mo sz [.ref hm, .int depth, .int own, .int token] (f_Mo_labelled K mo depth own token) := by
  refine vx_ofW (cc := c_Mo_labelled) (maxL := 6) (ret := (some .int)) (by decide) rfl ?_
  intro p e s m args below meth c s₁ B hml hnt hv
  obtain ⟨rfl, hsz, hP, hK, hD0, hC, hZ⟩ := hv
  have hx := B.exec
  have hb := B.bytes
  have hr := B.returns
  have hts0 := atoms_spec (ws := wy y_Mo_labelled c_Mo_labelled 6 (some .int)) B.pre
  have hts := htsL hts0
  have hown : s.vm.findClass R_Mo = some m.cls := findClass_of_methodNamed B.named
  have hlocks := B.notSynchronized
  subst hsz
  have hD := hD0.self (sz := s.heap.size)
  generalize hAe : va_A (wM cI cZ hm ma mo) s.heap.size = A at hD hZ ⊢
  have hA : ∀ q : Nat, s.heap.size ≤ q → A q := fun q h => by rw [← hAe]; exact Or.inr h
  have hS : va_S A s.heap s.heap [] := va_S.rf
  have hl := lv_entry ([.ref hm, .int depth, .int own, .int token]) (n := 6) (Nat.le_of_ble_eq_true rfl)
  rw [lg_entry_eq]
  generalize (lg_sl ([.ref hm, .int depth, .int own, .int token]) ++ List.replicate (6 - (lg_sl ([.ref hm, .int depth, .int own, .int token])).length) Slot.unset).toArray = ls at hl ⊢
  have hl : lv_has ls 6 [(0, .ref hm), (1, .int depth), (2, .int own), (3, .int token)] := hl
  refine lv_aload_n hx hb d_Mo_labelled_0 rfl (lv_at hl 0 rfl) ?_
  refine va_get (D := (dC, dI)) (ci := 6) (v := .ref (ma 2)) (C := R_Mo) (T := T_Mo) (N := 31) hx hb hts u_Mo hown hK hP 0 rfl rfl 3 (by decide) (hts _ L_924) (fun _ h9 => h9) rfl d_Mo_labelled_1 ?_
  refine lv_iload_n hx hb d_Mo_labelled_4 rfl (lv_at hl 3 rfl) ?_
  by_cases cb_1 : inb token 1001
  case neg => exact absurd (by unfold f_Mo_labelled; rw [if_neg cb_1]) hg
  refine va_iald (D := (dC, dI)) hx hb hK hP 3 0 rfl rfl cb_1 d_Mo_labelled_5 ?_
  refine lv_istore (lv' := [(4, .int ((q_names mo) (token : Int32).toNatClampNeg)), (0, .ref hm), (1, .int depth), (2, .int own), (3, .int token)]) hx hb d_Mo_labelled_6 hl (by decide) rfl (fun ls hl => ?_)
  refine lv_aload_n hx hb d_Mo_labelled_8 rfl (lv_at hl 1 rfl) ?_
  refine va_get (D := (dC, dI)) (ci := 6) (v := .int (q_ownLabels mo)) (C := R_Mo) (T := T_Mo) (N := 31) hx hb hts u_Mo hown hK hP 0 rfl rfl 23 (by decide) (hts _ L_944) (fun _ h9 => h9) rfl d_Mo_labelled_9 ?_
  refine lv_istore (lv' := [(5, .int (q_ownLabels mo)), (4, .int ((q_names mo) (token : Int32).toNatClampNeg)), (0, .ref hm), (1, .int depth), (2, .int own), (3, .int token)]) hx hb d_Mo_labelled_12 hl (by decide) rfl (fun ls hl => ?_)
  obtain ⟨x_2, hx_2⟩ : ∃ z, f_Mo_labelled_L14 K depth own token ((q_names mo) (token : Int32).toNatClampNeg) 5000 (q_ownLabels mo) mo = z := ⟨_, rfl⟩
  have hn_2 : x_2 ≠ none := (fun z => hg (by unfold f_Mo_labelled; rw [if_pos cb_1, bndM_n (hx_2.trans z)]))
  have hX_2 : ∀ q, x_2 = some (.inl q) → (f_Mo_labelled K mo depth own token) = some (.inl q) := (fun q z => by unfold f_Mo_labelled; rw [if_pos cb_1, bndM_l (hx_2.trans z)])
  have lp_2 : ∀ (fu : Nat) (x5 : Int32) (sx_2 : MO) (H : Heap) (locs : List Loc) (ls : Array Slot), va_P (dC, dI) cls (wM cI cZ hm ma sx_2) H → va_D A (wM cI cZ hm ma sx_2) → va_S A s.heap H locs → lv_has ls 6 [(0, .ref hm), (1, .int depth), (2, .int own), (3, .int token), (4, .int ((q_names mo) (token : Int32).toNatClampNeg)), (5, .int x5)] → x_2 = f_Mo_labelled_L14 K depth own token ((q_names mo) (token : Int32).toNatClampNeg) fu x5 sx_2 → W p l e (headSpec (wy y_Mo_labelled c_Mo_labelled 6 (some .int)) { frames := (fr0 + 7), cells := 1, slots := 6, locals := (lo0 + 102) }).room s m [.ref hm, .int depth, .int own, .int token].toArray below meth c H locs 0 0 (vx_MQ below (va_Qi (fun r (u : MO) => (f_Mo_labelled K mo depth own token) = some (.inr (r, u))) (wB (dC, dI) cI cZ A (wM cI cZ hm ma)) A) (xM (dC, dI) cI cZ hm ma (f_Mo_labelled K mo depth own token) A) [.ref hm, .int depth, .int own, .int token].toArray s (mcM (f_Mo_labelled K mo depth own token)) (msM (f_Mo_labelled K mo depth own token)) A) (F0 m 14 ls []) := by
    intro fu
    induction fu with
    | zero => intro x5 sx_2 H locs ls hP hD hS hl hL_2; exact absurd (hL_2.trans rfl) hn_2
    | succ fu_2 ih_2 =>
      intro x5 sx_2 H locs ls hP hD hS hl hL_2
      rw [f_Mo_labelled_L14] at hL_2
      refine lv_iload hx hb d_Mo_labelled_14 (lv_at hl 5 rfl) ?_
      refine lv_aload_n hx hb d_Mo_labelled_16 rfl (lv_at hl 0 rfl) ?_
      refine va_get (D := (dC, dI)) (ci := 6) (v := .int (q_labels sx_2)) (C := R_Mo) (T := T_Mo) (N := 31) hx hb hts u_Mo hown hK hP 0 rfl rfl 22 (by decide) (hts _ L_943) (fun _ h9 => h9) rfl d_Mo_labelled_17 ?_
      refine lv_icmp_ge (tgt := 46) hx hb d_Mo_labelled_20 (by decide) (fun c_3 => ?_) (fun c_3 => ?_)
      · rw [if_pos c_3] at hL_2
        obtain ⟨se_2, hse_2⟩ : ∃ z : MO, z = sx_2 := ⟨_, rfl⟩
        have hP : va_P (dC, dI) cls (wM cI cZ hm ma se_2) H := by rw [hse_2]; exact hP
        have hD : va_D A (wM cI cZ hm ma se_2) := by rw [hse_2]; exact hD
        have we_2 : f_Mo_labelled_L14 K depth own token ((q_names mo) (token : Int32).toNatClampNeg) 5000 (q_ownLabels mo) mo = some (.inr (0, se_2)) := by rw [hse_2]; exact hx_2.trans hL_2
        have hl := lv_sub hl (l' := [(0, .ref hm), (1, .int depth), (2, .int own), (3, .int token), (4, .int ((q_names mo) (token : Int32).toNatClampNeg))]) [0, 1, 2, 3, 4] rfl
        refine lv_aload_n hx hb d_Mo_labelled_46 rfl (lv_at hl 0 rfl) ?_
        refine lv_bipush (v := 18) hx hb d_Mo_labelled_47 (by decide) ?_
        refine lv_iload hx hb d_Mo_labelled_49 (lv_at hl 4 rfl) ?_
        refine lv_iload_n hx hb d_Mo_labelled_51 rfl (lv_at hl 3 rfl) ?_
        refine mr_Vi (g := (f_Mo_make se_2 18 ((q_names mo) (token : Int32).toNatClampNeg) token)) (As := [.int 18, .int ((q_names mo) (token : Int32).toNatClampNeg), .int token]) (rest := []) ⟨hx, hb, hml, hown, hts0⟩ (m_Mo_make l hlt dC dI cI cZ sa rk hm ma se_2 _ 18 ((q_names mo) (token : Int32).toNatClampNeg) token (fun z => hg (by unfold f_Mo_labelled; rw [if_pos cb_1, bndM_r we_2, bndM_n z]))) hP hD hK hS hA hC hZ hnt hlocks L_1046 L_1048 L_59 L_90 L_1049 k_Mo_make ⟨(by show _ ≤ fr0 + 7; omega), (by show _ ≤ lo0 + 102; omega)⟩ rfl rfl hl.1 (Nat.le_of_ble_eq_true rfl) d_Mo_labelled_52 rfl (fun q z => by unfold f_Mo_labelled; rw [if_pos cb_1, bndM_r we_2, bndM_l z]) (fun r_4 mo_4 H locs w_4 hP hD hS => ?_)
        refine lv_istore (lv' := [(5, .int r_4), (0, .ref hm), (1, .int depth), (2, .int own), (3, .int token), (4, .int ((q_names mo) (token : Int32).toNatClampNeg))]) hx hb d_Mo_labelled_55 hl (by decide) rfl (fun ls hl => ?_)
        refine lv_aload_n hx hb d_Mo_labelled_57 rfl (lv_at hl 1 rfl) ?_
        refine va_get (D := (dC, dI)) (ci := 6) (v := .ref (ma 12)) (C := R_Mo) (T := T_Mo) (N := 31) hx hb hts u_Mo hown hK hP 0 rfl rfl 24 (by decide) (hts _ L_945) (fun _ h9 => h9) rfl d_Mo_labelled_58 ?_
        refine lv_aload_n hx hb d_Mo_labelled_61 rfl (lv_at hl 1 rfl) ?_
        refine va_get (D := (dC, dI)) (ci := 6) (v := .int (q_labels mo_4)) (C := R_Mo) (T := T_Mo) (N := 31) hx hb hts u_Mo hown hK hP 0 rfl rfl 22 (by decide) (hts _ L_943) (fun _ h9 => h9) rfl d_Mo_labelled_62 ?_
        refine lv_iload hx hb d_Mo_labelled_65 (lv_at hl 5 rfl) ?_
        by_cases cb_5 : inb (q_labels mo_4) 1000
        case neg => exact absurd (by unfold f_Mo_labelled; rw [if_pos cb_1, bndM_r we_2, bndM_r w_4, if_neg cb_5]) hg
        refine va_iast (D := (dC, dI)) hx hb hK hP hD hS 13 0 rfl rfl cb_5 d_Mo_labelled_67 (fun H locs hP hD hS => ?_)
        have hP : va_P (dC, dI) cls (wM cI cZ hm ma (s_label mo_4 (upd (q_label mo_4) ((q_labels mo_4) : Int32).toNatClampNeg ((q_names mo) (token : Int32).toNatClampNeg)))) H := hP
        have hD : va_D A (wM cI cZ hm ma (s_label mo_4 (upd (q_label mo_4) ((q_labels mo_4) : Int32).toNatClampNeg ((q_names mo) (token : Int32).toNatClampNeg)))) := hD
        refine lv_aload_n hx hb d_Mo_labelled_68 rfl (lv_at hl 1 rfl) ?_
        refine va_get (D := (dC, dI)) (ci := 6) (v := .ref (ma 13)) (C := R_Mo) (T := T_Mo) (N := 31) hx hb hts u_Mo hown hK hP 0 rfl rfl 25 (by decide) (hts _ L_946) (fun _ h9 => h9) rfl d_Mo_labelled_69 ?_
        refine lv_aload_n hx hb d_Mo_labelled_72 rfl (lv_at hl 1 rfl) ?_
        refine va_get (D := (dC, dI)) (ci := 6) (v := .int (q_labels mo_4)) (C := R_Mo) (T := T_Mo) (N := 31) hx hb hts u_Mo hown hK hP 0 rfl rfl 22 (by decide) (hts _ L_943) (fun _ h9 => h9) rfl d_Mo_labelled_73 ?_
        refine lv_iconst (v := 0) hx hb d_Mo_labelled_76 (by decide) ?_
        refine va_zast (D := (dC, dI)) hx hb hK hP hD hS 14 1 rfl rfl cb_5 d_Mo_labelled_77 (fun H locs hP hD hS => ?_)
        have hP : va_P (dC, dI) cls (wM cI cZ hm ma (s_loopLabel (s_label mo_4 (upd (q_label mo_4) ((q_labels mo_4) : Int32).toNatClampNeg ((q_names mo) (token : Int32).toNatClampNeg))) (upd (q_loopLabel mo_4) ((q_labels mo_4) : Int32).toNatClampNeg 0))) H := hP
        have hD : va_D A (wM cI cZ hm ma (s_loopLabel (s_label mo_4 (upd (q_label mo_4) ((q_labels mo_4) : Int32).toNatClampNeg ((q_names mo) (token : Int32).toNatClampNeg))) (upd (q_loopLabel mo_4) ((q_labels mo_4) : Int32).toNatClampNeg 0))) := hD
        refine lv_aload_n hx hb d_Mo_labelled_78 rfl (lv_at hl 1 rfl) ?_
        refine lv_dup hx hb d_Mo_labelled_79 rfl ?_
        refine va_get (D := (dC, dI)) (ci := 6) (v := .int (q_labels mo_4)) (C := R_Mo) (T := T_Mo) (N := 31) hx hb hts u_Mo hown hK hP 0 rfl rfl 22 (by decide) (hts _ L_943) (fun _ h9 => h9) rfl d_Mo_labelled_80 ?_
        refine lv_iconst (v := 1) hx hb d_Mo_labelled_83 (by decide) ?_
        refine lv_iadd hx hb d_Mo_labelled_84 ?_
        refine va_put (D := (dC, dI)) (ci := 6) (v := .int ((q_labels mo_4) + 1)) (ty := .int) (C := R_Mo) (T := T_Mo) (N := 31) hx hb hts u_Mo ty_Mo tk_Mo nm_Mo hown hK hP hD hS 0 rfl rfl 22 (by decide) (hts _ L_943) (fun _ h9 => h9) rfl (by decide +kernel) rfl rfl (Nat.le_of_ble_eq_true rfl) d_Mo_labelled_85 (fun H locs hP hD hS => ?_)
        have hP : va_P (dC, dI) cls (wM cI cZ hm ma (s_loopLabel (s_label (s_labels mo_4 ((q_labels mo_4) + 1)) (upd (q_label mo_4) ((q_labels mo_4) : Int32).toNatClampNeg ((q_names mo) (token : Int32).toNatClampNeg))) (upd (q_loopLabel mo_4) ((q_labels mo_4) : Int32).toNatClampNeg 0))) H := hP
        have hD : va_D A (wM cI cZ hm ma (s_loopLabel (s_label (s_labels mo_4 ((q_labels mo_4) + 1)) (upd (q_label mo_4) ((q_labels mo_4) : Int32).toNatClampNeg ((q_names mo) (token : Int32).toNatClampNeg))) (upd (q_loopLabel mo_4) ((q_labels mo_4) : Int32).toNatClampNeg 0))) := hD
        refine lv_aload_n hx hb d_Mo_labelled_88 rfl (lv_at hl 1 rfl) ?_
        refine lv_iload hx hb d_Mo_labelled_89 (lv_at hl 0 rfl) ?_
        refine lv_aload_n hx hb d_Mo_labelled_91 rfl (lv_at hl 1 rfl) ?_
        refine lv_iload_n hx hb d_Mo_labelled_92 rfl (lv_at hl 2 rfl) ?_
        refine lv_iconst (v := 1) hx hb d_Mo_labelled_93 (by decide) ?_
        refine lv_iadd hx hb d_Mo_labelled_94 ?_
        refine lv_iload_n hx hb d_Mo_labelled_95 rfl (lv_at hl 3 rfl) ?_
        refine mr_Si (g := (K 5 [(depth + 1), own] (s_loopLabel (s_label (s_labels mo_4 ((q_labels mo_4) + 1)) (upd (q_label mo_4) ((q_labels mo_4) : Int32).toNatClampNeg ((q_names mo) (token : Int32).toNatClampNeg))) (upd (q_loopLabel mo_4) ((q_labels mo_4) : Int32).toNatClampNeg 0)))) (As := [.ref hm, .int (depth + 1), .int own]) (rest := [.int r_4, .ref hm]) ⟨hx, hb, hml, hown, hts0⟩ (hR5 (s_loopLabel (s_label (s_labels mo_4 ((q_labels mo_4) + 1)) (upd (q_label mo_4) ((q_labels mo_4) : Int32).toNatClampNeg ((q_names mo) (token : Int32).toNatClampNeg))) (upd (q_loopLabel mo_4) ((q_labels mo_4) : Int32).toNatClampNeg 0)) _ (depth + 1) own (fun z => hg (by unfold f_Mo_labelled; rw [if_pos cb_1, bndM_r we_2, bndM_r w_4, if_pos cb_5, bndM_n z]))) hP hD hK hS hA hC hZ hnt hlocks L_1122 L_1123 L_90 L_1124 k_Mo_statement ⟨(by show _ ≤ fr0 + 7; omega), (by show _ ≤ lo0 + 102; omega)⟩ rfl rfl hl.1 (Nat.le_of_ble_eq_true rfl) d_Mo_labelled_96 rfl (fun q z => by unfold f_Mo_labelled; rw [if_pos cb_1, bndM_r we_2, bndM_r w_4, if_pos cb_5, bndM_l z]) (fun r_6 mo_6 H locs w_6 hP hD hS => ?_)
        refine mr_Vv (g := (f_Mo_hang mo_6 r_4 r_6)) (As := [.int r_4, .int r_6]) (rest := []) ⟨hx, hb, hml, hown, hts0⟩ (m_Mo_hang l hlt dC dI cI cZ sa rk hm ma mo_6 _ r_4 r_6 (fun z => hg (by unfold f_Mo_labelled; rw [if_pos cb_1, bndM_r we_2, bndM_r w_4, if_pos cb_5, bndM_r w_6, bndM_n z]))) hP hD hK hS hA hC hZ hnt hlocks L_1115 L_1117 L_69 L_90 L_1118 k_Mo_hang ⟨(by show _ ≤ fr0 + 7; omega), (by show _ ≤ lo0 + 102; omega)⟩ rfl rfl hl.1 (Nat.le_of_ble_eq_true rfl) d_Mo_labelled_99 rfl (fun q z => by unfold f_Mo_labelled; rw [if_pos cb_1, bndM_r we_2, bndM_r w_4, if_pos cb_5, bndM_r w_6, bndM_l z]) (fun mo_7 H locs w_7 hP hD hS => ?_)
        refine lv_aload_n hx hb d_Mo_labelled_102 rfl (lv_at hl 1 rfl) ?_
        refine lv_dup hx hb d_Mo_labelled_103 rfl ?_
        refine va_get (D := (dC, dI)) (ci := 6) (v := .int (q_labels mo_7)) (C := R_Mo) (T := T_Mo) (N := 31) hx hb hts u_Mo hown hK hP 0 rfl rfl 22 (by decide) (hts _ L_943) (fun _ h9 => h9) rfl d_Mo_labelled_104 ?_
        refine lv_iconst (v := 1) hx hb d_Mo_labelled_107 (by decide) ?_
        refine lv_isub hx hb d_Mo_labelled_108 ?_
        refine va_put (D := (dC, dI)) (ci := 6) (v := .int ((q_labels mo_7) - 1)) (ty := .int) (C := R_Mo) (T := T_Mo) (N := 31) hx hb hts u_Mo ty_Mo tk_Mo nm_Mo hown hK hP hD hS 0 rfl rfl 22 (by decide) (hts _ L_943) (fun _ h9 => h9) rfl (by decide +kernel) rfl rfl (Nat.le_of_ble_eq_true rfl) d_Mo_labelled_109 (fun H locs hP hD hS => ?_)
        have hP : va_P (dC, dI) cls (wM cI cZ hm ma (s_labels mo_7 ((q_labels mo_7) - 1))) H := hP
        have hD : va_D A (wM cI cZ hm ma (s_labels mo_7 ((q_labels mo_7) - 1))) := hD
        refine lv_iload hx hb d_Mo_labelled_112 (lv_at hl 0 rfl) ?_
        exact mr_iret (v := r_4) (mo := (s_labels mo_7 ((q_labels mo_7) - 1))) hx hb hr hlocks hK hP hD hS (by unfold f_Mo_labelled; rw [if_pos cb_1, bndM_r we_2, bndM_r w_4, if_pos cb_5, bndM_r w_6, bndM_r w_7]) d_Mo_labelled_114
      · rw [if_neg c_3] at hL_2
        refine lv_aload_n hx hb d_Mo_labelled_23 rfl (lv_at hl 0 rfl) ?_
        refine va_get (D := (dC, dI)) (ci := 6) (v := .ref (ma 12)) (C := R_Mo) (T := T_Mo) (N := 31) hx hb hts u_Mo hown hK hP 0 rfl rfl 24 (by decide) (hts _ L_945) (fun _ h9 => h9) rfl d_Mo_labelled_24 ?_
        refine lv_iload hx hb d_Mo_labelled_27 (lv_at hl 5 rfl) ?_
        by_cases cb_8 : inb x5 1000
        case neg => exact absurd (hL_2.trans (if_neg cb_8)) hn_2
        rw [if_pos cb_8] at hL_2
        refine va_iald (D := (dC, dI)) hx hb hK hP 13 0 rfl rfl cb_8 d_Mo_labelled_29 ?_
        refine lv_iload hx hb d_Mo_labelled_30 (lv_at hl 4 rfl) ?_
        refine lv_icmp_ne (tgt := 40) hx hb d_Mo_labelled_32 (by decide) (fun c_9 => ?_) (fun c_9 => ?_)
        · rw [if_neg c_9] at hL_2
          refine lv_iinc (v := (x5 + 1)) (lv' := [(5, .int (x5 + 1)), (0, .ref hm), (1, .int depth), (2, .int own), (3, .int token), (4, .int ((q_names mo) (token : Int32).toNatClampNeg))]) hx hb d_Mo_labelled_40 hl (k := 5) rfl rfl (by decide) rfl (fun ls hl => ?_)
          refine lv_goto (tgt := 14) hx hb d_Mo_labelled_43 (by decide) ?_
          exact ih_2 (x5 + 1) sx_2 _ _ ls hP hD hS (lv_sub hl [1, 2, 3, 4, 5, 0] rfl) hL_2
        · rw [if_pos c_9] at hL_2
          refine lv_aload_n hx hb d_Mo_labelled_35 rfl (lv_at hl 0 rfl) ?_
          refine lv_iload_n hx hb d_Mo_labelled_36 rfl (lv_at hl 3 rfl) ?_
          refine mr_Vv (g := (f_Mo_refuse sx_2 token)) (As := [.int token]) (rest := []) ⟨hx, hb, hml, hown, hts0⟩ (m_Mo_refuse l hlt dC dI cI cZ sa rk hm ma sx_2 _ token ) hP hD hK hS hA hC hZ hnt hlocks L_1072 L_1074 L_64 L_90 L_1075 k_Mo_refuse ⟨(by show _ ≤ fr0 + 7; omega), (by show _ ≤ lo0 + 102; omega)⟩ rfl rfl hl.1 (Nat.le_of_ble_eq_true rfl) d_Mo_labelled_37 rfl (fun q z => hX_2 q (hL_2.trans (bndM_l z))) (fun mo_10 H locs w_10 hP hD hS => ?_)
          rw [bndM_r w_10] at hL_2
          refine lv_iinc (v := (x5 + 1)) (lv' := [(5, .int (x5 + 1)), (0, .ref hm), (1, .int depth), (2, .int own), (3, .int token), (4, .int ((q_names mo) (token : Int32).toNatClampNeg))]) hx hb d_Mo_labelled_40 hl (k := 5) rfl rfl (by decide) rfl (fun ls hl => ?_)
          refine lv_goto (tgt := 14) hx hb d_Mo_labelled_43 (by decide) ?_
          exact ih_2 (x5 + 1) mo_10 _ _ ls hP hD hS (lv_sub hl [1, 2, 3, 4, 5, 0] rfl) hL_2
  exact lp_2 5000 (q_ownLabels mo) mo _ _ ls hP hD hS (lv_sub hl [2, 3, 4, 5, 1, 0] rfl) hx_2.symm
def f_Mo_plainStatement (K : Nat → List Int32 → MO → Rm) (mo : MO) (depth : Int32) (own : Int32) : Rm := (bndM (f_Mo_isKind mo 1) (fun r_1 mo_1 => (bndM (K 0 [(depth + 1), 1] mo_1) (fun r_2 mo_2 => (if r_1 = 0 then (bndM (f_Mo_make mo_2 5 0 (q_at mo)) (fun r_4 mo_4 => (bndM (f_Mo_hang mo_4 r_4 r_2) (fun _ mo_5 => (bndM (f_Mo_semicolon mo_5) (fun _ mo_6 => (some (.inr (r_4, mo_6))))))))) else (if inb r_2 2600 then (if ((q_kind mo_2) (r_2 : Int32).toNatClampNeg) = 28 then (if (q_at mo_2) = ((q_at mo) + 1) then (bndM (f_Mo_isSign mo_2 70) (fun r_16 mo_16 => (if r_16 = 0 then (bndM (f_Mo_make mo_16 5 0 (q_at mo)) (fun r_18 mo_18 => (bndM (f_Mo_hang mo_18 r_18 r_2) (fun _ mo_19 => (bndM (f_Mo_semicolon mo_19) (fun _ mo_20 => (some (.inr (r_18, mo_20))))))))) else (bndM (f_Mo_labelled K (s_at mo_16 ((q_at mo_16) + 1)) depth own (q_at mo)) (fun r_21 mo_21 => (some (.inr (r_21, mo_21)))))))) else (bndM (f_Mo_make mo_2 5 0 (q_at mo)) (fun r_13 mo_13 => (bndM (f_Mo_hang mo_13 r_13 r_2) (fun _ mo_14 => (bndM (f_Mo_semicolon mo_14) (fun _ mo_15 => (some (.inr (r_13, mo_15)))))))))) else (bndM (f_Mo_make mo_2 5 0 (q_at mo)) (fun r_9 mo_9 => (bndM (f_Mo_hang mo_9 r_9 r_2) (fun _ mo_10 => (bndM (f_Mo_semicolon mo_10) (fun _ mo_11 => (some (.inr (r_9, mo_11)))))))))) else none))))))
set_option maxRecDepth 100000 in
set_option maxHeartbeats 4000000 in
theorem m_Mo_plainStatement (l : Launch) (hlt : l.stackTraces = false) (dC : Nat → ClassId) (dI : Nat → Nat → Nat) (cI cZ : ClassId) (sa rk hm : Nat) (ma : Nat → Nat) (fr0 lo0 : Nat) (K : Nat → List Int32 → MO → Rm) (hR0 : ∀ (mo : MO) (sz : Nat) (p0 p1 : Int32), K 0 [p0, p1] mo ≠ none → cXi l y_Mo_expression c_Mo_expression 5 .int fr0 lo0 (dC, dI) cI cZ sa rk hm ma mo sz [.ref hm, .int p0, .int p1] (K 0 [p0, p1] mo)) (hR1 : ∀ (mo : MO) (sz : Nat) (p0 p1 : Int32), K 1 [p0, p1] mo ≠ none → cXi l y_Mo_assignment c_Mo_assignment 5 .int fr0 lo0 (dC, dI) cI cZ sa rk hm ma mo sz [.ref hm, .int p0, .int p1] (K 1 [p0, p1] mo)) (hR2 : ∀ (mo : MO) (sz : Nat) (p0 p1 p2 : Int32), K 2 [p0, p1, p2] mo ≠ none → cXi l y_Mo_binary c_Mo_binary 7 .int fr0 lo0 (dC, dI) cI cZ sa rk hm ma mo sz [.ref hm, .int p0, .int p1, .int p2] (K 2 [p0, p1, p2] mo)) (hR3 : ∀ (mo : MO) (sz : Nat) (p0 : Int32), K 3 [p0] mo ≠ none → cXi l y_Mo_unary c_Mo_unary 5 .int fr0 lo0 (dC, dI) cI cZ sa rk hm ma mo sz [.ref hm, .int p0] (K 3 [p0] mo)) (hR4 : ∀ (mo : MO) (sz : Nat) (p0 p1 : Int32), K 4 [p0, p1] mo ≠ none → cXi l y_Mo_member c_Mo_member 6 .int fr0 lo0 (dC, dI) cI cZ sa rk hm ma mo sz [.ref hm, .int p0, .int p1] (K 4 [p0, p1] mo)) (hR5 : ∀ (mo : MO) (sz : Nat) (p0 p1 : Int32), K 5 [p0, p1] mo ≠ none → cXi l y_Mo_statement c_Mo_statement 3 .int fr0 lo0 (dC, dI) cI cZ sa rk hm ma mo sz [.ref hm, .int p0, .int p1] (K 5 [p0, p1] mo)) (hR6 : ∀ (mo : MO) (sz : Nat) (p0 p1 p2 : Int32), K 6 [p0, p1, p2] mo ≠ none → cXv l y_Mo_statements c_Mo_statements 8 fr0 lo0 (dC, dI) cI cZ sa rk hm ma mo sz [.ref hm, .int p0, .int p1, .int p2] (K 6 [p0, p1, p2] mo)) (hR7 : ∀ (mo : MO) (sz : Nat) (p0 : Int32), K 7 [p0] mo ≠ none → cXi l y_Mo_block c_Mo_block 4 .int fr0 lo0 (dC, dI) cI cZ sa rk hm ma mo sz [.ref hm, .int p0] (K 7 [p0] mo)) (mo : MO) (sz : Nat) (depth : Int32) (own : Int32) (hg : (f_Mo_plainStatement K mo depth own) ≠ none) : cXi l y_Mo_plainStatement c_Mo_plainStatement 7 .int (fr0 + 8) (lo0 + 127) (dC, dI) cI cZ sa rk hm ma mo sz [.ref hm, .int depth, .int own] (f_Mo_plainStatement K mo depth own) := by
  refine vx_ofW (cc := c_Mo_plainStatement) (maxL := 7) (ret := (some .int)) (by decide) rfl ?_
  intro p e s m args below meth c s₁ B hml hnt hv
  obtain ⟨rfl, hsz, hP, hK, hD0, hC, hZ⟩ := hv
  have hx := B.exec
  have hb := B.bytes
  have hr := B.returns
  have hts0 := atoms_spec (ws := wy y_Mo_plainStatement c_Mo_plainStatement 7 (some .int)) B.pre
  have hts := htsL hts0
  have hown : s.vm.findClass R_Mo = some m.cls := findClass_of_methodNamed B.named
  have hlocks := B.notSynchronized
  subst hsz
  have hD := hD0.self (sz := s.heap.size)
  generalize hAe : va_A (wM cI cZ hm ma mo) s.heap.size = A at hD hZ ⊢
  have hA : ∀ q : Nat, s.heap.size ≤ q → A q := fun q h => by rw [← hAe]; exact Or.inr h
  have hS : va_S A s.heap s.heap [] := va_S.rf
  have hl := lv_entry ([.ref hm, .int depth, .int own]) (n := 7) (Nat.le_of_ble_eq_true rfl)
  rw [lg_entry_eq]
  generalize (lg_sl ([.ref hm, .int depth, .int own]) ++ List.replicate (7 - (lg_sl ([.ref hm, .int depth, .int own])).length) Slot.unset).toArray = ls at hl ⊢
  have hl : lv_has ls 7 [(0, .ref hm), (1, .int depth), (2, .int own)] := hl
  refine lv_aload_n hx hb d_Mo_plainStatement_0 rfl (lv_at hl 0 rfl) ?_
  refine va_get (D := (dC, dI)) (ci := 6) (v := .int (q_at mo)) (C := R_Mo) (T := T_Mo) (N := 31) hx hb hts u_Mo hown hK hP 0 rfl rfl 6 (by decide) (hts _ L_927) (fun _ h9 => h9) rfl d_Mo_plainStatement_1 ?_
  refine lv_istore_n (lv' := [(3, .int (q_at mo)), (0, .ref hm), (1, .int depth), (2, .int own)]) hx hb d_Mo_plainStatement_4 rfl hl (by decide) rfl (fun ls hl => ?_)
  refine lv_aload_n hx hb d_Mo_plainStatement_5 rfl (lv_at hl 1 rfl) ?_
  refine lv_iconst (v := 1) hx hb d_Mo_plainStatement_6 (by decide) ?_
  refine mr_Vi (g := (f_Mo_isKind mo 1)) (As := [.int 1]) (rest := []) ⟨hx, hb, hml, hown, hts0⟩ (m_Mo_isKind l hlt dC dI cI cZ sa rk hm ma mo _ 1 (fun z => hg (by unfold f_Mo_plainStatement; rw [bndM_n z]))) hP hD hK hS hA hC hZ hnt hlocks L_1057 L_1059 L_61 L_90 L_1060 k_Mo_isKind ⟨(by show _ ≤ fr0 + 8; omega), (by show _ ≤ lo0 + 127; omega)⟩ rfl rfl hl.1 (Nat.le_of_ble_eq_true rfl) d_Mo_plainStatement_7 rfl (fun q z => by unfold f_Mo_plainStatement; rw [bndM_l z]) (fun r_1 mo_1 H locs w_1 hP hD hS => ?_)
  refine lv_istore (lv' := [(4, .int r_1), (3, .int (q_at mo)), (0, .ref hm), (1, .int depth), (2, .int own)]) hx hb d_Mo_plainStatement_10 hl (by decide) rfl (fun ls hl => ?_)
  refine lv_aload_n hx hb d_Mo_plainStatement_12 rfl (lv_at hl 2 rfl) ?_
  refine lv_iload_n hx hb d_Mo_plainStatement_13 rfl (lv_at hl 3 rfl) ?_
  refine lv_iconst (v := 1) hx hb d_Mo_plainStatement_14 (by decide) ?_
  refine lv_iadd hx hb d_Mo_plainStatement_15 ?_
  refine lv_iconst (v := 1) hx hb d_Mo_plainStatement_16 (by decide) ?_
  refine mr_Si (g := (K 0 [(depth + 1), 1] mo_1)) (As := [.ref hm, .int (depth + 1), .int 1]) (rest := []) ⟨hx, hb, hml, hown, hts0⟩ (hR0 mo_1 _ (depth + 1) 1 (fun z => hg (by unfold f_Mo_plainStatement; rw [bndM_r w_1, bndM_n z]))) hP hD hK hS hA hC hZ hnt hlocks L_1135 L_1136 L_90 L_1137 k_Mo_expression ⟨(by show _ ≤ fr0 + 8; omega), (by show _ ≤ lo0 + 127; omega)⟩ rfl rfl hl.1 (Nat.le_of_ble_eq_true rfl) d_Mo_plainStatement_17 rfl (fun q z => by unfold f_Mo_plainStatement; rw [bndM_r w_1, bndM_l z]) (fun r_2 mo_2 H locs w_2 hP hD hS => ?_)
  refine lv_istore (lv' := [(5, .int r_2), (4, .int r_1), (3, .int (q_at mo)), (0, .ref hm), (1, .int depth), (2, .int own)]) hx hb d_Mo_plainStatement_20 hl (by decide) rfl (fun ls hl => ?_)
  refine lv_iload hx hb d_Mo_plainStatement_22 (lv_at hl 1 rfl) ?_
  refine lv_if_eq (tgt := 76) hx hb d_Mo_plainStatement_24 (by decide) (fun c_3 => ?_) (fun c_3 => ?_)
  · refine lv_aload_n hx hb d_Mo_plainStatement_76 rfl (lv_at hl 3 rfl) ?_
    refine lv_iconst (v := 5) hx hb d_Mo_plainStatement_77 (by decide) ?_
    refine lv_iconst (v := 0) hx hb d_Mo_plainStatement_78 (by decide) ?_
    refine lv_iload_n hx hb d_Mo_plainStatement_79 rfl (lv_at hl 2 rfl) ?_
    refine mr_Vi (g := (f_Mo_make mo_2 5 0 (q_at mo))) (As := [.int 5, .int 0, .int (q_at mo)]) (rest := []) ⟨hx, hb, hml, hown, hts0⟩ (m_Mo_make l hlt dC dI cI cZ sa rk hm ma mo_2 _ 5 0 (q_at mo) (fun z => hg (by unfold f_Mo_plainStatement; rw [bndM_r w_1, bndM_r w_2, if_pos c_3, bndM_n z]))) hP hD hK hS hA hC hZ hnt hlocks L_1046 L_1048 L_59 L_90 L_1049 k_Mo_make ⟨(by show _ ≤ fr0 + 8; omega), (by show _ ≤ lo0 + 127; omega)⟩ rfl rfl hl.1 (Nat.le_of_ble_eq_true rfl) d_Mo_plainStatement_80 rfl (fun q z => by unfold f_Mo_plainStatement; rw [bndM_r w_1, bndM_r w_2, if_pos c_3, bndM_l z]) (fun r_4 mo_4 H locs w_4 hP hD hS => ?_)
    refine lv_istore (lv' := [(6, .int r_4), (5, .int r_2), (4, .int r_1), (3, .int (q_at mo)), (0, .ref hm), (1, .int depth), (2, .int own)]) hx hb d_Mo_plainStatement_83 hl (by decide) rfl (fun ls hl => ?_)
    refine lv_aload_n hx hb d_Mo_plainStatement_85 rfl (lv_at hl 4 rfl) ?_
    refine lv_iload hx hb d_Mo_plainStatement_86 (lv_at hl 0 rfl) ?_
    refine lv_iload hx hb d_Mo_plainStatement_88 (lv_at hl 1 rfl) ?_
    refine mr_Vv (g := (f_Mo_hang mo_4 r_4 r_2)) (As := [.int r_4, .int r_2]) (rest := []) ⟨hx, hb, hml, hown, hts0⟩ (m_Mo_hang l hlt dC dI cI cZ sa rk hm ma mo_4 _ r_4 r_2 (fun z => hg (by unfold f_Mo_plainStatement; rw [bndM_r w_1, bndM_r w_2, if_pos c_3, bndM_r w_4, bndM_n z]))) hP hD hK hS hA hC hZ hnt hlocks L_1115 L_1117 L_69 L_90 L_1118 k_Mo_hang ⟨(by show _ ≤ fr0 + 8; omega), (by show _ ≤ lo0 + 127; omega)⟩ rfl rfl hl.1 (Nat.le_of_ble_eq_true rfl) d_Mo_plainStatement_90 rfl (fun q z => by unfold f_Mo_plainStatement; rw [bndM_r w_1, bndM_r w_2, if_pos c_3, bndM_r w_4, bndM_l z]) (fun mo_5 H locs w_5 hP hD hS => ?_)
    refine lv_aload_n hx hb d_Mo_plainStatement_93 rfl (lv_at hl 4 rfl) ?_
    refine mr_Vv (g := (f_Mo_semicolon mo_5)) (As := []) (rest := []) ⟨hx, hb, hml, hown, hts0⟩ (m_Mo_semicolon l hlt dC dI cI cZ sa rk hm ma mo_5 _  (fun z => hg (by unfold f_Mo_plainStatement; rw [bndM_r w_1, bndM_r w_2, if_pos c_3, bndM_r w_4, bndM_r w_5, bndM_n z]))) hP hD hK hS hA hC hZ hnt hlocks L_1209 L_1211 L_79 L_90 L_1212 k_Mo_semicolon ⟨(by show _ ≤ fr0 + 8; omega), (by show _ ≤ lo0 + 127; omega)⟩ rfl rfl hl.1 (Nat.le_of_ble_eq_true rfl) d_Mo_plainStatement_94 rfl (fun q z => by unfold f_Mo_plainStatement; rw [bndM_r w_1, bndM_r w_2, if_pos c_3, bndM_r w_4, bndM_r w_5, bndM_l z]) (fun mo_6 H locs w_6 hP hD hS => ?_)
    refine lv_iload hx hb d_Mo_plainStatement_97 (lv_at hl 0 rfl) ?_
    exact mr_iret (v := r_4) (mo := mo_6) hx hb hr hlocks hK hP hD hS (by unfold f_Mo_plainStatement; rw [bndM_r w_1, bndM_r w_2, if_pos c_3, bndM_r w_4, bndM_r w_5, bndM_r w_6]) d_Mo_plainStatement_99
  · refine lv_aload_n hx hb d_Mo_plainStatement_27 rfl (lv_at hl 3 rfl) ?_
    refine va_get (D := (dC, dI)) (ci := 6) (v := .ref (ma 4)) (C := R_Mo) (T := T_Mo) (N := 31) hx hb hts u_Mo hown hK hP 0 rfl rfl 9 (by decide) (hts _ L_930) (fun _ h9 => h9) rfl d_Mo_plainStatement_28 ?_
    refine lv_iload hx hb d_Mo_plainStatement_31 (lv_at hl 0 rfl) ?_
    by_cases cb_7 : inb r_2 2600
    case neg => exact absurd (by unfold f_Mo_plainStatement; rw [bndM_r w_1, bndM_r w_2, if_neg c_3, if_neg cb_7]) hg
    refine va_iald (D := (dC, dI)) hx hb hK hP 5 0 rfl rfl cb_7 d_Mo_plainStatement_33 ?_
    refine lv_bipush (v := 28) hx hb d_Mo_plainStatement_34 (by decide) ?_
    refine lv_icmp_ne (tgt := 76) hx hb d_Mo_plainStatement_36 (by decide) (fun c_8 => ?_) (fun c_8 => ?_)
    · refine lv_aload_n hx hb d_Mo_plainStatement_76 rfl (lv_at hl 3 rfl) ?_
      refine lv_iconst (v := 5) hx hb d_Mo_plainStatement_77 (by decide) ?_
      refine lv_iconst (v := 0) hx hb d_Mo_plainStatement_78 (by decide) ?_
      refine lv_iload_n hx hb d_Mo_plainStatement_79 rfl (lv_at hl 2 rfl) ?_
      refine mr_Vi (g := (f_Mo_make mo_2 5 0 (q_at mo))) (As := [.int 5, .int 0, .int (q_at mo)]) (rest := []) ⟨hx, hb, hml, hown, hts0⟩ (m_Mo_make l hlt dC dI cI cZ sa rk hm ma mo_2 _ 5 0 (q_at mo) (fun z => hg (by unfold f_Mo_plainStatement; rw [bndM_r w_1, bndM_r w_2, if_neg c_3, if_pos cb_7, if_neg c_8, bndM_n z]))) hP hD hK hS hA hC hZ hnt hlocks L_1046 L_1048 L_59 L_90 L_1049 k_Mo_make ⟨(by show _ ≤ fr0 + 8; omega), (by show _ ≤ lo0 + 127; omega)⟩ rfl rfl hl.1 (Nat.le_of_ble_eq_true rfl) d_Mo_plainStatement_80 rfl (fun q z => by unfold f_Mo_plainStatement; rw [bndM_r w_1, bndM_r w_2, if_neg c_3, if_pos cb_7, if_neg c_8, bndM_l z]) (fun r_9 mo_9 H locs w_9 hP hD hS => ?_)
      refine lv_istore (lv' := [(6, .int r_9), (5, .int r_2), (4, .int r_1), (3, .int (q_at mo)), (0, .ref hm), (1, .int depth), (2, .int own)]) hx hb d_Mo_plainStatement_83 hl (by decide) rfl (fun ls hl => ?_)
      refine lv_aload_n hx hb d_Mo_plainStatement_85 rfl (lv_at hl 4 rfl) ?_
      refine lv_iload hx hb d_Mo_plainStatement_86 (lv_at hl 0 rfl) ?_
      refine lv_iload hx hb d_Mo_plainStatement_88 (lv_at hl 1 rfl) ?_
      refine mr_Vv (g := (f_Mo_hang mo_9 r_9 r_2)) (As := [.int r_9, .int r_2]) (rest := []) ⟨hx, hb, hml, hown, hts0⟩ (m_Mo_hang l hlt dC dI cI cZ sa rk hm ma mo_9 _ r_9 r_2 (fun z => hg (by unfold f_Mo_plainStatement; rw [bndM_r w_1, bndM_r w_2, if_neg c_3, if_pos cb_7, if_neg c_8, bndM_r w_9, bndM_n z]))) hP hD hK hS hA hC hZ hnt hlocks L_1115 L_1117 L_69 L_90 L_1118 k_Mo_hang ⟨(by show _ ≤ fr0 + 8; omega), (by show _ ≤ lo0 + 127; omega)⟩ rfl rfl hl.1 (Nat.le_of_ble_eq_true rfl) d_Mo_plainStatement_90 rfl (fun q z => by unfold f_Mo_plainStatement; rw [bndM_r w_1, bndM_r w_2, if_neg c_3, if_pos cb_7, if_neg c_8, bndM_r w_9, bndM_l z]) (fun mo_10 H locs w_10 hP hD hS => ?_)
      refine lv_aload_n hx hb d_Mo_plainStatement_93 rfl (lv_at hl 4 rfl) ?_
      refine mr_Vv (g := (f_Mo_semicolon mo_10)) (As := []) (rest := []) ⟨hx, hb, hml, hown, hts0⟩ (m_Mo_semicolon l hlt dC dI cI cZ sa rk hm ma mo_10 _  (fun z => hg (by unfold f_Mo_plainStatement; rw [bndM_r w_1, bndM_r w_2, if_neg c_3, if_pos cb_7, if_neg c_8, bndM_r w_9, bndM_r w_10, bndM_n z]))) hP hD hK hS hA hC hZ hnt hlocks L_1209 L_1211 L_79 L_90 L_1212 k_Mo_semicolon ⟨(by show _ ≤ fr0 + 8; omega), (by show _ ≤ lo0 + 127; omega)⟩ rfl rfl hl.1 (Nat.le_of_ble_eq_true rfl) d_Mo_plainStatement_94 rfl (fun q z => by unfold f_Mo_plainStatement; rw [bndM_r w_1, bndM_r w_2, if_neg c_3, if_pos cb_7, if_neg c_8, bndM_r w_9, bndM_r w_10, bndM_l z]) (fun mo_11 H locs w_11 hP hD hS => ?_)
      refine lv_iload hx hb d_Mo_plainStatement_97 (lv_at hl 0 rfl) ?_
      exact mr_iret (v := r_9) (mo := mo_11) hx hb hr hlocks hK hP hD hS (by unfold f_Mo_plainStatement; rw [bndM_r w_1, bndM_r w_2, if_neg c_3, if_pos cb_7, if_neg c_8, bndM_r w_9, bndM_r w_10, bndM_r w_11]) d_Mo_plainStatement_99
    · refine lv_aload_n hx hb d_Mo_plainStatement_39 rfl (lv_at hl 3 rfl) ?_
      refine va_get (D := (dC, dI)) (ci := 6) (v := .int (q_at mo_2)) (C := R_Mo) (T := T_Mo) (N := 31) hx hb hts u_Mo hown hK hP 0 rfl rfl 6 (by decide) (hts _ L_927) (fun _ h9 => h9) rfl d_Mo_plainStatement_40 ?_
      refine lv_iload_n hx hb d_Mo_plainStatement_43 rfl (lv_at hl 2 rfl) ?_
      refine lv_iconst (v := 1) hx hb d_Mo_plainStatement_44 (by decide) ?_
      refine lv_iadd hx hb d_Mo_plainStatement_45 ?_
      refine lv_icmp_ne (tgt := 76) hx hb d_Mo_plainStatement_46 (by decide) (fun c_12 => ?_) (fun c_12 => ?_)
      · refine lv_aload_n hx hb d_Mo_plainStatement_76 rfl (lv_at hl 3 rfl) ?_
        refine lv_iconst (v := 5) hx hb d_Mo_plainStatement_77 (by decide) ?_
        refine lv_iconst (v := 0) hx hb d_Mo_plainStatement_78 (by decide) ?_
        refine lv_iload_n hx hb d_Mo_plainStatement_79 rfl (lv_at hl 2 rfl) ?_
        refine mr_Vi (g := (f_Mo_make mo_2 5 0 (q_at mo))) (As := [.int 5, .int 0, .int (q_at mo)]) (rest := []) ⟨hx, hb, hml, hown, hts0⟩ (m_Mo_make l hlt dC dI cI cZ sa rk hm ma mo_2 _ 5 0 (q_at mo) (fun z => hg (by unfold f_Mo_plainStatement; rw [bndM_r w_1, bndM_r w_2, if_neg c_3, if_pos cb_7, if_pos c_8, if_neg c_12, bndM_n z]))) hP hD hK hS hA hC hZ hnt hlocks L_1046 L_1048 L_59 L_90 L_1049 k_Mo_make ⟨(by show _ ≤ fr0 + 8; omega), (by show _ ≤ lo0 + 127; omega)⟩ rfl rfl hl.1 (Nat.le_of_ble_eq_true rfl) d_Mo_plainStatement_80 rfl (fun q z => by unfold f_Mo_plainStatement; rw [bndM_r w_1, bndM_r w_2, if_neg c_3, if_pos cb_7, if_pos c_8, if_neg c_12, bndM_l z]) (fun r_13 mo_13 H locs w_13 hP hD hS => ?_)
        refine lv_istore (lv' := [(6, .int r_13), (5, .int r_2), (4, .int r_1), (3, .int (q_at mo)), (0, .ref hm), (1, .int depth), (2, .int own)]) hx hb d_Mo_plainStatement_83 hl (by decide) rfl (fun ls hl => ?_)
        refine lv_aload_n hx hb d_Mo_plainStatement_85 rfl (lv_at hl 4 rfl) ?_
        refine lv_iload hx hb d_Mo_plainStatement_86 (lv_at hl 0 rfl) ?_
        refine lv_iload hx hb d_Mo_plainStatement_88 (lv_at hl 1 rfl) ?_
        refine mr_Vv (g := (f_Mo_hang mo_13 r_13 r_2)) (As := [.int r_13, .int r_2]) (rest := []) ⟨hx, hb, hml, hown, hts0⟩ (m_Mo_hang l hlt dC dI cI cZ sa rk hm ma mo_13 _ r_13 r_2 (fun z => hg (by unfold f_Mo_plainStatement; rw [bndM_r w_1, bndM_r w_2, if_neg c_3, if_pos cb_7, if_pos c_8, if_neg c_12, bndM_r w_13, bndM_n z]))) hP hD hK hS hA hC hZ hnt hlocks L_1115 L_1117 L_69 L_90 L_1118 k_Mo_hang ⟨(by show _ ≤ fr0 + 8; omega), (by show _ ≤ lo0 + 127; omega)⟩ rfl rfl hl.1 (Nat.le_of_ble_eq_true rfl) d_Mo_plainStatement_90 rfl (fun q z => by unfold f_Mo_plainStatement; rw [bndM_r w_1, bndM_r w_2, if_neg c_3, if_pos cb_7, if_pos c_8, if_neg c_12, bndM_r w_13, bndM_l z]) (fun mo_14 H locs w_14 hP hD hS => ?_)
        refine lv_aload_n hx hb d_Mo_plainStatement_93 rfl (lv_at hl 4 rfl) ?_
        refine mr_Vv (g := (f_Mo_semicolon mo_14)) (As := []) (rest := []) ⟨hx, hb, hml, hown, hts0⟩ (m_Mo_semicolon l hlt dC dI cI cZ sa rk hm ma mo_14 _  (fun z => hg (by unfold f_Mo_plainStatement; rw [bndM_r w_1, bndM_r w_2, if_neg c_3, if_pos cb_7, if_pos c_8, if_neg c_12, bndM_r w_13, bndM_r w_14, bndM_n z]))) hP hD hK hS hA hC hZ hnt hlocks L_1209 L_1211 L_79 L_90 L_1212 k_Mo_semicolon ⟨(by show _ ≤ fr0 + 8; omega), (by show _ ≤ lo0 + 127; omega)⟩ rfl rfl hl.1 (Nat.le_of_ble_eq_true rfl) d_Mo_plainStatement_94 rfl (fun q z => by unfold f_Mo_plainStatement; rw [bndM_r w_1, bndM_r w_2, if_neg c_3, if_pos cb_7, if_pos c_8, if_neg c_12, bndM_r w_13, bndM_r w_14, bndM_l z]) (fun mo_15 H locs w_15 hP hD hS => ?_)
        refine lv_iload hx hb d_Mo_plainStatement_97 (lv_at hl 0 rfl) ?_
        exact mr_iret (v := r_13) (mo := mo_15) hx hb hr hlocks hK hP hD hS (by unfold f_Mo_plainStatement; rw [bndM_r w_1, bndM_r w_2, if_neg c_3, if_pos cb_7, if_pos c_8, if_neg c_12, bndM_r w_13, bndM_r w_14, bndM_r w_15]) d_Mo_plainStatement_99
      · refine lv_aload_n hx hb d_Mo_plainStatement_49 rfl (lv_at hl 3 rfl) ?_
        refine lv_bipush (v := 70) hx hb d_Mo_plainStatement_50 (by decide) ?_
        refine mr_Vi (g := (f_Mo_isSign mo_2 70)) (As := [.int 70]) (rest := []) ⟨hx, hb, hml, hown, hts0⟩ (m_Mo_isSign l hlt dC dI cI cZ sa rk hm ma mo_2 _ 70 (fun z => hg (by unfold f_Mo_plainStatement; rw [bndM_r w_1, bndM_r w_2, if_neg c_3, if_pos cb_7, if_pos c_8, if_pos c_12, bndM_n z]))) hP hD hK hS hA hC hZ hnt hlocks L_1053 L_1055 L_60 L_90 L_1056 k_Mo_isSign ⟨(by show _ ≤ fr0 + 8; omega), (by show _ ≤ lo0 + 127; omega)⟩ rfl rfl hl.1 (Nat.le_of_ble_eq_true rfl) d_Mo_plainStatement_52 rfl (fun q z => by unfold f_Mo_plainStatement; rw [bndM_r w_1, bndM_r w_2, if_neg c_3, if_pos cb_7, if_pos c_8, if_pos c_12, bndM_l z]) (fun r_16 mo_16 H locs w_16 hP hD hS => ?_)
        refine lv_if_eq (tgt := 76) hx hb d_Mo_plainStatement_55 (by decide) (fun c_17 => ?_) (fun c_17 => ?_)
        · refine lv_aload_n hx hb d_Mo_plainStatement_76 rfl (lv_at hl 3 rfl) ?_
          refine lv_iconst (v := 5) hx hb d_Mo_plainStatement_77 (by decide) ?_
          refine lv_iconst (v := 0) hx hb d_Mo_plainStatement_78 (by decide) ?_
          refine lv_iload_n hx hb d_Mo_plainStatement_79 rfl (lv_at hl 2 rfl) ?_
          refine mr_Vi (g := (f_Mo_make mo_16 5 0 (q_at mo))) (As := [.int 5, .int 0, .int (q_at mo)]) (rest := []) ⟨hx, hb, hml, hown, hts0⟩ (m_Mo_make l hlt dC dI cI cZ sa rk hm ma mo_16 _ 5 0 (q_at mo) (fun z => hg (by unfold f_Mo_plainStatement; rw [bndM_r w_1, bndM_r w_2, if_neg c_3, if_pos cb_7, if_pos c_8, if_pos c_12, bndM_r w_16, if_pos c_17, bndM_n z]))) hP hD hK hS hA hC hZ hnt hlocks L_1046 L_1048 L_59 L_90 L_1049 k_Mo_make ⟨(by show _ ≤ fr0 + 8; omega), (by show _ ≤ lo0 + 127; omega)⟩ rfl rfl hl.1 (Nat.le_of_ble_eq_true rfl) d_Mo_plainStatement_80 rfl (fun q z => by unfold f_Mo_plainStatement; rw [bndM_r w_1, bndM_r w_2, if_neg c_3, if_pos cb_7, if_pos c_8, if_pos c_12, bndM_r w_16, if_pos c_17, bndM_l z]) (fun r_18 mo_18 H locs w_18 hP hD hS => ?_)
          refine lv_istore (lv' := [(6, .int r_18), (5, .int r_2), (4, .int r_1), (3, .int (q_at mo)), (0, .ref hm), (1, .int depth), (2, .int own)]) hx hb d_Mo_plainStatement_83 hl (by decide) rfl (fun ls hl => ?_)
          refine lv_aload_n hx hb d_Mo_plainStatement_85 rfl (lv_at hl 4 rfl) ?_
          refine lv_iload hx hb d_Mo_plainStatement_86 (lv_at hl 0 rfl) ?_
          refine lv_iload hx hb d_Mo_plainStatement_88 (lv_at hl 1 rfl) ?_
          refine mr_Vv (g := (f_Mo_hang mo_18 r_18 r_2)) (As := [.int r_18, .int r_2]) (rest := []) ⟨hx, hb, hml, hown, hts0⟩ (m_Mo_hang l hlt dC dI cI cZ sa rk hm ma mo_18 _ r_18 r_2 (fun z => hg (by unfold f_Mo_plainStatement; rw [bndM_r w_1, bndM_r w_2, if_neg c_3, if_pos cb_7, if_pos c_8, if_pos c_12, bndM_r w_16, if_pos c_17, bndM_r w_18, bndM_n z]))) hP hD hK hS hA hC hZ hnt hlocks L_1115 L_1117 L_69 L_90 L_1118 k_Mo_hang ⟨(by show _ ≤ fr0 + 8; omega), (by show _ ≤ lo0 + 127; omega)⟩ rfl rfl hl.1 (Nat.le_of_ble_eq_true rfl) d_Mo_plainStatement_90 rfl (fun q z => by unfold f_Mo_plainStatement; rw [bndM_r w_1, bndM_r w_2, if_neg c_3, if_pos cb_7, if_pos c_8, if_pos c_12, bndM_r w_16, if_pos c_17, bndM_r w_18, bndM_l z]) (fun mo_19 H locs w_19 hP hD hS => ?_)
          refine lv_aload_n hx hb d_Mo_plainStatement_93 rfl (lv_at hl 4 rfl) ?_
          refine mr_Vv (g := (f_Mo_semicolon mo_19)) (As := []) (rest := []) ⟨hx, hb, hml, hown, hts0⟩ (m_Mo_semicolon l hlt dC dI cI cZ sa rk hm ma mo_19 _  (fun z => hg (by unfold f_Mo_plainStatement; rw [bndM_r w_1, bndM_r w_2, if_neg c_3, if_pos cb_7, if_pos c_8, if_pos c_12, bndM_r w_16, if_pos c_17, bndM_r w_18, bndM_r w_19, bndM_n z]))) hP hD hK hS hA hC hZ hnt hlocks L_1209 L_1211 L_79 L_90 L_1212 k_Mo_semicolon ⟨(by show _ ≤ fr0 + 8; omega), (by show _ ≤ lo0 + 127; omega)⟩ rfl rfl hl.1 (Nat.le_of_ble_eq_true rfl) d_Mo_plainStatement_94 rfl (fun q z => by unfold f_Mo_plainStatement; rw [bndM_r w_1, bndM_r w_2, if_neg c_3, if_pos cb_7, if_pos c_8, if_pos c_12, bndM_r w_16, if_pos c_17, bndM_r w_18, bndM_r w_19, bndM_l z]) (fun mo_20 H locs w_20 hP hD hS => ?_)
          refine lv_iload hx hb d_Mo_plainStatement_97 (lv_at hl 0 rfl) ?_
          exact mr_iret (v := r_18) (mo := mo_20) hx hb hr hlocks hK hP hD hS (by unfold f_Mo_plainStatement; rw [bndM_r w_1, bndM_r w_2, if_neg c_3, if_pos cb_7, if_pos c_8, if_pos c_12, bndM_r w_16, if_pos c_17, bndM_r w_18, bndM_r w_19, bndM_r w_20]) d_Mo_plainStatement_99
        · refine lv_aload_n hx hb d_Mo_plainStatement_58 rfl (lv_at hl 3 rfl) ?_
          refine lv_dup hx hb d_Mo_plainStatement_59 rfl ?_
          refine va_get (D := (dC, dI)) (ci := 6) (v := .int (q_at mo_16)) (C := R_Mo) (T := T_Mo) (N := 31) hx hb hts u_Mo hown hK hP 0 rfl rfl 6 (by decide) (hts _ L_927) (fun _ h9 => h9) rfl d_Mo_plainStatement_60 ?_
          refine lv_iconst (v := 1) hx hb d_Mo_plainStatement_63 (by decide) ?_
          refine lv_iadd hx hb d_Mo_plainStatement_64 ?_
          refine va_put (D := (dC, dI)) (ci := 6) (v := .int ((q_at mo_16) + 1)) (ty := .int) (C := R_Mo) (T := T_Mo) (N := 31) hx hb hts u_Mo ty_Mo tk_Mo nm_Mo hown hK hP hD hS 0 rfl rfl 6 (by decide) (hts _ L_927) (fun _ h9 => h9) rfl (by decide +kernel) rfl rfl (Nat.le_of_ble_eq_true rfl) d_Mo_plainStatement_65 (fun H locs hP hD hS => ?_)
          have hP : va_P (dC, dI) cls (wM cI cZ hm ma (s_at mo_16 ((q_at mo_16) + 1))) H := hP
          have hD : va_D A (wM cI cZ hm ma (s_at mo_16 ((q_at mo_16) + 1))) := hD
          refine lv_aload_n hx hb d_Mo_plainStatement_68 rfl (lv_at hl 3 rfl) ?_
          refine lv_iload_n hx hb d_Mo_plainStatement_69 rfl (lv_at hl 4 rfl) ?_
          refine lv_iload_n hx hb d_Mo_plainStatement_70 rfl (lv_at hl 5 rfl) ?_
          refine lv_iload_n hx hb d_Mo_plainStatement_71 rfl (lv_at hl 2 rfl) ?_
          refine mr_Si (g := (f_Mo_labelled K (s_at mo_16 ((q_at mo_16) + 1)) depth own (q_at mo))) (As := [.ref hm, .int depth, .int own, .int (q_at mo)]) (rest := []) ⟨hx, hb, hml, hown, hts0⟩ (m_Mo_labelled l hlt dC dI cI cZ sa rk hm ma fr0 lo0 K hR0 hR1 hR2 hR3 hR4 hR5 hR6 hR7 (s_at mo_16 ((q_at mo_16) + 1)) _ depth own (q_at mo) (fun z => hg (by unfold f_Mo_plainStatement; rw [bndM_r w_1, bndM_r w_2, if_neg c_3, if_pos cb_7, if_pos c_8, if_pos c_12, bndM_r w_16, if_neg c_17, bndM_n z]))) hP hD hK hS hA hC hZ hnt hlocks L_1206 L_1207 L_90 L_1208 k_Mo_labelled ⟨(by show _ ≤ fr0 + 8; omega), (by show _ ≤ lo0 + 127; omega)⟩ rfl rfl hl.1 (Nat.le_of_ble_eq_true rfl) d_Mo_plainStatement_72 rfl (fun q z => by unfold f_Mo_plainStatement; rw [bndM_r w_1, bndM_r w_2, if_neg c_3, if_pos cb_7, if_pos c_8, if_pos c_12, bndM_r w_16, if_neg c_17, bndM_l z]) (fun r_21 mo_21 H locs w_21 hP hD hS => ?_)
          exact mr_iret (v := r_21) (mo := mo_21) hx hb hr hlocks hK hP hD hS (by unfold f_Mo_plainStatement; rw [bndM_r w_1, bndM_r w_2, if_neg c_3, if_pos cb_7, if_pos c_8, if_pos c_12, bndM_r w_16, if_neg c_17, bndM_r w_21]) d_Mo_plainStatement_75
def f_Mo_declarations_L6 (K : Nat → List Int32 → MO → Rm) (node : Int32) (depth : Int32) (inn : Int32) : Nat → Int32 → Int32 → MO → Rm
  | 0, _, _, _ => none
  | fu_1 + 1, x4, x5, sx_1 => (if x5 = 0 then (some (.inr (x4, sx_1))) else (bndM (f_Mo_declared sx_1) (fun r_3 mo_3 => (bndM (f_Mo_make mo_3 3 r_3 (q_at sx_1)) (fun r_4 mo_4 => (if (q_loose sx_1) = 0 ∨ (q_loose sx_1) = 1 then (bndM (f_Mo_hang (s_loose mo_4 (q_loose sx_1)) node r_4) (fun _ mo_6 => (bndM (f_Mo_isSign mo_6 30) (fun r_7 mo_7 => (if r_7 = 0 then (bndM (f_Mo_isSign mo_7 68) (fun r_9 mo_9 => (if r_9 = 0 then (f_Mo_declarations_L6 K node depth inn fu_1 (x4 + 1) r_9 mo_9) else (f_Mo_declarations_L6 K node depth inn fu_1 (x4 + 1) r_9 (s_at mo_9 ((q_at mo_9) + 1)))))) else (bndM (K 1 [(depth + 1), inn] (s_at mo_7 ((q_at mo_7) + 1))) (fun r_11 mo_11 => (bndM (f_Mo_hang mo_11 r_4 r_11) (fun _ mo_12 => (bndM (f_Mo_isSign mo_12 68) (fun r_13 mo_13 => (if r_13 = 0 then (f_Mo_declarations_L6 K node depth inn fu_1 (x4 + 1) r_13 mo_13) else (f_Mo_declarations_L6 K node depth inn fu_1 (x4 + 1) r_13 (s_at mo_13 ((q_at mo_13) + 1))))))))))))))) else none))))))
def f_Mo_declarations (K : Nat → List Int32 → MO → Rm) (mo : MO) (node : Int32) (depth : Int32) (inn : Int32) : Rm := (bndM (f_Mo_declarations_L6 K node depth inn 5000 0 1 mo) (fun rv_1 se_1 => (some (.inr (rv_1, se_1)))))
set_option maxRecDepth 100000 in
set_option maxHeartbeats 4000000 in
theorem m_Mo_declarations (l : Launch) (hlt : l.stackTraces = false) (dC : Nat → ClassId) (dI : Nat → Nat → Nat) (cI cZ : ClassId) (sa rk hm : Nat) (ma : Nat → Nat) (fr0 lo0 : Nat) (K : Nat → List Int32 → MO → Rm) (hR0 : ∀ (mo : MO) (sz : Nat) (p0 p1 : Int32), K 0 [p0, p1] mo ≠ none → cXi l y_Mo_expression c_Mo_expression 5 .int fr0 lo0 (dC, dI) cI cZ sa rk hm ma mo sz [.ref hm, .int p0, .int p1] (K 0 [p0, p1] mo)) (hR1 : ∀ (mo : MO) (sz : Nat) (p0 p1 : Int32), K 1 [p0, p1] mo ≠ none → cXi l y_Mo_assignment c_Mo_assignment 5 .int fr0 lo0 (dC, dI) cI cZ sa rk hm ma mo sz [.ref hm, .int p0, .int p1] (K 1 [p0, p1] mo)) (hR2 : ∀ (mo : MO) (sz : Nat) (p0 p1 p2 : Int32), K 2 [p0, p1, p2] mo ≠ none → cXi l y_Mo_binary c_Mo_binary 7 .int fr0 lo0 (dC, dI) cI cZ sa rk hm ma mo sz [.ref hm, .int p0, .int p1, .int p2] (K 2 [p0, p1, p2] mo)) (hR3 : ∀ (mo : MO) (sz : Nat) (p0 : Int32), K 3 [p0] mo ≠ none → cXi l y_Mo_unary c_Mo_unary 5 .int fr0 lo0 (dC, dI) cI cZ sa rk hm ma mo sz [.ref hm, .int p0] (K 3 [p0] mo)) (hR4 : ∀ (mo : MO) (sz : Nat) (p0 p1 : Int32), K 4 [p0, p1] mo ≠ none → cXi l y_Mo_member c_Mo_member 6 .int fr0 lo0 (dC, dI) cI cZ sa rk hm ma mo sz [.ref hm, .int p0, .int p1] (K 4 [p0, p1] mo)) (hR5 : ∀ (mo : MO) (sz : Nat) (p0 p1 : Int32), K 5 [p0, p1] mo ≠ none → cXi l y_Mo_statement c_Mo_statement 3 .int fr0 lo0 (dC, dI) cI cZ sa rk hm ma mo sz [.ref hm, .int p0, .int p1] (K 5 [p0, p1] mo)) (hR6 : ∀ (mo : MO) (sz : Nat) (p0 p1 p2 : Int32), K 6 [p0, p1, p2] mo ≠ none → cXv l y_Mo_statements c_Mo_statements 8 fr0 lo0 (dC, dI) cI cZ sa rk hm ma mo sz [.ref hm, .int p0, .int p1, .int p2] (K 6 [p0, p1, p2] mo)) (hR7 : ∀ (mo : MO) (sz : Nat) (p0 : Int32), K 7 [p0] mo ≠ none → cXi l y_Mo_block c_Mo_block 4 .int fr0 lo0 (dC, dI) cI cZ sa rk hm ma mo sz [.ref hm, .int p0] (K 7 [p0] mo)) (mo : MO) (sz : Nat) (node : Int32) (depth : Int32) (inn : Int32) (hg : (f_Mo_declarations K mo node depth inn) ≠ none) : cXi l y_Mo_declarations c_Mo_declarations 9 .int (fr0 + 9) (lo0 + 144) (dC, dI) cI cZ sa rk hm ma mo sz [.ref hm, .int node, .int depth, .int inn] (f_Mo_declarations K mo node depth inn) := by
  refine vx_ofW (cc := c_Mo_declarations) (maxL := 9) (ret := (some .int)) (by decide) rfl ?_
  intro p e s m args below meth c s₁ B hml hnt hv
  obtain ⟨rfl, hsz, hP, hK, hD0, hC, hZ⟩ := hv
  have hx := B.exec
  have hb := B.bytes
  have hr := B.returns
  have hts0 := atoms_spec (ws := wy y_Mo_declarations c_Mo_declarations 9 (some .int)) B.pre
  have hts := htsL hts0
  have hown : s.vm.findClass R_Mo = some m.cls := findClass_of_methodNamed B.named
  have hlocks := B.notSynchronized
  subst hsz
  have hD := hD0.self (sz := s.heap.size)
  generalize hAe : va_A (wM cI cZ hm ma mo) s.heap.size = A at hD hZ ⊢
  have hA : ∀ q : Nat, s.heap.size ≤ q → A q := fun q h => by rw [← hAe]; exact Or.inr h
  have hS : va_S A s.heap s.heap [] := va_S.rf
  have hl := lv_entry ([.ref hm, .int node, .int depth, .int inn]) (n := 9) (Nat.le_of_ble_eq_true rfl)
  rw [lg_entry_eq]
  generalize (lg_sl ([.ref hm, .int node, .int depth, .int inn]) ++ List.replicate (9 - (lg_sl ([.ref hm, .int node, .int depth, .int inn])).length) Slot.unset).toArray = ls at hl ⊢
  have hl : lv_has ls 9 [(0, .ref hm), (1, .int node), (2, .int depth), (3, .int inn)] := hl
  refine lv_iconst (v := 0) hx hb d_Mo_declarations_0 (by decide) ?_
  refine lv_istore (lv' := [(4, .int 0), (0, .ref hm), (1, .int node), (2, .int depth), (3, .int inn)]) hx hb d_Mo_declarations_1 hl (by decide) rfl (fun ls hl => ?_)
  refine lv_iconst (v := 1) hx hb d_Mo_declarations_3 (by decide) ?_
  refine lv_istore (lv' := [(5, .int 1), (4, .int 0), (0, .ref hm), (1, .int node), (2, .int depth), (3, .int inn)]) hx hb d_Mo_declarations_4 hl (by decide) rfl (fun ls hl => ?_)
  obtain ⟨x_1, hx_1⟩ : ∃ z, f_Mo_declarations_L6 K node depth inn 5000 0 1 mo = z := ⟨_, rfl⟩
  have hn_1 : x_1 ≠ none := (fun z => hg (by unfold f_Mo_declarations; rw [bndM_n (hx_1.trans z)]))
  have hX_1 : ∀ q, x_1 = some (.inl q) → (f_Mo_declarations K mo node depth inn) = some (.inl q) := (fun q z => by unfold f_Mo_declarations; rw [bndM_l (hx_1.trans z)])
  have lp_1 : ∀ (fu : Nat) (x4 x5 : Int32) (sx_1 : MO) (H : Heap) (locs : List Loc) (ls : Array Slot), va_P (dC, dI) cls (wM cI cZ hm ma sx_1) H → va_D A (wM cI cZ hm ma sx_1) → va_S A s.heap H locs → lv_has ls 9 [(0, .ref hm), (1, .int node), (2, .int depth), (3, .int inn), (4, .int x4), (5, .int x5)] → x_1 = f_Mo_declarations_L6 K node depth inn fu x4 x5 sx_1 → W p l e (headSpec (wy y_Mo_declarations c_Mo_declarations 9 (some .int)) { frames := (fr0 + 9), cells := 1, slots := 6, locals := (lo0 + 144) }).room s m [.ref hm, .int node, .int depth, .int inn].toArray below meth c H locs 0 0 (vx_MQ below (va_Qi (fun r (u : MO) => (f_Mo_declarations K mo node depth inn) = some (.inr (r, u))) (wB (dC, dI) cI cZ A (wM cI cZ hm ma)) A) (xM (dC, dI) cI cZ hm ma (f_Mo_declarations K mo node depth inn) A) [.ref hm, .int node, .int depth, .int inn].toArray s (mcM (f_Mo_declarations K mo node depth inn)) (msM (f_Mo_declarations K mo node depth inn)) A) (F0 m 6 ls []) := by
    intro fu
    induction fu with
    | zero => intro x4 x5 sx_1 H locs ls hP hD hS hl hL_1; exact absurd (hL_1.trans rfl) hn_1
    | succ fu_1 ih_1 =>
      intro x4 x5 sx_1 H locs ls hP hD hS hl hL_1
      rw [f_Mo_declarations_L6] at hL_1
      refine lv_iload hx hb d_Mo_declarations_6 (lv_at hl 5 rfl) ?_
      refine lv_if_eq (tgt := 111) hx hb d_Mo_declarations_8 (by decide) (fun c_2 => ?_) (fun c_2 => ?_)
      · rw [if_pos c_2] at hL_1
        obtain ⟨se_1, hse_1⟩ : ∃ z : MO, z = sx_1 := ⟨_, rfl⟩
        have hP : va_P (dC, dI) cls (wM cI cZ hm ma se_1) H := by rw [hse_1]; exact hP
        have hD : va_D A (wM cI cZ hm ma se_1) := by rw [hse_1]; exact hD
        obtain ⟨rv_1, hrv_1⟩ : ∃ z : Int32, z = x4 := ⟨_, rfl⟩
        have we_1 : f_Mo_declarations_L6 K node depth inn 5000 0 1 mo = some (.inr (rv_1, se_1)) := by rw [hrv_1, hse_1]; exact hx_1.trans hL_1
        have hl : lv_has ls 9 [(0, .ref hm), (1, .int node), (2, .int depth), (3, .int inn), (4, .int rv_1)] := by rw [hrv_1]; exact lv_sub hl [0, 1, 2, 3, 4] rfl
        refine lv_iload hx hb d_Mo_declarations_111 (lv_at hl 4 rfl) ?_
        exact mr_iret (v := rv_1) (mo := se_1) hx hb hr hlocks hK hP hD hS (by unfold f_Mo_declarations; rw [bndM_r we_1]) d_Mo_declarations_113
      · rw [if_neg c_2] at hL_1
        refine lv_aload_n hx hb d_Mo_declarations_11 rfl (lv_at hl 0 rfl) ?_
        refine va_get (D := (dC, dI)) (ci := 6) (v := .int (q_at sx_1)) (C := R_Mo) (T := T_Mo) (N := 31) hx hb hts u_Mo hown hK hP 0 rfl rfl 6 (by decide) (hts _ L_927) (fun _ h9 => h9) rfl d_Mo_declarations_12 ?_
        refine lv_istore (lv' := [(6, .int (q_at sx_1)), (0, .ref hm), (1, .int node), (2, .int depth), (3, .int inn), (4, .int x4), (5, .int x5)]) hx hb d_Mo_declarations_15 hl (by decide) rfl (fun ls hl => ?_)
        refine lv_aload_n hx hb d_Mo_declarations_17 rfl (lv_at hl 1 rfl) ?_
        refine va_get (D := (dC, dI)) (ci := 6) (v := .int (q_loose sx_1)) (C := R_Mo) (T := T_Mo) (N := 31) hx hb hts u_Mo hown hK hP 0 rfl rfl 21 (by decide) (hts _ L_942) (fun _ h9 => h9) rfl d_Mo_declarations_18 ?_
        refine lv_istore (lv' := [(7, .int (q_loose sx_1)), (6, .int (q_at sx_1)), (0, .ref hm), (1, .int node), (2, .int depth), (3, .int inn), (4, .int x4), (5, .int x5)]) hx hb d_Mo_declarations_21 hl (by decide) rfl (fun ls hl => ?_)
        refine lv_aload_n hx hb d_Mo_declarations_23 rfl (lv_at hl 2 rfl) ?_
        refine lv_iconst (v := 3) hx hb d_Mo_declarations_24 (by decide) ?_
        refine lv_aload_n hx hb d_Mo_declarations_25 rfl (lv_at hl 2 rfl) ?_
        refine mr_Vi (g := (f_Mo_declared sx_1)) (As := []) (rest := [.int 3, .ref hm]) ⟨hx, hb, hml, hown, hts0⟩ (m_Mo_declared l hlt dC dI cI cZ sa rk hm ma sx_1 _  (fun z => hn_1 (hL_1.trans (bndM_n z)))) hP hD hK hS hA hC hZ hnt hlocks L_1099 L_1101 L_65 L_90 L_1102 k_Mo_declared ⟨(by show _ ≤ fr0 + 9; omega), (by show _ ≤ lo0 + 144; omega)⟩ rfl rfl hl.1 (Nat.le_of_ble_eq_true rfl) d_Mo_declarations_26 rfl (fun q z => hX_1 q (hL_1.trans (bndM_l z))) (fun r_3 mo_3 H locs w_3 hP hD hS => ?_)
        rw [bndM_r w_3] at hL_1
        refine lv_iload hx hb d_Mo_declarations_29 (lv_at hl 1 rfl) ?_
        refine mr_Vi (g := (f_Mo_make mo_3 3 r_3 (q_at sx_1))) (As := [.int 3, .int r_3, .int (q_at sx_1)]) (rest := []) ⟨hx, hb, hml, hown, hts0⟩ (m_Mo_make l hlt dC dI cI cZ sa rk hm ma mo_3 _ 3 r_3 (q_at sx_1) (fun z => hn_1 (hL_1.trans (bndM_n z)))) hP hD hK hS hA hC hZ hnt hlocks L_1046 L_1048 L_59 L_90 L_1049 k_Mo_make ⟨(by show _ ≤ fr0 + 9; omega), (by show _ ≤ lo0 + 144; omega)⟩ rfl rfl hl.1 (Nat.le_of_ble_eq_true rfl) d_Mo_declarations_31 rfl (fun q z => hX_1 q (hL_1.trans (bndM_l z))) (fun r_4 mo_4 H locs w_4 hP hD hS => ?_)
        rw [bndM_r w_4] at hL_1
        refine lv_istore (lv' := [(8, .int r_4), (7, .int (q_loose sx_1)), (6, .int (q_at sx_1)), (0, .ref hm), (1, .int node), (2, .int depth), (3, .int inn), (4, .int x4), (5, .int x5)]) hx hb d_Mo_declarations_34 hl (by decide) rfl (fun ls hl => ?_)
        refine lv_aload_n hx hb d_Mo_declarations_36 rfl (lv_at hl 3 rfl) ?_
        refine lv_iload hx hb d_Mo_declarations_37 (lv_at hl 1 rfl) ?_
        by_cases cb_5 : (q_loose sx_1) = 0 ∨ (q_loose sx_1) = 1
        case neg => exact absurd (hL_1.trans (if_neg cb_5)) hn_1
        rw [if_pos cb_5] at hL_1
        refine va_put (D := (dC, dI)) (ci := 6) (v := .int (q_loose sx_1)) (ty := .boolean) (C := R_Mo) (T := T_Mo) (N := 31) hx hb hts u_Mo ty_Mo tk_Mo nm_Mo hown hK hP hD hS 0 rfl rfl 21 (by decide) (hts _ L_942) (fun _ h9 => h9) rfl (by decide +kernel) (nB cb_5) (fB cb_5) (Nat.le_of_ble_eq_true rfl) d_Mo_declarations_39 (fun H locs hP hD hS => ?_)
        have hP : va_P (dC, dI) cls (wM cI cZ hm ma (s_loose mo_4 (q_loose sx_1))) H := hP
        have hD : va_D A (wM cI cZ hm ma (s_loose mo_4 (q_loose sx_1))) := hD
        refine lv_aload_n hx hb d_Mo_declarations_42 rfl (lv_at hl 3 rfl) ?_
        refine lv_iload_n hx hb d_Mo_declarations_43 rfl (lv_at hl 4 rfl) ?_
        refine lv_iload hx hb d_Mo_declarations_44 (lv_at hl 0 rfl) ?_
        refine mr_Vv (g := (f_Mo_hang (s_loose mo_4 (q_loose sx_1)) node r_4)) (As := [.int node, .int r_4]) (rest := []) ⟨hx, hb, hml, hown, hts0⟩ (m_Mo_hang l hlt dC dI cI cZ sa rk hm ma (s_loose mo_4 (q_loose sx_1)) _ node r_4 (fun z => hn_1 (hL_1.trans (bndM_n z)))) hP hD hK hS hA hC hZ hnt hlocks L_1115 L_1117 L_69 L_90 L_1118 k_Mo_hang ⟨(by show _ ≤ fr0 + 9; omega), (by show _ ≤ lo0 + 144; omega)⟩ rfl rfl hl.1 (Nat.le_of_ble_eq_true rfl) d_Mo_declarations_46 rfl (fun q z => hX_1 q (hL_1.trans (bndM_l z))) (fun mo_6 H locs w_6 hP hD hS => ?_)
        rw [bndM_r w_6] at hL_1
        refine lv_aload_n hx hb d_Mo_declarations_49 rfl (lv_at hl 3 rfl) ?_
        refine lv_bipush (v := 30) hx hb d_Mo_declarations_50 (by decide) ?_
        refine mr_Vi (g := (f_Mo_isSign mo_6 30)) (As := [.int 30]) (rest := []) ⟨hx, hb, hml, hown, hts0⟩ (m_Mo_isSign l hlt dC dI cI cZ sa rk hm ma mo_6 _ 30 (fun z => hn_1 (hL_1.trans (bndM_n z)))) hP hD hK hS hA hC hZ hnt hlocks L_1053 L_1055 L_60 L_90 L_1056 k_Mo_isSign ⟨(by show _ ≤ fr0 + 9; omega), (by show _ ≤ lo0 + 144; omega)⟩ rfl rfl hl.1 (Nat.le_of_ble_eq_true rfl) d_Mo_declarations_52 rfl (fun q z => hX_1 q (hL_1.trans (bndM_l z))) (fun r_7 mo_7 H locs w_7 hP hD hS => ?_)
        rw [bndM_r w_7] at hL_1
        refine lv_if_eq (tgt := 82) hx hb d_Mo_declarations_55 (by decide) (fun c_8 => ?_) (fun c_8 => ?_)
        · rw [if_pos c_8] at hL_1
          refine lv_iinc (v := (x4 + 1)) (lv' := [(4, .int (x4 + 1)), (8, .int r_4), (7, .int (q_loose sx_1)), (6, .int (q_at sx_1)), (0, .ref hm), (1, .int node), (2, .int depth), (3, .int inn), (5, .int x5)]) hx hb d_Mo_declarations_82 hl (k := 7) rfl rfl (by decide) rfl (fun ls hl => ?_)
          refine lv_aload_n hx hb d_Mo_declarations_85 rfl (lv_at hl 4 rfl) ?_
          refine lv_bipush (v := 68) hx hb d_Mo_declarations_86 (by decide) ?_
          refine mr_Vi (g := (f_Mo_isSign mo_7 68)) (As := [.int 68]) (rest := []) ⟨hx, hb, hml, hown, hts0⟩ (m_Mo_isSign l hlt dC dI cI cZ sa rk hm ma mo_7 _ 68 (fun z => hn_1 (hL_1.trans (bndM_n z)))) hP hD hK hS hA hC hZ hnt hlocks L_1053 L_1055 L_60 L_90 L_1056 k_Mo_isSign ⟨(by show _ ≤ fr0 + 9; omega), (by show _ ≤ lo0 + 144; omega)⟩ rfl rfl hl.1 (Nat.le_of_ble_eq_true rfl) d_Mo_declarations_88 rfl (fun q z => hX_1 q (hL_1.trans (bndM_l z))) (fun r_9 mo_9 H locs w_9 hP hD hS => ?_)
          rw [bndM_r w_9] at hL_1
          refine lv_istore (lv' := [(5, .int r_9), (4, .int (x4 + 1)), (8, .int r_4), (7, .int (q_loose sx_1)), (6, .int (q_at sx_1)), (0, .ref hm), (1, .int node), (2, .int depth), (3, .int inn)]) hx hb d_Mo_declarations_91 hl (by decide) rfl (fun ls hl => ?_)
          refine lv_iload hx hb d_Mo_declarations_93 (lv_at hl 0 rfl) ?_
          refine lv_if_eq (tgt := 108) hx hb d_Mo_declarations_95 (by decide) (fun c_10 => ?_) (fun c_10 => ?_)
          · rw [if_pos c_10] at hL_1
            refine lv_goto (tgt := 6) hx hb d_Mo_declarations_108 (by decide) ?_
            exact ih_1 (x4 + 1) r_9 mo_9 _ _ ls hP hD hS (lv_sub hl [5, 6, 7, 8, 1, 0] rfl) hL_1
          · rw [if_neg c_10] at hL_1
            refine lv_aload_n hx hb d_Mo_declarations_98 rfl (lv_at hl 5 rfl) ?_
            refine lv_dup hx hb d_Mo_declarations_99 rfl ?_
            refine va_get (D := (dC, dI)) (ci := 6) (v := .int (q_at mo_9)) (C := R_Mo) (T := T_Mo) (N := 31) hx hb hts u_Mo hown hK hP 0 rfl rfl 6 (by decide) (hts _ L_927) (fun _ h9 => h9) rfl d_Mo_declarations_100 ?_
            refine lv_iconst (v := 1) hx hb d_Mo_declarations_103 (by decide) ?_
            refine lv_iadd hx hb d_Mo_declarations_104 ?_
            refine va_put (D := (dC, dI)) (ci := 6) (v := .int ((q_at mo_9) + 1)) (ty := .int) (C := R_Mo) (T := T_Mo) (N := 31) hx hb hts u_Mo ty_Mo tk_Mo nm_Mo hown hK hP hD hS 0 rfl rfl 6 (by decide) (hts _ L_927) (fun _ h9 => h9) rfl (by decide +kernel) rfl rfl (Nat.le_of_ble_eq_true rfl) d_Mo_declarations_105 (fun H locs hP hD hS => ?_)
            have hP : va_P (dC, dI) cls (wM cI cZ hm ma (s_at mo_9 ((q_at mo_9) + 1))) H := hP
            have hD : va_D A (wM cI cZ hm ma (s_at mo_9 ((q_at mo_9) + 1))) := hD
            refine lv_goto (tgt := 6) hx hb d_Mo_declarations_108 (by decide) ?_
            exact ih_1 (x4 + 1) r_9 (s_at mo_9 ((q_at mo_9) + 1)) _ _ ls hP hD hS (lv_sub hl [5, 6, 7, 8, 1, 0] rfl) hL_1
        · rw [if_neg c_8] at hL_1
          refine lv_aload_n hx hb d_Mo_declarations_58 rfl (lv_at hl 3 rfl) ?_
          refine lv_dup hx hb d_Mo_declarations_59 rfl ?_
          refine va_get (D := (dC, dI)) (ci := 6) (v := .int (q_at mo_7)) (C := R_Mo) (T := T_Mo) (N := 31) hx hb hts u_Mo hown hK hP 0 rfl rfl 6 (by decide) (hts _ L_927) (fun _ h9 => h9) rfl d_Mo_declarations_60 ?_
          refine lv_iconst (v := 1) hx hb d_Mo_declarations_63 (by decide) ?_
          refine lv_iadd hx hb d_Mo_declarations_64 ?_
          refine va_put (D := (dC, dI)) (ci := 6) (v := .int ((q_at mo_7) + 1)) (ty := .int) (C := R_Mo) (T := T_Mo) (N := 31) hx hb hts u_Mo ty_Mo tk_Mo nm_Mo hown hK hP hD hS 0 rfl rfl 6 (by decide) (hts _ L_927) (fun _ h9 => h9) rfl (by decide +kernel) rfl rfl (Nat.le_of_ble_eq_true rfl) d_Mo_declarations_65 (fun H locs hP hD hS => ?_)
          have hP : va_P (dC, dI) cls (wM cI cZ hm ma (s_at mo_7 ((q_at mo_7) + 1))) H := hP
          have hD : va_D A (wM cI cZ hm ma (s_at mo_7 ((q_at mo_7) + 1))) := hD
          refine lv_aload_n hx hb d_Mo_declarations_68 rfl (lv_at hl 3 rfl) ?_
          refine lv_iload hx hb d_Mo_declarations_69 (lv_at hl 0 rfl) ?_
          refine lv_aload_n hx hb d_Mo_declarations_71 rfl (lv_at hl 3 rfl) ?_
          refine lv_iload_n hx hb d_Mo_declarations_72 rfl (lv_at hl 5 rfl) ?_
          refine lv_iconst (v := 1) hx hb d_Mo_declarations_73 (by decide) ?_
          refine lv_iadd hx hb d_Mo_declarations_74 ?_
          refine lv_iload_n hx hb d_Mo_declarations_75 rfl (lv_at hl 6 rfl) ?_
          refine mr_Si (g := (K 1 [(depth + 1), inn] (s_at mo_7 ((q_at mo_7) + 1)))) (As := [.ref hm, .int (depth + 1), .int inn]) (rest := [.int r_4, .ref hm]) ⟨hx, hb, hml, hown, hts0⟩ (hR1 (s_at mo_7 ((q_at mo_7) + 1)) _ (depth + 1) inn (fun z => hn_1 (hL_1.trans (bndM_n z)))) hP hD hK hS hA hC hZ hnt hlocks L_1138 L_1139 L_90 L_1140 k_Mo_assignment ⟨(by show _ ≤ fr0 + 9; omega), (by show _ ≤ lo0 + 144; omega)⟩ rfl rfl hl.1 (Nat.le_of_ble_eq_true rfl) d_Mo_declarations_76 rfl (fun q z => hX_1 q (hL_1.trans (bndM_l z))) (fun r_11 mo_11 H locs w_11 hP hD hS => ?_)
          rw [bndM_r w_11] at hL_1
          refine mr_Vv (g := (f_Mo_hang mo_11 r_4 r_11)) (As := [.int r_4, .int r_11]) (rest := []) ⟨hx, hb, hml, hown, hts0⟩ (m_Mo_hang l hlt dC dI cI cZ sa rk hm ma mo_11 _ r_4 r_11 (fun z => hn_1 (hL_1.trans (bndM_n z)))) hP hD hK hS hA hC hZ hnt hlocks L_1115 L_1117 L_69 L_90 L_1118 k_Mo_hang ⟨(by show _ ≤ fr0 + 9; omega), (by show _ ≤ lo0 + 144; omega)⟩ rfl rfl hl.1 (Nat.le_of_ble_eq_true rfl) d_Mo_declarations_79 rfl (fun q z => hX_1 q (hL_1.trans (bndM_l z))) (fun mo_12 H locs w_12 hP hD hS => ?_)
          rw [bndM_r w_12] at hL_1
          refine lv_iinc (v := (x4 + 1)) (lv' := [(4, .int (x4 + 1)), (8, .int r_4), (7, .int (q_loose sx_1)), (6, .int (q_at sx_1)), (0, .ref hm), (1, .int node), (2, .int depth), (3, .int inn), (5, .int x5)]) hx hb d_Mo_declarations_82 hl (k := 7) rfl rfl (by decide) rfl (fun ls hl => ?_)
          refine lv_aload_n hx hb d_Mo_declarations_85 rfl (lv_at hl 4 rfl) ?_
          refine lv_bipush (v := 68) hx hb d_Mo_declarations_86 (by decide) ?_
          refine mr_Vi (g := (f_Mo_isSign mo_12 68)) (As := [.int 68]) (rest := []) ⟨hx, hb, hml, hown, hts0⟩ (m_Mo_isSign l hlt dC dI cI cZ sa rk hm ma mo_12 _ 68 (fun z => hn_1 (hL_1.trans (bndM_n z)))) hP hD hK hS hA hC hZ hnt hlocks L_1053 L_1055 L_60 L_90 L_1056 k_Mo_isSign ⟨(by show _ ≤ fr0 + 9; omega), (by show _ ≤ lo0 + 144; omega)⟩ rfl rfl hl.1 (Nat.le_of_ble_eq_true rfl) d_Mo_declarations_88 rfl (fun q z => hX_1 q (hL_1.trans (bndM_l z))) (fun r_13 mo_13 H locs w_13 hP hD hS => ?_)
          rw [bndM_r w_13] at hL_1
          refine lv_istore (lv' := [(5, .int r_13), (4, .int (x4 + 1)), (8, .int r_4), (7, .int (q_loose sx_1)), (6, .int (q_at sx_1)), (0, .ref hm), (1, .int node), (2, .int depth), (3, .int inn)]) hx hb d_Mo_declarations_91 hl (by decide) rfl (fun ls hl => ?_)
          refine lv_iload hx hb d_Mo_declarations_93 (lv_at hl 0 rfl) ?_
          refine lv_if_eq (tgt := 108) hx hb d_Mo_declarations_95 (by decide) (fun c_14 => ?_) (fun c_14 => ?_)
          · rw [if_pos c_14] at hL_1
            refine lv_goto (tgt := 6) hx hb d_Mo_declarations_108 (by decide) ?_
            exact ih_1 (x4 + 1) r_13 mo_13 _ _ ls hP hD hS (lv_sub hl [5, 6, 7, 8, 1, 0] rfl) hL_1
          · rw [if_neg c_14] at hL_1
            refine lv_aload_n hx hb d_Mo_declarations_98 rfl (lv_at hl 5 rfl) ?_
            refine lv_dup hx hb d_Mo_declarations_99 rfl ?_
            refine va_get (D := (dC, dI)) (ci := 6) (v := .int (q_at mo_13)) (C := R_Mo) (T := T_Mo) (N := 31) hx hb hts u_Mo hown hK hP 0 rfl rfl 6 (by decide) (hts _ L_927) (fun _ h9 => h9) rfl d_Mo_declarations_100 ?_
            refine lv_iconst (v := 1) hx hb d_Mo_declarations_103 (by decide) ?_
            refine lv_iadd hx hb d_Mo_declarations_104 ?_
            refine va_put (D := (dC, dI)) (ci := 6) (v := .int ((q_at mo_13) + 1)) (ty := .int) (C := R_Mo) (T := T_Mo) (N := 31) hx hb hts u_Mo ty_Mo tk_Mo nm_Mo hown hK hP hD hS 0 rfl rfl 6 (by decide) (hts _ L_927) (fun _ h9 => h9) rfl (by decide +kernel) rfl rfl (Nat.le_of_ble_eq_true rfl) d_Mo_declarations_105 (fun H locs hP hD hS => ?_)
            have hP : va_P (dC, dI) cls (wM cI cZ hm ma (s_at mo_13 ((q_at mo_13) + 1))) H := hP
            have hD : va_D A (wM cI cZ hm ma (s_at mo_13 ((q_at mo_13) + 1))) := hD
            refine lv_goto (tgt := 6) hx hb d_Mo_declarations_108 (by decide) ?_
            exact ih_1 (x4 + 1) r_13 (s_at mo_13 ((q_at mo_13) + 1)) _ _ ls hP hD hS (lv_sub hl [5, 6, 7, 8, 1, 0] rfl) hL_1
  exact lp_1 5000 0 1 mo _ _ ls hP hD hS (lv_sub hl [2, 3, 4, 5, 1, 0] rfl) hx_1.symm
def f_Mo_variables (K : Nat → List Int32 → MO → Rm) (mo : MO) (depth : Int32) : Rm := (bndM (f_Mo_plain mo 2) (fun r_1 mo_1 => (bndM (f_Mo_declarations K mo_1 r_1 depth 1) (fun r_2 mo_2 => (bndM (f_Mo_semicolon mo_2) (fun _ mo_3 => (some (.inr (r_1, mo_3)))))))))
set_option maxRecDepth 100000 in
set_option maxHeartbeats 4000000 in
theorem m_Mo_variables (l : Launch) (hlt : l.stackTraces = false) (dC : Nat → ClassId) (dI : Nat → Nat → Nat) (cI cZ : ClassId) (sa rk hm : Nat) (ma : Nat → Nat) (fr0 lo0 : Nat) (K : Nat → List Int32 → MO → Rm) (hR0 : ∀ (mo : MO) (sz : Nat) (p0 p1 : Int32), K 0 [p0, p1] mo ≠ none → cXi l y_Mo_expression c_Mo_expression 5 .int fr0 lo0 (dC, dI) cI cZ sa rk hm ma mo sz [.ref hm, .int p0, .int p1] (K 0 [p0, p1] mo)) (hR1 : ∀ (mo : MO) (sz : Nat) (p0 p1 : Int32), K 1 [p0, p1] mo ≠ none → cXi l y_Mo_assignment c_Mo_assignment 5 .int fr0 lo0 (dC, dI) cI cZ sa rk hm ma mo sz [.ref hm, .int p0, .int p1] (K 1 [p0, p1] mo)) (hR2 : ∀ (mo : MO) (sz : Nat) (p0 p1 p2 : Int32), K 2 [p0, p1, p2] mo ≠ none → cXi l y_Mo_binary c_Mo_binary 7 .int fr0 lo0 (dC, dI) cI cZ sa rk hm ma mo sz [.ref hm, .int p0, .int p1, .int p2] (K 2 [p0, p1, p2] mo)) (hR3 : ∀ (mo : MO) (sz : Nat) (p0 : Int32), K 3 [p0] mo ≠ none → cXi l y_Mo_unary c_Mo_unary 5 .int fr0 lo0 (dC, dI) cI cZ sa rk hm ma mo sz [.ref hm, .int p0] (K 3 [p0] mo)) (hR4 : ∀ (mo : MO) (sz : Nat) (p0 p1 : Int32), K 4 [p0, p1] mo ≠ none → cXi l y_Mo_member c_Mo_member 6 .int fr0 lo0 (dC, dI) cI cZ sa rk hm ma mo sz [.ref hm, .int p0, .int p1] (K 4 [p0, p1] mo)) (hR5 : ∀ (mo : MO) (sz : Nat) (p0 p1 : Int32), K 5 [p0, p1] mo ≠ none → cXi l y_Mo_statement c_Mo_statement 3 .int fr0 lo0 (dC, dI) cI cZ sa rk hm ma mo sz [.ref hm, .int p0, .int p1] (K 5 [p0, p1] mo)) (hR6 : ∀ (mo : MO) (sz : Nat) (p0 p1 p2 : Int32), K 6 [p0, p1, p2] mo ≠ none → cXv l y_Mo_statements c_Mo_statements 8 fr0 lo0 (dC, dI) cI cZ sa rk hm ma mo sz [.ref hm, .int p0, .int p1, .int p2] (K 6 [p0, p1, p2] mo)) (hR7 : ∀ (mo : MO) (sz : Nat) (p0 : Int32), K 7 [p0] mo ≠ none → cXi l y_Mo_block c_Mo_block 4 .int fr0 lo0 (dC, dI) cI cZ sa rk hm ma mo sz [.ref hm, .int p0] (K 7 [p0] mo)) (mo : MO) (sz : Nat) (depth : Int32) (hg : (f_Mo_variables K mo depth) ≠ none) : cXi l y_Mo_variables c_Mo_variables 3 .int (fr0 + 10) (lo0 + 172) (dC, dI) cI cZ sa rk hm ma mo sz [.ref hm, .int depth] (f_Mo_variables K mo depth) := by
  refine vx_ofW (cc := c_Mo_variables) (maxL := 3) (ret := (some .int)) (by decide) rfl ?_
  intro p e s m args below meth c s₁ B hml hnt hv
  obtain ⟨rfl, hsz, hP, hK, hD0, hC, hZ⟩ := hv
  have hx := B.exec
  have hb := B.bytes
  have hr := B.returns
  have hts0 := atoms_spec (ws := wy y_Mo_variables c_Mo_variables 3 (some .int)) B.pre
  have hts := htsL hts0
  have hown : s.vm.findClass R_Mo = some m.cls := findClass_of_methodNamed B.named
  have hlocks := B.notSynchronized
  subst hsz
  have hD := hD0.self (sz := s.heap.size)
  generalize hAe : va_A (wM cI cZ hm ma mo) s.heap.size = A at hD hZ ⊢
  have hA : ∀ q : Nat, s.heap.size ≤ q → A q := fun q h => by rw [← hAe]; exact Or.inr h
  have hS : va_S A s.heap s.heap [] := va_S.rf
  have hl := lv_entry ([.ref hm, .int depth]) (n := 3) (Nat.le_of_ble_eq_true rfl)
  rw [lg_entry_eq]
  generalize (lg_sl ([.ref hm, .int depth]) ++ List.replicate (3 - (lg_sl ([.ref hm, .int depth])).length) Slot.unset).toArray = ls at hl ⊢
  have hl : lv_has ls 3 [(0, .ref hm), (1, .int depth)] := hl
  refine lv_aload_n hx hb d_Mo_variables_0 rfl (lv_at hl 0 rfl) ?_
  refine lv_iconst (v := 2) hx hb d_Mo_variables_1 (by decide) ?_
  refine mr_Vi (g := (f_Mo_plain mo 2)) (As := [.int 2]) (rest := []) ⟨hx, hb, hml, hown, hts0⟩ (m_Mo_plain l hlt dC dI cI cZ sa rk hm ma mo _ 2 (fun z => hg (by unfold f_Mo_variables; rw [bndM_n z]))) hP hD hK hS hA hC hZ hnt hlocks L_1128 L_1130 L_70 L_90 L_1131 k_Mo_plain ⟨(by show _ ≤ fr0 + 10; omega), (by show _ ≤ lo0 + 172; omega)⟩ rfl rfl hl.1 (Nat.le_of_ble_eq_true rfl) d_Mo_variables_2 rfl (fun q z => by unfold f_Mo_variables; rw [bndM_l z]) (fun r_1 mo_1 H locs w_1 hP hD hS => ?_)
  refine lv_istore_n (lv' := [(2, .int r_1), (0, .ref hm), (1, .int depth)]) hx hb d_Mo_variables_5 rfl hl (by decide) rfl (fun ls hl => ?_)
  refine lv_aload_n hx hb d_Mo_variables_6 rfl (lv_at hl 1 rfl) ?_
  refine lv_iload_n hx hb d_Mo_variables_7 rfl (lv_at hl 0 rfl) ?_
  refine lv_iload_n hx hb d_Mo_variables_8 rfl (lv_at hl 2 rfl) ?_
  refine lv_iconst (v := 1) hx hb d_Mo_variables_9 (by decide) ?_
  refine mr_Si (g := (f_Mo_declarations K mo_1 r_1 depth 1)) (As := [.ref hm, .int r_1, .int depth, .int 1]) (rest := []) ⟨hx, hb, hml, hown, hts0⟩ (m_Mo_declarations l hlt dC dI cI cZ sa rk hm ma fr0 lo0 K hR0 hR1 hR2 hR3 hR4 hR5 hR6 hR7 mo_1 _ r_1 depth 1 (fun z => hg (by unfold f_Mo_variables; rw [bndM_r w_1, bndM_n z]))) hP hD hK hS hA hC hZ hnt hlocks L_1231 L_1232 L_90 L_1233 k_Mo_declarations ⟨(by show _ ≤ fr0 + 10; omega), (by show _ ≤ lo0 + 172; omega)⟩ rfl rfl hl.1 (Nat.le_of_ble_eq_true rfl) d_Mo_variables_10 rfl (fun q z => by unfold f_Mo_variables; rw [bndM_r w_1, bndM_l z]) (fun r_2 mo_2 H locs w_2 hP hD hS => ?_)
  refine lv_pop hx hb d_Mo_variables_13 rfl ?_
  refine lv_aload_n hx hb d_Mo_variables_14 rfl (lv_at hl 1 rfl) ?_
  refine mr_Vv (g := (f_Mo_semicolon mo_2)) (As := []) (rest := []) ⟨hx, hb, hml, hown, hts0⟩ (m_Mo_semicolon l hlt dC dI cI cZ sa rk hm ma mo_2 _  (fun z => hg (by unfold f_Mo_variables; rw [bndM_r w_1, bndM_r w_2, bndM_n z]))) hP hD hK hS hA hC hZ hnt hlocks L_1209 L_1211 L_79 L_90 L_1212 k_Mo_semicolon ⟨(by show _ ≤ fr0 + 10; omega), (by show _ ≤ lo0 + 172; omega)⟩ rfl rfl hl.1 (Nat.le_of_ble_eq_true rfl) d_Mo_variables_15 rfl (fun q z => by unfold f_Mo_variables; rw [bndM_r w_1, bndM_r w_2, bndM_l z]) (fun mo_3 H locs w_3 hP hD hS => ?_)
  refine lv_iload_n hx hb d_Mo_variables_18 rfl (lv_at hl 0 rfl) ?_
  exact mr_iret (v := r_1) (mo := mo_3) hx hb hr hlocks hK hP hD hS (by unfold f_Mo_variables; rw [bndM_r w_1, bndM_r w_2, bndM_r w_3]) d_Mo_variables_19
def f_Mo_condition (K : Nat → List Int32 → MO → Rm) (mo : MO) (depth : Int32) : Rm := (bndM (f_Mo_plain mo 6) (fun r_1 mo_1 => (bndM (f_Mo_head K mo_1 depth) (fun r_2 mo_2 => (bndM (f_Mo_hang mo_2 r_1 r_2) (fun _ mo_3 => (bndM (K 5 [(depth + 1), (q_labels mo_3)] mo_3) (fun r_4 mo_4 => (bndM (f_Mo_hang mo_4 r_1 r_4) (fun _ mo_5 => (bndM (f_Mo_isWord mo_5 8) (fun r_6 mo_6 => (if r_6 = 0 then (some (.inr (r_1, mo_6))) else (bndM (K 5 [(depth + 1), (q_labels mo_6)] (s_at mo_6 ((q_at mo_6) + 1))) (fun r_8 mo_8 => (bndM (f_Mo_hang mo_8 r_1 r_8) (fun _ mo_9 => (some (.inr (r_1, mo_9))))))))))))))))))))
set_option maxRecDepth 100000 in
set_option maxHeartbeats 4000000 in
theorem m_Mo_condition (l : Launch) (hlt : l.stackTraces = false) (dC : Nat → ClassId) (dI : Nat → Nat → Nat) (cI cZ : ClassId) (sa rk hm : Nat) (ma : Nat → Nat) (fr0 lo0 : Nat) (K : Nat → List Int32 → MO → Rm) (hR0 : ∀ (mo : MO) (sz : Nat) (p0 p1 : Int32), K 0 [p0, p1] mo ≠ none → cXi l y_Mo_expression c_Mo_expression 5 .int fr0 lo0 (dC, dI) cI cZ sa rk hm ma mo sz [.ref hm, .int p0, .int p1] (K 0 [p0, p1] mo)) (hR1 : ∀ (mo : MO) (sz : Nat) (p0 p1 : Int32), K 1 [p0, p1] mo ≠ none → cXi l y_Mo_assignment c_Mo_assignment 5 .int fr0 lo0 (dC, dI) cI cZ sa rk hm ma mo sz [.ref hm, .int p0, .int p1] (K 1 [p0, p1] mo)) (hR2 : ∀ (mo : MO) (sz : Nat) (p0 p1 p2 : Int32), K 2 [p0, p1, p2] mo ≠ none → cXi l y_Mo_binary c_Mo_binary 7 .int fr0 lo0 (dC, dI) cI cZ sa rk hm ma mo sz [.ref hm, .int p0, .int p1, .int p2] (K 2 [p0, p1, p2] mo)) (hR3 : ∀ (mo : MO) (sz : Nat) (p0 : Int32), K 3 [p0] mo ≠ none → cXi l y_Mo_unary c_Mo_unary 5 .int fr0 lo0 (dC, dI) cI cZ sa rk hm ma mo sz [.ref hm, .int p0] (K 3 [p0] mo)) (hR4 : ∀ (mo : MO) (sz : Nat) (p0 p1 : Int32), K 4 [p0, p1] mo ≠ none → cXi l y_Mo_member c_Mo_member 6 .int fr0 lo0 (dC, dI) cI cZ sa rk hm ma mo sz [.ref hm, .int p0, .int p1] (K 4 [p0, p1] mo)) (hR5 : ∀ (mo : MO) (sz : Nat) (p0 p1 : Int32), K 5 [p0, p1] mo ≠ none → cXi l y_Mo_statement c_Mo_statement 3 .int fr0 lo0 (dC, dI) cI cZ sa rk hm ma mo sz [.ref hm, .int p0, .int p1] (K 5 [p0, p1] mo)) (hR6 : ∀ (mo : MO) (sz : Nat) (p0 p1 p2 : Int32), K 6 [p0, p1, p2] mo ≠ none → cXv l y_Mo_statements c_Mo_statements 8 fr0 lo0 (dC, dI) cI cZ sa rk hm ma mo sz [.ref hm, .int p0, .int p1, .int p2] (K 6 [p0, p1, p2] mo)) (hR7 : ∀ (mo : MO) (sz : Nat) (p0 : Int32), K 7 [p0] mo ≠ none → cXi l y_Mo_block c_Mo_block 4 .int fr0 lo0 (dC, dI) cI cZ sa rk hm ma mo sz [.ref hm, .int p0] (K 7 [p0] mo)) (mo : MO) (sz : Nat) (depth : Int32) (hg : (f_Mo_condition K mo depth) ≠ none) : cXi l y_Mo_condition c_Mo_condition 3 .int (fr0 + 9) (lo0 + 145) (dC, dI) cI cZ sa rk hm ma mo sz [.ref hm, .int depth] (f_Mo_condition K mo depth) := by
  refine vx_ofW (cc := c_Mo_condition) (maxL := 3) (ret := (some .int)) (by decide) rfl ?_
  intro p e s m args below meth c s₁ B hml hnt hv
  obtain ⟨rfl, hsz, hP, hK, hD0, hC, hZ⟩ := hv
  have hx := B.exec
  have hb := B.bytes
  have hr := B.returns
  have hts0 := atoms_spec (ws := wy y_Mo_condition c_Mo_condition 3 (some .int)) B.pre
  have hts := htsL hts0
  have hown : s.vm.findClass R_Mo = some m.cls := findClass_of_methodNamed B.named
  have hlocks := B.notSynchronized
  subst hsz
  have hD := hD0.self (sz := s.heap.size)
  generalize hAe : va_A (wM cI cZ hm ma mo) s.heap.size = A at hD hZ ⊢
  have hA : ∀ q : Nat, s.heap.size ≤ q → A q := fun q h => by rw [← hAe]; exact Or.inr h
  have hS : va_S A s.heap s.heap [] := va_S.rf
  have hl := lv_entry ([.ref hm, .int depth]) (n := 3) (Nat.le_of_ble_eq_true rfl)
  rw [lg_entry_eq]
  generalize (lg_sl ([.ref hm, .int depth]) ++ List.replicate (3 - (lg_sl ([.ref hm, .int depth])).length) Slot.unset).toArray = ls at hl ⊢
  have hl : lv_has ls 3 [(0, .ref hm), (1, .int depth)] := hl
  refine lv_aload_n hx hb d_Mo_condition_0 rfl (lv_at hl 0 rfl) ?_
  refine lv_bipush (v := 6) hx hb d_Mo_condition_1 (by decide) ?_
  refine mr_Vi (g := (f_Mo_plain mo 6)) (As := [.int 6]) (rest := []) ⟨hx, hb, hml, hown, hts0⟩ (m_Mo_plain l hlt dC dI cI cZ sa rk hm ma mo _ 6 (fun z => hg (by unfold f_Mo_condition; rw [bndM_n z]))) hP hD hK hS hA hC hZ hnt hlocks L_1128 L_1130 L_70 L_90 L_1131 k_Mo_plain ⟨(by show _ ≤ fr0 + 9; omega), (by show _ ≤ lo0 + 145; omega)⟩ rfl rfl hl.1 (Nat.le_of_ble_eq_true rfl) d_Mo_condition_3 rfl (fun q z => by unfold f_Mo_condition; rw [bndM_l z]) (fun r_1 mo_1 H locs w_1 hP hD hS => ?_)
  refine lv_istore_n (lv' := [(2, .int r_1), (0, .ref hm), (1, .int depth)]) hx hb d_Mo_condition_6 rfl hl (by decide) rfl (fun ls hl => ?_)
  refine lv_aload_n hx hb d_Mo_condition_7 rfl (lv_at hl 1 rfl) ?_
  refine lv_iload_n hx hb d_Mo_condition_8 rfl (lv_at hl 0 rfl) ?_
  refine lv_aload_n hx hb d_Mo_condition_9 rfl (lv_at hl 1 rfl) ?_
  refine lv_iload_n hx hb d_Mo_condition_10 rfl (lv_at hl 2 rfl) ?_
  refine mr_Si (g := (f_Mo_head K mo_1 depth)) (As := [.ref hm, .int depth]) (rest := [.int r_1, .ref hm]) ⟨hx, hb, hml, hown, hts0⟩ (m_Mo_head l hlt dC dI cI cZ sa rk hm ma fr0 lo0 K hR0 hR1 hR2 hR3 hR4 hR5 hR6 hR7 mo_1 _ depth (fun z => hg (by unfold f_Mo_condition; rw [bndM_r w_1, bndM_n z]))) hP hD hK hS hA hC hZ hnt hlocks L_1225 L_1226 L_90 L_1227 k_Mo_head ⟨(by show _ ≤ fr0 + 9; omega), (by show _ ≤ lo0 + 145; omega)⟩ rfl rfl hl.1 (Nat.le_of_ble_eq_true rfl) d_Mo_condition_11 rfl (fun q z => by unfold f_Mo_condition; rw [bndM_r w_1, bndM_l z]) (fun r_2 mo_2 H locs w_2 hP hD hS => ?_)
  refine mr_Vv (g := (f_Mo_hang mo_2 r_1 r_2)) (As := [.int r_1, .int r_2]) (rest := []) ⟨hx, hb, hml, hown, hts0⟩ (m_Mo_hang l hlt dC dI cI cZ sa rk hm ma mo_2 _ r_1 r_2 (fun z => hg (by unfold f_Mo_condition; rw [bndM_r w_1, bndM_r w_2, bndM_n z]))) hP hD hK hS hA hC hZ hnt hlocks L_1115 L_1117 L_69 L_90 L_1118 k_Mo_hang ⟨(by show _ ≤ fr0 + 9; omega), (by show _ ≤ lo0 + 145; omega)⟩ rfl rfl hl.1 (Nat.le_of_ble_eq_true rfl) d_Mo_condition_14 rfl (fun q z => by unfold f_Mo_condition; rw [bndM_r w_1, bndM_r w_2, bndM_l z]) (fun mo_3 H locs w_3 hP hD hS => ?_)
  refine lv_aload_n hx hb d_Mo_condition_17 rfl (lv_at hl 1 rfl) ?_
  refine lv_iload_n hx hb d_Mo_condition_18 rfl (lv_at hl 0 rfl) ?_
  refine lv_aload_n hx hb d_Mo_condition_19 rfl (lv_at hl 1 rfl) ?_
  refine lv_iload_n hx hb d_Mo_condition_20 rfl (lv_at hl 2 rfl) ?_
  refine lv_iconst (v := 1) hx hb d_Mo_condition_21 (by decide) ?_
  refine lv_iadd hx hb d_Mo_condition_22 ?_
  refine lv_aload_n hx hb d_Mo_condition_23 rfl (lv_at hl 1 rfl) ?_
  refine va_get (D := (dC, dI)) (ci := 6) (v := .int (q_labels mo_3)) (C := R_Mo) (T := T_Mo) (N := 31) hx hb hts u_Mo hown hK hP 0 rfl rfl 22 (by decide) (hts _ L_943) (fun _ h9 => h9) rfl d_Mo_condition_24 ?_
  refine mr_Si (g := (K 5 [(depth + 1), (q_labels mo_3)] mo_3)) (As := [.ref hm, .int (depth + 1), .int (q_labels mo_3)]) (rest := [.int r_1, .ref hm]) ⟨hx, hb, hml, hown, hts0⟩ (hR5 mo_3 _ (depth + 1) (q_labels mo_3) (fun z => hg (by unfold f_Mo_condition; rw [bndM_r w_1, bndM_r w_2, bndM_r w_3, bndM_n z]))) hP hD hK hS hA hC hZ hnt hlocks L_1122 L_1123 L_90 L_1124 k_Mo_statement ⟨(by show _ ≤ fr0 + 9; omega), (by show _ ≤ lo0 + 145; omega)⟩ rfl rfl hl.1 (Nat.le_of_ble_eq_true rfl) d_Mo_condition_27 rfl (fun q z => by unfold f_Mo_condition; rw [bndM_r w_1, bndM_r w_2, bndM_r w_3, bndM_l z]) (fun r_4 mo_4 H locs w_4 hP hD hS => ?_)
  refine mr_Vv (g := (f_Mo_hang mo_4 r_1 r_4)) (As := [.int r_1, .int r_4]) (rest := []) ⟨hx, hb, hml, hown, hts0⟩ (m_Mo_hang l hlt dC dI cI cZ sa rk hm ma mo_4 _ r_1 r_4 (fun z => hg (by unfold f_Mo_condition; rw [bndM_r w_1, bndM_r w_2, bndM_r w_3, bndM_r w_4, bndM_n z]))) hP hD hK hS hA hC hZ hnt hlocks L_1115 L_1117 L_69 L_90 L_1118 k_Mo_hang ⟨(by show _ ≤ fr0 + 9; omega), (by show _ ≤ lo0 + 145; omega)⟩ rfl rfl hl.1 (Nat.le_of_ble_eq_true rfl) d_Mo_condition_30 rfl (fun q z => by unfold f_Mo_condition; rw [bndM_r w_1, bndM_r w_2, bndM_r w_3, bndM_r w_4, bndM_l z]) (fun mo_5 H locs w_5 hP hD hS => ?_)
  refine lv_aload_n hx hb d_Mo_condition_33 rfl (lv_at hl 1 rfl) ?_
  refine lv_bipush (v := 8) hx hb d_Mo_condition_34 (by decide) ?_
  refine mr_Vi (g := (f_Mo_isWord mo_5 8)) (As := [.int 8]) (rest := []) ⟨hx, hb, hml, hown, hts0⟩ (m_Mo_isWord l hlt dC dI cI cZ sa rk hm ma mo_5 _ 8 (fun z => hg (by unfold f_Mo_condition; rw [bndM_r w_1, bndM_r w_2, bndM_r w_3, bndM_r w_4, bndM_r w_5, bndM_n z]))) hP hD hK hS hA hC hZ hnt hlocks L_1061 L_1063 L_62 L_90 L_1064 k_Mo_isWord ⟨(by show _ ≤ fr0 + 9; omega), (by show _ ≤ lo0 + 145; omega)⟩ rfl rfl hl.1 (Nat.le_of_ble_eq_true rfl) d_Mo_condition_36 rfl (fun q z => by unfold f_Mo_condition; rw [bndM_r w_1, bndM_r w_2, bndM_r w_3, bndM_r w_4, bndM_r w_5, bndM_l z]) (fun r_6 mo_6 H locs w_6 hP hD hS => ?_)
  refine lv_if_ne (tgt := 44) hx hb d_Mo_condition_39 (by decide) (fun c_7 => ?_) (fun c_7 => ?_)
  · refine lv_aload_n hx hb d_Mo_condition_44 rfl (lv_at hl 1 rfl) ?_
    refine lv_dup hx hb d_Mo_condition_45 rfl ?_
    refine va_get (D := (dC, dI)) (ci := 6) (v := .int (q_at mo_6)) (C := R_Mo) (T := T_Mo) (N := 31) hx hb hts u_Mo hown hK hP 0 rfl rfl 6 (by decide) (hts _ L_927) (fun _ h9 => h9) rfl d_Mo_condition_46 ?_
    refine lv_iconst (v := 1) hx hb d_Mo_condition_49 (by decide) ?_
    refine lv_iadd hx hb d_Mo_condition_50 ?_
    refine va_put (D := (dC, dI)) (ci := 6) (v := .int ((q_at mo_6) + 1)) (ty := .int) (C := R_Mo) (T := T_Mo) (N := 31) hx hb hts u_Mo ty_Mo tk_Mo nm_Mo hown hK hP hD hS 0 rfl rfl 6 (by decide) (hts _ L_927) (fun _ h9 => h9) rfl (by decide +kernel) rfl rfl (Nat.le_of_ble_eq_true rfl) d_Mo_condition_51 (fun H locs hP hD hS => ?_)
    have hP : va_P (dC, dI) cls (wM cI cZ hm ma (s_at mo_6 ((q_at mo_6) + 1))) H := hP
    have hD : va_D A (wM cI cZ hm ma (s_at mo_6 ((q_at mo_6) + 1))) := hD
    refine lv_aload_n hx hb d_Mo_condition_54 rfl (lv_at hl 1 rfl) ?_
    refine lv_iload_n hx hb d_Mo_condition_55 rfl (lv_at hl 0 rfl) ?_
    refine lv_aload_n hx hb d_Mo_condition_56 rfl (lv_at hl 1 rfl) ?_
    refine lv_iload_n hx hb d_Mo_condition_57 rfl (lv_at hl 2 rfl) ?_
    refine lv_iconst (v := 1) hx hb d_Mo_condition_58 (by decide) ?_
    refine lv_iadd hx hb d_Mo_condition_59 ?_
    refine lv_aload_n hx hb d_Mo_condition_60 rfl (lv_at hl 1 rfl) ?_
    refine va_get (D := (dC, dI)) (ci := 6) (v := .int (q_labels mo_6)) (C := R_Mo) (T := T_Mo) (N := 31) hx hb hts u_Mo hown hK hP 0 rfl rfl 22 (by decide) (hts _ L_943) (fun _ h9 => h9) rfl d_Mo_condition_61 ?_
    refine mr_Si (g := (K 5 [(depth + 1), (q_labels mo_6)] (s_at mo_6 ((q_at mo_6) + 1)))) (As := [.ref hm, .int (depth + 1), .int (q_labels mo_6)]) (rest := [.int r_1, .ref hm]) ⟨hx, hb, hml, hown, hts0⟩ (hR5 (s_at mo_6 ((q_at mo_6) + 1)) _ (depth + 1) (q_labels mo_6) (fun z => hg (by unfold f_Mo_condition; rw [bndM_r w_1, bndM_r w_2, bndM_r w_3, bndM_r w_4, bndM_r w_5, bndM_r w_6, if_neg c_7, bndM_n z]))) hP hD hK hS hA hC hZ hnt hlocks L_1122 L_1123 L_90 L_1124 k_Mo_statement ⟨(by show _ ≤ fr0 + 9; omega), (by show _ ≤ lo0 + 145; omega)⟩ rfl rfl hl.1 (Nat.le_of_ble_eq_true rfl) d_Mo_condition_64 rfl (fun q z => by unfold f_Mo_condition; rw [bndM_r w_1, bndM_r w_2, bndM_r w_3, bndM_r w_4, bndM_r w_5, bndM_r w_6, if_neg c_7, bndM_l z]) (fun r_8 mo_8 H locs w_8 hP hD hS => ?_)
    refine mr_Vv (g := (f_Mo_hang mo_8 r_1 r_8)) (As := [.int r_1, .int r_8]) (rest := []) ⟨hx, hb, hml, hown, hts0⟩ (m_Mo_hang l hlt dC dI cI cZ sa rk hm ma mo_8 _ r_1 r_8 (fun z => hg (by unfold f_Mo_condition; rw [bndM_r w_1, bndM_r w_2, bndM_r w_3, bndM_r w_4, bndM_r w_5, bndM_r w_6, if_neg c_7, bndM_r w_8, bndM_n z]))) hP hD hK hS hA hC hZ hnt hlocks L_1115 L_1117 L_69 L_90 L_1118 k_Mo_hang ⟨(by show _ ≤ fr0 + 9; omega), (by show _ ≤ lo0 + 145; omega)⟩ rfl rfl hl.1 (Nat.le_of_ble_eq_true rfl) d_Mo_condition_67 rfl (fun q z => by unfold f_Mo_condition; rw [bndM_r w_1, bndM_r w_2, bndM_r w_3, bndM_r w_4, bndM_r w_5, bndM_r w_6, if_neg c_7, bndM_r w_8, bndM_l z]) (fun mo_9 H locs w_9 hP hD hS => ?_)
    refine lv_iload_n hx hb d_Mo_condition_70 rfl (lv_at hl 0 rfl) ?_
    exact mr_iret (v := r_1) (mo := mo_9) hx hb hr hlocks hK hP hD hS (by unfold f_Mo_condition; rw [bndM_r w_1, bndM_r w_2, bndM_r w_3, bndM_r w_4, bndM_r w_5, bndM_r w_6, if_neg c_7, bndM_r w_8, bndM_r w_9]) d_Mo_condition_71
  · refine lv_iload_n hx hb d_Mo_condition_42 rfl (lv_at hl 0 rfl) ?_
    exact mr_iret (v := r_1) (mo := mo_6) hx hb hr hlocks hK hP hD hS (by unfold f_Mo_condition; rw [bndM_r w_1, bndM_r w_2, bndM_r w_3, bndM_r w_4, bndM_r w_5, bndM_r w_6, if_pos c_7]) d_Mo_condition_43
def f_Mo_body_L2 (K : Nat → List Int32 → MO → Rm) (depth : Int32) (own : Int32) : Nat → Int32 → MO → Rm
  | 0, _, _ => none
  | fu_1 + 1, x3, sx_1 => (if (q_labels sx_1) ≤ x3 then (some (.inr (0, sx_1))) else (if inb x3 1000 then (f_Mo_body_L2 K depth own fu_1 (x3 + 1) (s_loopLabel sx_1 (upd (q_loopLabel sx_1) (x3 : Int32).toNatClampNeg 1))) else none))
def f_Mo_body (K : Nat → List Int32 → MO → Rm) (mo : MO) (depth : Int32) (own : Int32) : Rm := (bndM (f_Mo_body_L2 K depth own 5000 own mo) (fun _ se_1 => (bndM (K 5 [(depth + 1), (q_labels se_1)] (s_breakables (s_loops se_1 ((q_loops se_1) + 1)) ((q_breakables se_1) + 1))) (fun r_3 mo_3 => (some (.inr (r_3, (s_breakables (s_loops mo_3 ((q_loops mo_3) - 1)) ((q_breakables mo_3) - 1)))))))))
set_option maxRecDepth 100000 in
set_option maxHeartbeats 4000000 in
theorem m_Mo_body (l : Launch) (hlt : l.stackTraces = false) (dC : Nat → ClassId) (dI : Nat → Nat → Nat) (cI cZ : ClassId) (sa rk hm : Nat) (ma : Nat → Nat) (fr0 lo0 : Nat) (K : Nat → List Int32 → MO → Rm) (hR0 : ∀ (mo : MO) (sz : Nat) (p0 p1 : Int32), K 0 [p0, p1] mo ≠ none → cXi l y_Mo_expression c_Mo_expression 5 .int fr0 lo0 (dC, dI) cI cZ sa rk hm ma mo sz [.ref hm, .int p0, .int p1] (K 0 [p0, p1] mo)) (hR1 : ∀ (mo : MO) (sz : Nat) (p0 p1 : Int32), K 1 [p0, p1] mo ≠ none → cXi l y_Mo_assignment c_Mo_assignment 5 .int fr0 lo0 (dC, dI) cI cZ sa rk hm ma mo sz [.ref hm, .int p0, .int p1] (K 1 [p0, p1] mo)) (hR2 : ∀ (mo : MO) (sz : Nat) (p0 p1 p2 : Int32), K 2 [p0, p1, p2] mo ≠ none → cXi l y_Mo_binary c_Mo_binary 7 .int fr0 lo0 (dC, dI) cI cZ sa rk hm ma mo sz [.ref hm, .int p0, .int p1, .int p2] (K 2 [p0, p1, p2] mo)) (hR3 : ∀ (mo : MO) (sz : Nat) (p0 : Int32), K 3 [p0] mo ≠ none → cXi l y_Mo_unary c_Mo_unary 5 .int fr0 lo0 (dC, dI) cI cZ sa rk hm ma mo sz [.ref hm, .int p0] (K 3 [p0] mo)) (hR4 : ∀ (mo : MO) (sz : Nat) (p0 p1 : Int32), K 4 [p0, p1] mo ≠ none → cXi l y_Mo_member c_Mo_member 6 .int fr0 lo0 (dC, dI) cI cZ sa rk hm ma mo sz [.ref hm, .int p0, .int p1] (K 4 [p0, p1] mo)) (hR5 : ∀ (mo : MO) (sz : Nat) (p0 p1 : Int32), K 5 [p0, p1] mo ≠ none → cXi l y_Mo_statement c_Mo_statement 3 .int fr0 lo0 (dC, dI) cI cZ sa rk hm ma mo sz [.ref hm, .int p0, .int p1] (K 5 [p0, p1] mo)) (hR6 : ∀ (mo : MO) (sz : Nat) (p0 p1 p2 : Int32), K 6 [p0, p1, p2] mo ≠ none → cXv l y_Mo_statements c_Mo_statements 8 fr0 lo0 (dC, dI) cI cZ sa rk hm ma mo sz [.ref hm, .int p0, .int p1, .int p2] (K 6 [p0, p1, p2] mo)) (hR7 : ∀ (mo : MO) (sz : Nat) (p0 : Int32), K 7 [p0] mo ≠ none → cXi l y_Mo_block c_Mo_block 4 .int fr0 lo0 (dC, dI) cI cZ sa rk hm ma mo sz [.ref hm, .int p0] (K 7 [p0] mo)) (mo : MO) (sz : Nat) (depth : Int32) (own : Int32) (hg : (f_Mo_body K mo depth own) ≠ none) : cXi l y_Mo_body c_Mo_body 4 .int (fr0 + 1) (lo0 + 22) (dC, dI) cI cZ sa rk hm ma mo sz [.ref hm, .int depth, .int own] (f_Mo_body K mo depth own) := by
  refine vx_ofW (cc := c_Mo_body) (maxL := 4) (ret := (some .int)) (by decide) rfl ?_
  intro p e s m args below meth c s₁ B hml hnt hv
  obtain ⟨rfl, hsz, hP, hK, hD0, hC, hZ⟩ := hv
  have hx := B.exec
  have hb := B.bytes
  have hr := B.returns
  have hts0 := atoms_spec (ws := wy y_Mo_body c_Mo_body 4 (some .int)) B.pre
  have hts := htsL hts0
  have hown : s.vm.findClass R_Mo = some m.cls := findClass_of_methodNamed B.named
  have hlocks := B.notSynchronized
  subst hsz
  have hD := hD0.self (sz := s.heap.size)
  generalize hAe : va_A (wM cI cZ hm ma mo) s.heap.size = A at hD hZ ⊢
  have hA : ∀ q : Nat, s.heap.size ≤ q → A q := fun q h => by rw [← hAe]; exact Or.inr h
  have hS : va_S A s.heap s.heap [] := va_S.rf
  have hl := lv_entry ([.ref hm, .int depth, .int own]) (n := 4) (Nat.le_of_ble_eq_true rfl)
  rw [lg_entry_eq]
  generalize (lg_sl ([.ref hm, .int depth, .int own]) ++ List.replicate (4 - (lg_sl ([.ref hm, .int depth, .int own])).length) Slot.unset).toArray = ls at hl ⊢
  have hl : lv_has ls 4 [(0, .ref hm), (1, .int depth), (2, .int own)] := hl
  refine lv_iload_n hx hb d_Mo_body_0 rfl (lv_at hl 2 rfl) ?_
  refine lv_istore_n (lv' := [(3, .int own), (0, .ref hm), (1, .int depth), (2, .int own)]) hx hb d_Mo_body_1 rfl hl (by decide) rfl (fun ls hl => ?_)
  obtain ⟨x_1, hx_1⟩ : ∃ z, f_Mo_body_L2 K depth own 5000 own mo = z := ⟨_, rfl⟩
  have hn_1 : x_1 ≠ none := (fun z => hg (by unfold f_Mo_body; rw [bndM_n (hx_1.trans z)]))
  have hX_1 : ∀ q, x_1 = some (.inl q) → (f_Mo_body K mo depth own) = some (.inl q) := (fun q z => by unfold f_Mo_body; rw [bndM_l (hx_1.trans z)])
  have lp_1 : ∀ (fu : Nat) (x3 : Int32) (sx_1 : MO) (H : Heap) (locs : List Loc) (ls : Array Slot), va_P (dC, dI) cls (wM cI cZ hm ma sx_1) H → va_D A (wM cI cZ hm ma sx_1) → va_S A s.heap H locs → lv_has ls 4 [(0, .ref hm), (1, .int depth), (2, .int own), (3, .int x3)] → x_1 = f_Mo_body_L2 K depth own fu x3 sx_1 → W p l e (headSpec (wy y_Mo_body c_Mo_body 4 (some .int)) { frames := (fr0 + 1), cells := 1, slots := 6, locals := (lo0 + 22) }).room s m [.ref hm, .int depth, .int own].toArray below meth c H locs 0 0 (vx_MQ below (va_Qi (fun r (u : MO) => (f_Mo_body K mo depth own) = some (.inr (r, u))) (wB (dC, dI) cI cZ A (wM cI cZ hm ma)) A) (xM (dC, dI) cI cZ hm ma (f_Mo_body K mo depth own) A) [.ref hm, .int depth, .int own].toArray s (mcM (f_Mo_body K mo depth own)) (msM (f_Mo_body K mo depth own)) A) (F0 m 2 ls []) := by
    intro fu
    induction fu with
    | zero => intro x3 sx_1 H locs ls hP hD hS hl hL_1; exact absurd (hL_1.trans rfl) hn_1
    | succ fu_1 ih_1 =>
      intro x3 sx_1 H locs ls hP hD hS hl hL_1
      rw [f_Mo_body_L2] at hL_1
      refine lv_iload_n hx hb d_Mo_body_2 rfl (lv_at hl 3 rfl) ?_
      refine lv_aload_n hx hb d_Mo_body_3 rfl (lv_at hl 0 rfl) ?_
      refine va_get (D := (dC, dI)) (ci := 6) (v := .int (q_labels sx_1)) (C := R_Mo) (T := T_Mo) (N := 31) hx hb hts u_Mo hown hK hP 0 rfl rfl 22 (by decide) (hts _ L_943) (fun _ h9 => h9) rfl d_Mo_body_4 ?_
      refine lv_icmp_ge (tgt := 23) hx hb d_Mo_body_7 (by decide) (fun c_2 => ?_) (fun c_2 => ?_)
      · rw [if_pos c_2] at hL_1
        obtain ⟨se_1, hse_1⟩ : ∃ z : MO, z = sx_1 := ⟨_, rfl⟩
        have hP : va_P (dC, dI) cls (wM cI cZ hm ma se_1) H := by rw [hse_1]; exact hP
        have hD : va_D A (wM cI cZ hm ma se_1) := by rw [hse_1]; exact hD
        have we_1 : f_Mo_body_L2 K depth own 5000 own mo = some (.inr (0, se_1)) := by rw [hse_1]; exact hx_1.trans hL_1
        have hl := lv_sub hl (l' := [(0, .ref hm), (1, .int depth), (2, .int own)]) [0, 1, 2] rfl
        refine lv_aload_n hx hb d_Mo_body_23 rfl (lv_at hl 0 rfl) ?_
        refine lv_dup hx hb d_Mo_body_24 rfl ?_
        refine va_get (D := (dC, dI)) (ci := 6) (v := .int (q_loops se_1)) (C := R_Mo) (T := T_Mo) (N := 31) hx hb hts u_Mo hown hK hP 0 rfl rfl 26 (by decide) (hts _ L_947) (fun _ h9 => h9) rfl d_Mo_body_25 ?_
        refine lv_iconst (v := 1) hx hb d_Mo_body_28 (by decide) ?_
        refine lv_iadd hx hb d_Mo_body_29 ?_
        refine va_put (D := (dC, dI)) (ci := 6) (v := .int ((q_loops se_1) + 1)) (ty := .int) (C := R_Mo) (T := T_Mo) (N := 31) hx hb hts u_Mo ty_Mo tk_Mo nm_Mo hown hK hP hD hS 0 rfl rfl 26 (by decide) (hts _ L_947) (fun _ h9 => h9) rfl (by decide +kernel) rfl rfl (Nat.le_of_ble_eq_true rfl) d_Mo_body_30 (fun H locs hP hD hS => ?_)
        have hP : va_P (dC, dI) cls (wM cI cZ hm ma (s_loops se_1 ((q_loops se_1) + 1))) H := hP
        have hD : va_D A (wM cI cZ hm ma (s_loops se_1 ((q_loops se_1) + 1))) := hD
        refine lv_aload_n hx hb d_Mo_body_33 rfl (lv_at hl 0 rfl) ?_
        refine lv_dup hx hb d_Mo_body_34 rfl ?_
        refine va_get (D := (dC, dI)) (ci := 6) (v := .int (q_breakables se_1)) (C := R_Mo) (T := T_Mo) (N := 31) hx hb hts u_Mo hown hK hP 0 rfl rfl 27 (by decide) (hts _ L_948) (fun _ h9 => h9) rfl d_Mo_body_35 ?_
        refine lv_iconst (v := 1) hx hb d_Mo_body_38 (by decide) ?_
        refine lv_iadd hx hb d_Mo_body_39 ?_
        refine va_put (D := (dC, dI)) (ci := 6) (v := .int ((q_breakables se_1) + 1)) (ty := .int) (C := R_Mo) (T := T_Mo) (N := 31) hx hb hts u_Mo ty_Mo tk_Mo nm_Mo hown hK hP hD hS 0 rfl rfl 27 (by decide) (hts _ L_948) (fun _ h9 => h9) rfl (by decide +kernel) rfl rfl (Nat.le_of_ble_eq_true rfl) d_Mo_body_40 (fun H locs hP hD hS => ?_)
        have hP : va_P (dC, dI) cls (wM cI cZ hm ma (s_breakables (s_loops se_1 ((q_loops se_1) + 1)) ((q_breakables se_1) + 1))) H := hP
        have hD : va_D A (wM cI cZ hm ma (s_breakables (s_loops se_1 ((q_loops se_1) + 1)) ((q_breakables se_1) + 1))) := hD
        refine lv_aload_n hx hb d_Mo_body_43 rfl (lv_at hl 0 rfl) ?_
        refine lv_iload_n hx hb d_Mo_body_44 rfl (lv_at hl 1 rfl) ?_
        refine lv_iconst (v := 1) hx hb d_Mo_body_45 (by decide) ?_
        refine lv_iadd hx hb d_Mo_body_46 ?_
        refine lv_aload_n hx hb d_Mo_body_47 rfl (lv_at hl 0 rfl) ?_
        refine va_get (D := (dC, dI)) (ci := 6) (v := .int (q_labels se_1)) (C := R_Mo) (T := T_Mo) (N := 31) hx hb hts u_Mo hown hK hP 0 rfl rfl 22 (by decide) (hts _ L_943) (fun _ h9 => h9) rfl d_Mo_body_48 ?_
        refine mr_Si (g := (K 5 [(depth + 1), (q_labels se_1)] (s_breakables (s_loops se_1 ((q_loops se_1) + 1)) ((q_breakables se_1) + 1)))) (As := [.ref hm, .int (depth + 1), .int (q_labels se_1)]) (rest := []) ⟨hx, hb, hml, hown, hts0⟩ (hR5 (s_breakables (s_loops se_1 ((q_loops se_1) + 1)) ((q_breakables se_1) + 1)) _ (depth + 1) (q_labels se_1) (fun z => hg (by unfold f_Mo_body; rw [bndM_r we_1, bndM_n z]))) hP hD hK hS hA hC hZ hnt hlocks L_1122 L_1123 L_90 L_1124 k_Mo_statement ⟨(by show _ ≤ fr0 + 1; omega), (by show _ ≤ lo0 + 22; omega)⟩ rfl rfl hl.1 (Nat.le_of_ble_eq_true rfl) d_Mo_body_51 rfl (fun q z => by unfold f_Mo_body; rw [bndM_r we_1, bndM_l z]) (fun r_3 mo_3 H locs w_3 hP hD hS => ?_)
        refine lv_istore_n (lv' := [(3, .int r_3), (0, .ref hm), (1, .int depth), (2, .int own)]) hx hb d_Mo_body_54 rfl hl (by decide) rfl (fun ls hl => ?_)
        refine lv_aload_n hx hb d_Mo_body_55 rfl (lv_at hl 1 rfl) ?_
        refine lv_dup hx hb d_Mo_body_56 rfl ?_
        refine va_get (D := (dC, dI)) (ci := 6) (v := .int (q_loops mo_3)) (C := R_Mo) (T := T_Mo) (N := 31) hx hb hts u_Mo hown hK hP 0 rfl rfl 26 (by decide) (hts _ L_947) (fun _ h9 => h9) rfl d_Mo_body_57 ?_
        refine lv_iconst (v := 1) hx hb d_Mo_body_60 (by decide) ?_
        refine lv_isub hx hb d_Mo_body_61 ?_
        refine va_put (D := (dC, dI)) (ci := 6) (v := .int ((q_loops mo_3) - 1)) (ty := .int) (C := R_Mo) (T := T_Mo) (N := 31) hx hb hts u_Mo ty_Mo tk_Mo nm_Mo hown hK hP hD hS 0 rfl rfl 26 (by decide) (hts _ L_947) (fun _ h9 => h9) rfl (by decide +kernel) rfl rfl (Nat.le_of_ble_eq_true rfl) d_Mo_body_62 (fun H locs hP hD hS => ?_)
        have hP : va_P (dC, dI) cls (wM cI cZ hm ma (s_loops mo_3 ((q_loops mo_3) - 1))) H := hP
        have hD : va_D A (wM cI cZ hm ma (s_loops mo_3 ((q_loops mo_3) - 1))) := hD
        refine lv_aload_n hx hb d_Mo_body_65 rfl (lv_at hl 1 rfl) ?_
        refine lv_dup hx hb d_Mo_body_66 rfl ?_
        refine va_get (D := (dC, dI)) (ci := 6) (v := .int (q_breakables mo_3)) (C := R_Mo) (T := T_Mo) (N := 31) hx hb hts u_Mo hown hK hP 0 rfl rfl 27 (by decide) (hts _ L_948) (fun _ h9 => h9) rfl d_Mo_body_67 ?_
        refine lv_iconst (v := 1) hx hb d_Mo_body_70 (by decide) ?_
        refine lv_isub hx hb d_Mo_body_71 ?_
        refine va_put (D := (dC, dI)) (ci := 6) (v := .int ((q_breakables mo_3) - 1)) (ty := .int) (C := R_Mo) (T := T_Mo) (N := 31) hx hb hts u_Mo ty_Mo tk_Mo nm_Mo hown hK hP hD hS 0 rfl rfl 27 (by decide) (hts _ L_948) (fun _ h9 => h9) rfl (by decide +kernel) rfl rfl (Nat.le_of_ble_eq_true rfl) d_Mo_body_72 (fun H locs hP hD hS => ?_)
        have hP : va_P (dC, dI) cls (wM cI cZ hm ma (s_breakables (s_loops mo_3 ((q_loops mo_3) - 1)) ((q_breakables mo_3) - 1))) H := hP
        have hD : va_D A (wM cI cZ hm ma (s_breakables (s_loops mo_3 ((q_loops mo_3) - 1)) ((q_breakables mo_3) - 1))) := hD
        refine lv_iload_n hx hb d_Mo_body_75 rfl (lv_at hl 0 rfl) ?_
        exact mr_iret (v := r_3) (mo := (s_breakables (s_loops mo_3 ((q_loops mo_3) - 1)) ((q_breakables mo_3) - 1))) hx hb hr hlocks hK hP hD hS (by unfold f_Mo_body; rw [bndM_r we_1, bndM_r w_3]) d_Mo_body_76
      · rw [if_neg c_2] at hL_1
        refine lv_aload_n hx hb d_Mo_body_10 rfl (lv_at hl 0 rfl) ?_
        refine va_get (D := (dC, dI)) (ci := 6) (v := .ref (ma 13)) (C := R_Mo) (T := T_Mo) (N := 31) hx hb hts u_Mo hown hK hP 0 rfl rfl 25 (by decide) (hts _ L_946) (fun _ h9 => h9) rfl d_Mo_body_11 ?_
        refine lv_iload_n hx hb d_Mo_body_14 rfl (lv_at hl 3 rfl) ?_
        refine lv_iconst (v := 1) hx hb d_Mo_body_15 (by decide) ?_
        by_cases cb_4 : inb x3 1000
        case neg => exact absurd (hL_1.trans (if_neg cb_4)) hn_1
        rw [if_pos cb_4] at hL_1
        refine va_zast (D := (dC, dI)) hx hb hK hP hD hS 14 1 rfl rfl cb_4 d_Mo_body_16 (fun H locs hP hD hS => ?_)
        have hP : va_P (dC, dI) cls (wM cI cZ hm ma (s_loopLabel sx_1 (upd (q_loopLabel sx_1) (x3 : Int32).toNatClampNeg 1))) H := hP
        have hD : va_D A (wM cI cZ hm ma (s_loopLabel sx_1 (upd (q_loopLabel sx_1) (x3 : Int32).toNatClampNeg 1))) := hD
        refine lv_iinc (v := (x3 + 1)) (lv' := [(3, .int (x3 + 1)), (0, .ref hm), (1, .int depth), (2, .int own)]) hx hb d_Mo_body_17 hl (k := 3) rfl rfl (by decide) rfl (fun ls hl => ?_)
        refine lv_goto (tgt := 2) hx hb d_Mo_body_20 (by decide) ?_
        exact ih_1 (x3 + 1) (s_loopLabel sx_1 (upd (q_loopLabel sx_1) (x3 : Int32).toNatClampNeg 1)) _ _ ls hP hD hS (lv_sub hl [1, 2, 3, 0] rfl) hL_1
  exact lp_1 5000 own mo _ _ ls hP hD hS (lv_sub hl [1, 2, 3, 0] rfl) hx_1.symm
def f_Mo_doLoop (K : Nat → List Int32 → MO → Rm) (mo : MO) (depth : Int32) (own : Int32) : Rm := (bndM (f_Mo_plain mo 7) (fun r_1 mo_1 => (bndM (f_Mo_body K mo_1 depth own) (fun r_2 mo_2 => (bndM (f_Mo_hang mo_2 r_1 r_2) (fun _ mo_3 => (bndM (f_Mo_isWord mo_3 24) (fun r_4 mo_4 => (if r_4 = 0 then (bndM (f_Mo_refuse mo_4 (q_at mo_4)) (fun _ mo_9 => (bndM (f_Mo_head K (s_at mo_9 ((q_at mo_9) + 1)) depth) (fun r_10 mo_10 => (bndM (f_Mo_hang mo_10 r_1 r_10) (fun _ mo_11 => (bndM (f_Mo_semicolon mo_11) (fun _ mo_12 => (some (.inr (r_1, mo_12))))))))))) else (bndM (f_Mo_head K (s_at mo_4 ((q_at mo_4) + 1)) depth) (fun r_6 mo_6 => (bndM (f_Mo_hang mo_6 r_1 r_6) (fun _ mo_7 => (bndM (f_Mo_semicolon mo_7) (fun _ mo_8 => (some (.inr (r_1, mo_8))))))))))))))))))
set_option maxRecDepth 100000 in
set_option maxHeartbeats 4000000 in
theorem m_Mo_doLoop (l : Launch) (hlt : l.stackTraces = false) (dC : Nat → ClassId) (dI : Nat → Nat → Nat) (cI cZ : ClassId) (sa rk hm : Nat) (ma : Nat → Nat) (fr0 lo0 : Nat) (K : Nat → List Int32 → MO → Rm) (hR0 : ∀ (mo : MO) (sz : Nat) (p0 p1 : Int32), K 0 [p0, p1] mo ≠ none → cXi l y_Mo_expression c_Mo_expression 5 .int fr0 lo0 (dC, dI) cI cZ sa rk hm ma mo sz [.ref hm, .int p0, .int p1] (K 0 [p0, p1] mo)) (hR1 : ∀ (mo : MO) (sz : Nat) (p0 p1 : Int32), K 1 [p0, p1] mo ≠ none → cXi l y_Mo_assignment c_Mo_assignment 5 .int fr0 lo0 (dC, dI) cI cZ sa rk hm ma mo sz [.ref hm, .int p0, .int p1] (K 1 [p0, p1] mo)) (hR2 : ∀ (mo : MO) (sz : Nat) (p0 p1 p2 : Int32), K 2 [p0, p1, p2] mo ≠ none → cXi l y_Mo_binary c_Mo_binary 7 .int fr0 lo0 (dC, dI) cI cZ sa rk hm ma mo sz [.ref hm, .int p0, .int p1, .int p2] (K 2 [p0, p1, p2] mo)) (hR3 : ∀ (mo : MO) (sz : Nat) (p0 : Int32), K 3 [p0] mo ≠ none → cXi l y_Mo_unary c_Mo_unary 5 .int fr0 lo0 (dC, dI) cI cZ sa rk hm ma mo sz [.ref hm, .int p0] (K 3 [p0] mo)) (hR4 : ∀ (mo : MO) (sz : Nat) (p0 p1 : Int32), K 4 [p0, p1] mo ≠ none → cXi l y_Mo_member c_Mo_member 6 .int fr0 lo0 (dC, dI) cI cZ sa rk hm ma mo sz [.ref hm, .int p0, .int p1] (K 4 [p0, p1] mo)) (hR5 : ∀ (mo : MO) (sz : Nat) (p0 p1 : Int32), K 5 [p0, p1] mo ≠ none → cXi l y_Mo_statement c_Mo_statement 3 .int fr0 lo0 (dC, dI) cI cZ sa rk hm ma mo sz [.ref hm, .int p0, .int p1] (K 5 [p0, p1] mo)) (hR6 : ∀ (mo : MO) (sz : Nat) (p0 p1 p2 : Int32), K 6 [p0, p1, p2] mo ≠ none → cXv l y_Mo_statements c_Mo_statements 8 fr0 lo0 (dC, dI) cI cZ sa rk hm ma mo sz [.ref hm, .int p0, .int p1, .int p2] (K 6 [p0, p1, p2] mo)) (hR7 : ∀ (mo : MO) (sz : Nat) (p0 : Int32), K 7 [p0] mo ≠ none → cXi l y_Mo_block c_Mo_block 4 .int fr0 lo0 (dC, dI) cI cZ sa rk hm ma mo sz [.ref hm, .int p0] (K 7 [p0] mo)) (mo : MO) (sz : Nat) (depth : Int32) (own : Int32) (hg : (f_Mo_doLoop K mo depth own) ≠ none) : cXi l y_Mo_doLoop c_Mo_doLoop 4 .int (fr0 + 9) (lo0 + 145) (dC, dI) cI cZ sa rk hm ma mo sz [.ref hm, .int depth, .int own] (f_Mo_doLoop K mo depth own) := by
  refine vx_ofW (cc := c_Mo_doLoop) (maxL := 4) (ret := (some .int)) (by decide) rfl ?_
  intro p e s m args below meth c s₁ B hml hnt hv
  obtain ⟨rfl, hsz, hP, hK, hD0, hC, hZ⟩ := hv
  have hx := B.exec
  have hb := B.bytes
  have hr := B.returns
  have hts0 := atoms_spec (ws := wy y_Mo_doLoop c_Mo_doLoop 4 (some .int)) B.pre
  have hts := htsL hts0
  have hown : s.vm.findClass R_Mo = some m.cls := findClass_of_methodNamed B.named
  have hlocks := B.notSynchronized
  subst hsz
  have hD := hD0.self (sz := s.heap.size)
  generalize hAe : va_A (wM cI cZ hm ma mo) s.heap.size = A at hD hZ ⊢
  have hA : ∀ q : Nat, s.heap.size ≤ q → A q := fun q h => by rw [← hAe]; exact Or.inr h
  have hS : va_S A s.heap s.heap [] := va_S.rf
  have hl := lv_entry ([.ref hm, .int depth, .int own]) (n := 4) (Nat.le_of_ble_eq_true rfl)
  rw [lg_entry_eq]
  generalize (lg_sl ([.ref hm, .int depth, .int own]) ++ List.replicate (4 - (lg_sl ([.ref hm, .int depth, .int own])).length) Slot.unset).toArray = ls at hl ⊢
  have hl : lv_has ls 4 [(0, .ref hm), (1, .int depth), (2, .int own)] := hl
  refine lv_aload_n hx hb d_Mo_doLoop_0 rfl (lv_at hl 0 rfl) ?_
  refine lv_bipush (v := 7) hx hb d_Mo_doLoop_1 (by decide) ?_
  refine mr_Vi (g := (f_Mo_plain mo 7)) (As := [.int 7]) (rest := []) ⟨hx, hb, hml, hown, hts0⟩ (m_Mo_plain l hlt dC dI cI cZ sa rk hm ma mo _ 7 (fun z => hg (by unfold f_Mo_doLoop; rw [bndM_n z]))) hP hD hK hS hA hC hZ hnt hlocks L_1128 L_1130 L_70 L_90 L_1131 k_Mo_plain ⟨(by show _ ≤ fr0 + 9; omega), (by show _ ≤ lo0 + 145; omega)⟩ rfl rfl hl.1 (Nat.le_of_ble_eq_true rfl) d_Mo_doLoop_3 rfl (fun q z => by unfold f_Mo_doLoop; rw [bndM_l z]) (fun r_1 mo_1 H locs w_1 hP hD hS => ?_)
  refine lv_istore_n (lv' := [(3, .int r_1), (0, .ref hm), (1, .int depth), (2, .int own)]) hx hb d_Mo_doLoop_6 rfl hl (by decide) rfl (fun ls hl => ?_)
  refine lv_aload_n hx hb d_Mo_doLoop_7 rfl (lv_at hl 1 rfl) ?_
  refine lv_iload_n hx hb d_Mo_doLoop_8 rfl (lv_at hl 0 rfl) ?_
  refine lv_aload_n hx hb d_Mo_doLoop_9 rfl (lv_at hl 1 rfl) ?_
  refine lv_iload_n hx hb d_Mo_doLoop_10 rfl (lv_at hl 2 rfl) ?_
  refine lv_iload_n hx hb d_Mo_doLoop_11 rfl (lv_at hl 3 rfl) ?_
  refine mr_Si (g := (f_Mo_body K mo_1 depth own)) (As := [.ref hm, .int depth, .int own]) (rest := [.int r_1, .ref hm]) ⟨hx, hb, hml, hown, hts0⟩ (m_Mo_body l hlt dC dI cI cZ sa rk hm ma fr0 lo0 K hR0 hR1 hR2 hR3 hR4 hR5 hR6 hR7 mo_1 _ depth own (fun z => hg (by unfold f_Mo_doLoop; rw [bndM_r w_1, bndM_n z]))) hP hD hK hS hA hC hZ hnt hlocks L_1222 L_1223 L_90 L_1224 k_Mo_body ⟨(by show _ ≤ fr0 + 9; omega), (by show _ ≤ lo0 + 145; omega)⟩ rfl rfl hl.1 (Nat.le_of_ble_eq_true rfl) d_Mo_doLoop_12 rfl (fun q z => by unfold f_Mo_doLoop; rw [bndM_r w_1, bndM_l z]) (fun r_2 mo_2 H locs w_2 hP hD hS => ?_)
  refine mr_Vv (g := (f_Mo_hang mo_2 r_1 r_2)) (As := [.int r_1, .int r_2]) (rest := []) ⟨hx, hb, hml, hown, hts0⟩ (m_Mo_hang l hlt dC dI cI cZ sa rk hm ma mo_2 _ r_1 r_2 (fun z => hg (by unfold f_Mo_doLoop; rw [bndM_r w_1, bndM_r w_2, bndM_n z]))) hP hD hK hS hA hC hZ hnt hlocks L_1115 L_1117 L_69 L_90 L_1118 k_Mo_hang ⟨(by show _ ≤ fr0 + 9; omega), (by show _ ≤ lo0 + 145; omega)⟩ rfl rfl hl.1 (Nat.le_of_ble_eq_true rfl) d_Mo_doLoop_15 rfl (fun q z => by unfold f_Mo_doLoop; rw [bndM_r w_1, bndM_r w_2, bndM_l z]) (fun mo_3 H locs w_3 hP hD hS => ?_)
  refine lv_aload_n hx hb d_Mo_doLoop_18 rfl (lv_at hl 1 rfl) ?_
  refine lv_bipush (v := 24) hx hb d_Mo_doLoop_19 (by decide) ?_
  refine mr_Vi (g := (f_Mo_isWord mo_3 24)) (As := [.int 24]) (rest := []) ⟨hx, hb, hml, hown, hts0⟩ (m_Mo_isWord l hlt dC dI cI cZ sa rk hm ma mo_3 _ 24 (fun z => hg (by unfold f_Mo_doLoop; rw [bndM_r w_1, bndM_r w_2, bndM_r w_3, bndM_n z]))) hP hD hK hS hA hC hZ hnt hlocks L_1061 L_1063 L_62 L_90 L_1064 k_Mo_isWord ⟨(by show _ ≤ fr0 + 9; omega), (by show _ ≤ lo0 + 145; omega)⟩ rfl rfl hl.1 (Nat.le_of_ble_eq_true rfl) d_Mo_doLoop_21 rfl (fun q z => by unfold f_Mo_doLoop; rw [bndM_r w_1, bndM_r w_2, bndM_r w_3, bndM_l z]) (fun r_4 mo_4 H locs w_4 hP hD hS => ?_)
  refine lv_if_ne (tgt := 35) hx hb d_Mo_doLoop_24 (by decide) (fun c_5 => ?_) (fun c_5 => ?_)
  · refine lv_aload_n hx hb d_Mo_doLoop_35 rfl (lv_at hl 1 rfl) ?_
    refine lv_dup hx hb d_Mo_doLoop_36 rfl ?_
    refine va_get (D := (dC, dI)) (ci := 6) (v := .int (q_at mo_4)) (C := R_Mo) (T := T_Mo) (N := 31) hx hb hts u_Mo hown hK hP 0 rfl rfl 6 (by decide) (hts _ L_927) (fun _ h9 => h9) rfl d_Mo_doLoop_37 ?_
    refine lv_iconst (v := 1) hx hb d_Mo_doLoop_40 (by decide) ?_
    refine lv_iadd hx hb d_Mo_doLoop_41 ?_
    refine va_put (D := (dC, dI)) (ci := 6) (v := .int ((q_at mo_4) + 1)) (ty := .int) (C := R_Mo) (T := T_Mo) (N := 31) hx hb hts u_Mo ty_Mo tk_Mo nm_Mo hown hK hP hD hS 0 rfl rfl 6 (by decide) (hts _ L_927) (fun _ h9 => h9) rfl (by decide +kernel) rfl rfl (Nat.le_of_ble_eq_true rfl) d_Mo_doLoop_42 (fun H locs hP hD hS => ?_)
    have hP : va_P (dC, dI) cls (wM cI cZ hm ma (s_at mo_4 ((q_at mo_4) + 1))) H := hP
    have hD : va_D A (wM cI cZ hm ma (s_at mo_4 ((q_at mo_4) + 1))) := hD
    refine lv_aload_n hx hb d_Mo_doLoop_45 rfl (lv_at hl 1 rfl) ?_
    refine lv_iload_n hx hb d_Mo_doLoop_46 rfl (lv_at hl 0 rfl) ?_
    refine lv_aload_n hx hb d_Mo_doLoop_47 rfl (lv_at hl 1 rfl) ?_
    refine lv_iload_n hx hb d_Mo_doLoop_48 rfl (lv_at hl 2 rfl) ?_
    refine mr_Si (g := (f_Mo_head K (s_at mo_4 ((q_at mo_4) + 1)) depth)) (As := [.ref hm, .int depth]) (rest := [.int r_1, .ref hm]) ⟨hx, hb, hml, hown, hts0⟩ (m_Mo_head l hlt dC dI cI cZ sa rk hm ma fr0 lo0 K hR0 hR1 hR2 hR3 hR4 hR5 hR6 hR7 (s_at mo_4 ((q_at mo_4) + 1)) _ depth (fun z => hg (by unfold f_Mo_doLoop; rw [bndM_r w_1, bndM_r w_2, bndM_r w_3, bndM_r w_4, if_neg c_5, bndM_n z]))) hP hD hK hS hA hC hZ hnt hlocks L_1225 L_1226 L_90 L_1227 k_Mo_head ⟨(by show _ ≤ fr0 + 9; omega), (by show _ ≤ lo0 + 145; omega)⟩ rfl rfl hl.1 (Nat.le_of_ble_eq_true rfl) d_Mo_doLoop_49 rfl (fun q z => by unfold f_Mo_doLoop; rw [bndM_r w_1, bndM_r w_2, bndM_r w_3, bndM_r w_4, if_neg c_5, bndM_l z]) (fun r_6 mo_6 H locs w_6 hP hD hS => ?_)
    refine mr_Vv (g := (f_Mo_hang mo_6 r_1 r_6)) (As := [.int r_1, .int r_6]) (rest := []) ⟨hx, hb, hml, hown, hts0⟩ (m_Mo_hang l hlt dC dI cI cZ sa rk hm ma mo_6 _ r_1 r_6 (fun z => hg (by unfold f_Mo_doLoop; rw [bndM_r w_1, bndM_r w_2, bndM_r w_3, bndM_r w_4, if_neg c_5, bndM_r w_6, bndM_n z]))) hP hD hK hS hA hC hZ hnt hlocks L_1115 L_1117 L_69 L_90 L_1118 k_Mo_hang ⟨(by show _ ≤ fr0 + 9; omega), (by show _ ≤ lo0 + 145; omega)⟩ rfl rfl hl.1 (Nat.le_of_ble_eq_true rfl) d_Mo_doLoop_52 rfl (fun q z => by unfold f_Mo_doLoop; rw [bndM_r w_1, bndM_r w_2, bndM_r w_3, bndM_r w_4, if_neg c_5, bndM_r w_6, bndM_l z]) (fun mo_7 H locs w_7 hP hD hS => ?_)
    refine lv_aload_n hx hb d_Mo_doLoop_55 rfl (lv_at hl 1 rfl) ?_
    refine mr_Vv (g := (f_Mo_semicolon mo_7)) (As := []) (rest := []) ⟨hx, hb, hml, hown, hts0⟩ (m_Mo_semicolon l hlt dC dI cI cZ sa rk hm ma mo_7 _  (fun z => hg (by unfold f_Mo_doLoop; rw [bndM_r w_1, bndM_r w_2, bndM_r w_3, bndM_r w_4, if_neg c_5, bndM_r w_6, bndM_r w_7, bndM_n z]))) hP hD hK hS hA hC hZ hnt hlocks L_1209 L_1211 L_79 L_90 L_1212 k_Mo_semicolon ⟨(by show _ ≤ fr0 + 9; omega), (by show _ ≤ lo0 + 145; omega)⟩ rfl rfl hl.1 (Nat.le_of_ble_eq_true rfl) d_Mo_doLoop_56 rfl (fun q z => by unfold f_Mo_doLoop; rw [bndM_r w_1, bndM_r w_2, bndM_r w_3, bndM_r w_4, if_neg c_5, bndM_r w_6, bndM_r w_7, bndM_l z]) (fun mo_8 H locs w_8 hP hD hS => ?_)
    refine lv_iload_n hx hb d_Mo_doLoop_59 rfl (lv_at hl 0 rfl) ?_
    exact mr_iret (v := r_1) (mo := mo_8) hx hb hr hlocks hK hP hD hS (by unfold f_Mo_doLoop; rw [bndM_r w_1, bndM_r w_2, bndM_r w_3, bndM_r w_4, if_neg c_5, bndM_r w_6, bndM_r w_7, bndM_r w_8]) d_Mo_doLoop_60
  · refine lv_aload_n hx hb d_Mo_doLoop_27 rfl (lv_at hl 1 rfl) ?_
    refine lv_aload_n hx hb d_Mo_doLoop_28 rfl (lv_at hl 1 rfl) ?_
    refine va_get (D := (dC, dI)) (ci := 6) (v := .int (q_at mo_4)) (C := R_Mo) (T := T_Mo) (N := 31) hx hb hts u_Mo hown hK hP 0 rfl rfl 6 (by decide) (hts _ L_927) (fun _ h9 => h9) rfl d_Mo_doLoop_29 ?_
    refine mr_Vv (g := (f_Mo_refuse mo_4 (q_at mo_4))) (As := [.int (q_at mo_4)]) (rest := []) ⟨hx, hb, hml, hown, hts0⟩ (m_Mo_refuse l hlt dC dI cI cZ sa rk hm ma mo_4 _ (q_at mo_4) ) hP hD hK hS hA hC hZ hnt hlocks L_1072 L_1074 L_64 L_90 L_1075 k_Mo_refuse ⟨(by show _ ≤ fr0 + 9; omega), (by show _ ≤ lo0 + 145; omega)⟩ rfl rfl hl.1 (Nat.le_of_ble_eq_true rfl) d_Mo_doLoop_32 rfl (fun q z => by unfold f_Mo_doLoop; rw [bndM_r w_1, bndM_r w_2, bndM_r w_3, bndM_r w_4, if_pos c_5, bndM_l z]) (fun mo_9 H locs w_9 hP hD hS => ?_)
    refine lv_aload_n hx hb d_Mo_doLoop_35 rfl (lv_at hl 1 rfl) ?_
    refine lv_dup hx hb d_Mo_doLoop_36 rfl ?_
    refine va_get (D := (dC, dI)) (ci := 6) (v := .int (q_at mo_9)) (C := R_Mo) (T := T_Mo) (N := 31) hx hb hts u_Mo hown hK hP 0 rfl rfl 6 (by decide) (hts _ L_927) (fun _ h9 => h9) rfl d_Mo_doLoop_37 ?_
    refine lv_iconst (v := 1) hx hb d_Mo_doLoop_40 (by decide) ?_
    refine lv_iadd hx hb d_Mo_doLoop_41 ?_
    refine va_put (D := (dC, dI)) (ci := 6) (v := .int ((q_at mo_9) + 1)) (ty := .int) (C := R_Mo) (T := T_Mo) (N := 31) hx hb hts u_Mo ty_Mo tk_Mo nm_Mo hown hK hP hD hS 0 rfl rfl 6 (by decide) (hts _ L_927) (fun _ h9 => h9) rfl (by decide +kernel) rfl rfl (Nat.le_of_ble_eq_true rfl) d_Mo_doLoop_42 (fun H locs hP hD hS => ?_)
    have hP : va_P (dC, dI) cls (wM cI cZ hm ma (s_at mo_9 ((q_at mo_9) + 1))) H := hP
    have hD : va_D A (wM cI cZ hm ma (s_at mo_9 ((q_at mo_9) + 1))) := hD
    refine lv_aload_n hx hb d_Mo_doLoop_45 rfl (lv_at hl 1 rfl) ?_
    refine lv_iload_n hx hb d_Mo_doLoop_46 rfl (lv_at hl 0 rfl) ?_
    refine lv_aload_n hx hb d_Mo_doLoop_47 rfl (lv_at hl 1 rfl) ?_
    refine lv_iload_n hx hb d_Mo_doLoop_48 rfl (lv_at hl 2 rfl) ?_
    refine mr_Si (g := (f_Mo_head K (s_at mo_9 ((q_at mo_9) + 1)) depth)) (As := [.ref hm, .int depth]) (rest := [.int r_1, .ref hm]) ⟨hx, hb, hml, hown, hts0⟩ (m_Mo_head l hlt dC dI cI cZ sa rk hm ma fr0 lo0 K hR0 hR1 hR2 hR3 hR4 hR5 hR6 hR7 (s_at mo_9 ((q_at mo_9) + 1)) _ depth (fun z => hg (by unfold f_Mo_doLoop; rw [bndM_r w_1, bndM_r w_2, bndM_r w_3, bndM_r w_4, if_pos c_5, bndM_r w_9, bndM_n z]))) hP hD hK hS hA hC hZ hnt hlocks L_1225 L_1226 L_90 L_1227 k_Mo_head ⟨(by show _ ≤ fr0 + 9; omega), (by show _ ≤ lo0 + 145; omega)⟩ rfl rfl hl.1 (Nat.le_of_ble_eq_true rfl) d_Mo_doLoop_49 rfl (fun q z => by unfold f_Mo_doLoop; rw [bndM_r w_1, bndM_r w_2, bndM_r w_3, bndM_r w_4, if_pos c_5, bndM_r w_9, bndM_l z]) (fun r_10 mo_10 H locs w_10 hP hD hS => ?_)
    refine mr_Vv (g := (f_Mo_hang mo_10 r_1 r_10)) (As := [.int r_1, .int r_10]) (rest := []) ⟨hx, hb, hml, hown, hts0⟩ (m_Mo_hang l hlt dC dI cI cZ sa rk hm ma mo_10 _ r_1 r_10 (fun z => hg (by unfold f_Mo_doLoop; rw [bndM_r w_1, bndM_r w_2, bndM_r w_3, bndM_r w_4, if_pos c_5, bndM_r w_9, bndM_r w_10, bndM_n z]))) hP hD hK hS hA hC hZ hnt hlocks L_1115 L_1117 L_69 L_90 L_1118 k_Mo_hang ⟨(by show _ ≤ fr0 + 9; omega), (by show _ ≤ lo0 + 145; omega)⟩ rfl rfl hl.1 (Nat.le_of_ble_eq_true rfl) d_Mo_doLoop_52 rfl (fun q z => by unfold f_Mo_doLoop; rw [bndM_r w_1, bndM_r w_2, bndM_r w_3, bndM_r w_4, if_pos c_5, bndM_r w_9, bndM_r w_10, bndM_l z]) (fun mo_11 H locs w_11 hP hD hS => ?_)
    refine lv_aload_n hx hb d_Mo_doLoop_55 rfl (lv_at hl 1 rfl) ?_
    refine mr_Vv (g := (f_Mo_semicolon mo_11)) (As := []) (rest := []) ⟨hx, hb, hml, hown, hts0⟩ (m_Mo_semicolon l hlt dC dI cI cZ sa rk hm ma mo_11 _  (fun z => hg (by unfold f_Mo_doLoop; rw [bndM_r w_1, bndM_r w_2, bndM_r w_3, bndM_r w_4, if_pos c_5, bndM_r w_9, bndM_r w_10, bndM_r w_11, bndM_n z]))) hP hD hK hS hA hC hZ hnt hlocks L_1209 L_1211 L_79 L_90 L_1212 k_Mo_semicolon ⟨(by show _ ≤ fr0 + 9; omega), (by show _ ≤ lo0 + 145; omega)⟩ rfl rfl hl.1 (Nat.le_of_ble_eq_true rfl) d_Mo_doLoop_56 rfl (fun q z => by unfold f_Mo_doLoop; rw [bndM_r w_1, bndM_r w_2, bndM_r w_3, bndM_r w_4, if_pos c_5, bndM_r w_9, bndM_r w_10, bndM_r w_11, bndM_l z]) (fun mo_12 H locs w_12 hP hD hS => ?_)
    refine lv_iload_n hx hb d_Mo_doLoop_59 rfl (lv_at hl 0 rfl) ?_
    exact mr_iret (v := r_1) (mo := mo_12) hx hb hr hlocks hK hP hD hS (by unfold f_Mo_doLoop; rw [bndM_r w_1, bndM_r w_2, bndM_r w_3, bndM_r w_4, if_pos c_5, bndM_r w_9, bndM_r w_10, bndM_r w_11, bndM_r w_12]) d_Mo_doLoop_60
def f_Mo_whileLoop (K : Nat → List Int32 → MO → Rm) (mo : MO) (depth : Int32) (own : Int32) : Rm := (bndM (f_Mo_plain mo 8) (fun r_1 mo_1 => (bndM (f_Mo_head K mo_1 depth) (fun r_2 mo_2 => (bndM (f_Mo_hang mo_2 r_1 r_2) (fun _ mo_3 => (bndM (f_Mo_body K mo_3 depth own) (fun r_4 mo_4 => (bndM (f_Mo_hang mo_4 r_1 r_4) (fun _ mo_5 => (some (.inr (r_1, mo_5)))))))))))))
set_option maxRecDepth 100000 in
set_option maxHeartbeats 4000000 in
theorem m_Mo_whileLoop (l : Launch) (hlt : l.stackTraces = false) (dC : Nat → ClassId) (dI : Nat → Nat → Nat) (cI cZ : ClassId) (sa rk hm : Nat) (ma : Nat → Nat) (fr0 lo0 : Nat) (K : Nat → List Int32 → MO → Rm) (hR0 : ∀ (mo : MO) (sz : Nat) (p0 p1 : Int32), K 0 [p0, p1] mo ≠ none → cXi l y_Mo_expression c_Mo_expression 5 .int fr0 lo0 (dC, dI) cI cZ sa rk hm ma mo sz [.ref hm, .int p0, .int p1] (K 0 [p0, p1] mo)) (hR1 : ∀ (mo : MO) (sz : Nat) (p0 p1 : Int32), K 1 [p0, p1] mo ≠ none → cXi l y_Mo_assignment c_Mo_assignment 5 .int fr0 lo0 (dC, dI) cI cZ sa rk hm ma mo sz [.ref hm, .int p0, .int p1] (K 1 [p0, p1] mo)) (hR2 : ∀ (mo : MO) (sz : Nat) (p0 p1 p2 : Int32), K 2 [p0, p1, p2] mo ≠ none → cXi l y_Mo_binary c_Mo_binary 7 .int fr0 lo0 (dC, dI) cI cZ sa rk hm ma mo sz [.ref hm, .int p0, .int p1, .int p2] (K 2 [p0, p1, p2] mo)) (hR3 : ∀ (mo : MO) (sz : Nat) (p0 : Int32), K 3 [p0] mo ≠ none → cXi l y_Mo_unary c_Mo_unary 5 .int fr0 lo0 (dC, dI) cI cZ sa rk hm ma mo sz [.ref hm, .int p0] (K 3 [p0] mo)) (hR4 : ∀ (mo : MO) (sz : Nat) (p0 p1 : Int32), K 4 [p0, p1] mo ≠ none → cXi l y_Mo_member c_Mo_member 6 .int fr0 lo0 (dC, dI) cI cZ sa rk hm ma mo sz [.ref hm, .int p0, .int p1] (K 4 [p0, p1] mo)) (hR5 : ∀ (mo : MO) (sz : Nat) (p0 p1 : Int32), K 5 [p0, p1] mo ≠ none → cXi l y_Mo_statement c_Mo_statement 3 .int fr0 lo0 (dC, dI) cI cZ sa rk hm ma mo sz [.ref hm, .int p0, .int p1] (K 5 [p0, p1] mo)) (hR6 : ∀ (mo : MO) (sz : Nat) (p0 p1 p2 : Int32), K 6 [p0, p1, p2] mo ≠ none → cXv l y_Mo_statements c_Mo_statements 8 fr0 lo0 (dC, dI) cI cZ sa rk hm ma mo sz [.ref hm, .int p0, .int p1, .int p2] (K 6 [p0, p1, p2] mo)) (hR7 : ∀ (mo : MO) (sz : Nat) (p0 : Int32), K 7 [p0] mo ≠ none → cXi l y_Mo_block c_Mo_block 4 .int fr0 lo0 (dC, dI) cI cZ sa rk hm ma mo sz [.ref hm, .int p0] (K 7 [p0] mo)) (mo : MO) (sz : Nat) (depth : Int32) (own : Int32) (hg : (f_Mo_whileLoop K mo depth own) ≠ none) : cXi l y_Mo_whileLoop c_Mo_whileLoop 4 .int (fr0 + 9) (lo0 + 145) (dC, dI) cI cZ sa rk hm ma mo sz [.ref hm, .int depth, .int own] (f_Mo_whileLoop K mo depth own) := by
  refine vx_ofW (cc := c_Mo_whileLoop) (maxL := 4) (ret := (some .int)) (by decide) rfl ?_
  intro p e s m args below meth c s₁ B hml hnt hv
  obtain ⟨rfl, hsz, hP, hK, hD0, hC, hZ⟩ := hv
  have hx := B.exec
  have hb := B.bytes
  have hr := B.returns
  have hts0 := atoms_spec (ws := wy y_Mo_whileLoop c_Mo_whileLoop 4 (some .int)) B.pre
  have hts := htsL hts0
  have hown : s.vm.findClass R_Mo = some m.cls := findClass_of_methodNamed B.named
  have hlocks := B.notSynchronized
  subst hsz
  have hD := hD0.self (sz := s.heap.size)
  generalize hAe : va_A (wM cI cZ hm ma mo) s.heap.size = A at hD hZ ⊢
  have hA : ∀ q : Nat, s.heap.size ≤ q → A q := fun q h => by rw [← hAe]; exact Or.inr h
  have hS : va_S A s.heap s.heap [] := va_S.rf
  have hl := lv_entry ([.ref hm, .int depth, .int own]) (n := 4) (Nat.le_of_ble_eq_true rfl)
  rw [lg_entry_eq]
  generalize (lg_sl ([.ref hm, .int depth, .int own]) ++ List.replicate (4 - (lg_sl ([.ref hm, .int depth, .int own])).length) Slot.unset).toArray = ls at hl ⊢
  have hl : lv_has ls 4 [(0, .ref hm), (1, .int depth), (2, .int own)] := hl
  refine lv_aload_n hx hb d_Mo_whileLoop_0 rfl (lv_at hl 0 rfl) ?_
  refine lv_bipush (v := 8) hx hb d_Mo_whileLoop_1 (by decide) ?_
  refine mr_Vi (g := (f_Mo_plain mo 8)) (As := [.int 8]) (rest := []) ⟨hx, hb, hml, hown, hts0⟩ (m_Mo_plain l hlt dC dI cI cZ sa rk hm ma mo _ 8 (fun z => hg (by unfold f_Mo_whileLoop; rw [bndM_n z]))) hP hD hK hS hA hC hZ hnt hlocks L_1128 L_1130 L_70 L_90 L_1131 k_Mo_plain ⟨(by show _ ≤ fr0 + 9; omega), (by show _ ≤ lo0 + 145; omega)⟩ rfl rfl hl.1 (Nat.le_of_ble_eq_true rfl) d_Mo_whileLoop_3 rfl (fun q z => by unfold f_Mo_whileLoop; rw [bndM_l z]) (fun r_1 mo_1 H locs w_1 hP hD hS => ?_)
  refine lv_istore_n (lv' := [(3, .int r_1), (0, .ref hm), (1, .int depth), (2, .int own)]) hx hb d_Mo_whileLoop_6 rfl hl (by decide) rfl (fun ls hl => ?_)
  refine lv_aload_n hx hb d_Mo_whileLoop_7 rfl (lv_at hl 1 rfl) ?_
  refine lv_iload_n hx hb d_Mo_whileLoop_8 rfl (lv_at hl 0 rfl) ?_
  refine lv_aload_n hx hb d_Mo_whileLoop_9 rfl (lv_at hl 1 rfl) ?_
  refine lv_iload_n hx hb d_Mo_whileLoop_10 rfl (lv_at hl 2 rfl) ?_
  refine mr_Si (g := (f_Mo_head K mo_1 depth)) (As := [.ref hm, .int depth]) (rest := [.int r_1, .ref hm]) ⟨hx, hb, hml, hown, hts0⟩ (m_Mo_head l hlt dC dI cI cZ sa rk hm ma fr0 lo0 K hR0 hR1 hR2 hR3 hR4 hR5 hR6 hR7 mo_1 _ depth (fun z => hg (by unfold f_Mo_whileLoop; rw [bndM_r w_1, bndM_n z]))) hP hD hK hS hA hC hZ hnt hlocks L_1225 L_1226 L_90 L_1227 k_Mo_head ⟨(by show _ ≤ fr0 + 9; omega), (by show _ ≤ lo0 + 145; omega)⟩ rfl rfl hl.1 (Nat.le_of_ble_eq_true rfl) d_Mo_whileLoop_11 rfl (fun q z => by unfold f_Mo_whileLoop; rw [bndM_r w_1, bndM_l z]) (fun r_2 mo_2 H locs w_2 hP hD hS => ?_)
  refine mr_Vv (g := (f_Mo_hang mo_2 r_1 r_2)) (As := [.int r_1, .int r_2]) (rest := []) ⟨hx, hb, hml, hown, hts0⟩ (m_Mo_hang l hlt dC dI cI cZ sa rk hm ma mo_2 _ r_1 r_2 (fun z => hg (by unfold f_Mo_whileLoop; rw [bndM_r w_1, bndM_r w_2, bndM_n z]))) hP hD hK hS hA hC hZ hnt hlocks L_1115 L_1117 L_69 L_90 L_1118 k_Mo_hang ⟨(by show _ ≤ fr0 + 9; omega), (by show _ ≤ lo0 + 145; omega)⟩ rfl rfl hl.1 (Nat.le_of_ble_eq_true rfl) d_Mo_whileLoop_14 rfl (fun q z => by unfold f_Mo_whileLoop; rw [bndM_r w_1, bndM_r w_2, bndM_l z]) (fun mo_3 H locs w_3 hP hD hS => ?_)
  refine lv_aload_n hx hb d_Mo_whileLoop_17 rfl (lv_at hl 1 rfl) ?_
  refine lv_iload_n hx hb d_Mo_whileLoop_18 rfl (lv_at hl 0 rfl) ?_
  refine lv_aload_n hx hb d_Mo_whileLoop_19 rfl (lv_at hl 1 rfl) ?_
  refine lv_iload_n hx hb d_Mo_whileLoop_20 rfl (lv_at hl 2 rfl) ?_
  refine lv_iload_n hx hb d_Mo_whileLoop_21 rfl (lv_at hl 3 rfl) ?_
  refine mr_Si (g := (f_Mo_body K mo_3 depth own)) (As := [.ref hm, .int depth, .int own]) (rest := [.int r_1, .ref hm]) ⟨hx, hb, hml, hown, hts0⟩ (m_Mo_body l hlt dC dI cI cZ sa rk hm ma fr0 lo0 K hR0 hR1 hR2 hR3 hR4 hR5 hR6 hR7 mo_3 _ depth own (fun z => hg (by unfold f_Mo_whileLoop; rw [bndM_r w_1, bndM_r w_2, bndM_r w_3, bndM_n z]))) hP hD hK hS hA hC hZ hnt hlocks L_1222 L_1223 L_90 L_1224 k_Mo_body ⟨(by show _ ≤ fr0 + 9; omega), (by show _ ≤ lo0 + 145; omega)⟩ rfl rfl hl.1 (Nat.le_of_ble_eq_true rfl) d_Mo_whileLoop_22 rfl (fun q z => by unfold f_Mo_whileLoop; rw [bndM_r w_1, bndM_r w_2, bndM_r w_3, bndM_l z]) (fun r_4 mo_4 H locs w_4 hP hD hS => ?_)
  refine mr_Vv (g := (f_Mo_hang mo_4 r_1 r_4)) (As := [.int r_1, .int r_4]) (rest := []) ⟨hx, hb, hml, hown, hts0⟩ (m_Mo_hang l hlt dC dI cI cZ sa rk hm ma mo_4 _ r_1 r_4 (fun z => hg (by unfold f_Mo_whileLoop; rw [bndM_r w_1, bndM_r w_2, bndM_r w_3, bndM_r w_4, bndM_n z]))) hP hD hK hS hA hC hZ hnt hlocks L_1115 L_1117 L_69 L_90 L_1118 k_Mo_hang ⟨(by show _ ≤ fr0 + 9; omega), (by show _ ≤ lo0 + 145; omega)⟩ rfl rfl hl.1 (Nat.le_of_ble_eq_true rfl) d_Mo_whileLoop_25 rfl (fun q z => by unfold f_Mo_whileLoop; rw [bndM_r w_1, bndM_r w_2, bndM_r w_3, bndM_r w_4, bndM_l z]) (fun mo_5 H locs w_5 hP hD hS => ?_)
  refine lv_iload_n hx hb d_Mo_whileLoop_28 rfl (lv_at hl 0 rfl) ?_
  exact mr_iret (v := r_1) (mo := mo_5) hx hb hr hlocks hK hP hD hS (by unfold f_Mo_whileLoop; rw [bndM_r w_1, bndM_r w_2, bndM_r w_3, bndM_r w_4, bndM_r w_5]) d_Mo_whileLoop_29
def f_Mo_part (K : Nat → List Int32 → MO → Rm) (mo : MO) (node : Int32) (depth : Int32) (sg : Int32) : Rm := (bndM (f_Mo_isSign mo sg) (fun r_1 mo_1 => (if r_1 = 0 then (bndM (K 0 [(depth + 1), 1] mo_1) (fun r_3 mo_3 => (bndM (f_Mo_hang mo_3 node r_3) (fun _ mo_4 => (bndM (f_Mo_expect mo_4 sg) (fun _ mo_5 => (some (.inr (0, mo_5))))))))) else (bndM (f_Mo_none mo_1 node) (fun _ mo_6 => (bndM (f_Mo_expect mo_6 sg) (fun _ mo_7 => (some (.inr (0, mo_7))))))))))
set_option maxRecDepth 100000 in
set_option maxHeartbeats 4000000 in
theorem m_Mo_part (l : Launch) (hlt : l.stackTraces = false) (dC : Nat → ClassId) (dI : Nat → Nat → Nat) (cI cZ : ClassId) (sa rk hm : Nat) (ma : Nat → Nat) (fr0 lo0 : Nat) (K : Nat → List Int32 → MO → Rm) (hR0 : ∀ (mo : MO) (sz : Nat) (p0 p1 : Int32), K 0 [p0, p1] mo ≠ none → cXi l y_Mo_expression c_Mo_expression 5 .int fr0 lo0 (dC, dI) cI cZ sa rk hm ma mo sz [.ref hm, .int p0, .int p1] (K 0 [p0, p1] mo)) (hR1 : ∀ (mo : MO) (sz : Nat) (p0 p1 : Int32), K 1 [p0, p1] mo ≠ none → cXi l y_Mo_assignment c_Mo_assignment 5 .int fr0 lo0 (dC, dI) cI cZ sa rk hm ma mo sz [.ref hm, .int p0, .int p1] (K 1 [p0, p1] mo)) (hR2 : ∀ (mo : MO) (sz : Nat) (p0 p1 p2 : Int32), K 2 [p0, p1, p2] mo ≠ none → cXi l y_Mo_binary c_Mo_binary 7 .int fr0 lo0 (dC, dI) cI cZ sa rk hm ma mo sz [.ref hm, .int p0, .int p1, .int p2] (K 2 [p0, p1, p2] mo)) (hR3 : ∀ (mo : MO) (sz : Nat) (p0 : Int32), K 3 [p0] mo ≠ none → cXi l y_Mo_unary c_Mo_unary 5 .int fr0 lo0 (dC, dI) cI cZ sa rk hm ma mo sz [.ref hm, .int p0] (K 3 [p0] mo)) (hR4 : ∀ (mo : MO) (sz : Nat) (p0 p1 : Int32), K 4 [p0, p1] mo ≠ none → cXi l y_Mo_member c_Mo_member 6 .int fr0 lo0 (dC, dI) cI cZ sa rk hm ma mo sz [.ref hm, .int p0, .int p1] (K 4 [p0, p1] mo)) (hR5 : ∀ (mo : MO) (sz : Nat) (p0 p1 : Int32), K 5 [p0, p1] mo ≠ none → cXi l y_Mo_statement c_Mo_statement 3 .int fr0 lo0 (dC, dI) cI cZ sa rk hm ma mo sz [.ref hm, .int p0, .int p1] (K 5 [p0, p1] mo)) (hR6 : ∀ (mo : MO) (sz : Nat) (p0 p1 p2 : Int32), K 6 [p0, p1, p2] mo ≠ none → cXv l y_Mo_statements c_Mo_statements 8 fr0 lo0 (dC, dI) cI cZ sa rk hm ma mo sz [.ref hm, .int p0, .int p1, .int p2] (K 6 [p0, p1, p2] mo)) (hR7 : ∀ (mo : MO) (sz : Nat) (p0 : Int32), K 7 [p0] mo ≠ none → cXi l y_Mo_block c_Mo_block 4 .int fr0 lo0 (dC, dI) cI cZ sa rk hm ma mo sz [.ref hm, .int p0] (K 7 [p0] mo)) (mo : MO) (sz : Nat) (node : Int32) (depth : Int32) (sg : Int32) (hg : (f_Mo_part K mo node depth sg) ≠ none) : cXv l y_Mo_part c_Mo_part 4 (fr0 + 8) (lo0 + 123) (dC, dI) cI cZ sa rk hm ma mo sz [.ref hm, .int node, .int depth, .int sg] (f_Mo_part K mo node depth sg) := by
  refine vx_ofW (cc := c_Mo_part) (maxL := 4) (ret := none) (by decide) rfl ?_
  intro p e s m args below meth c s₁ B hml hnt hv
  obtain ⟨rfl, hsz, hP, hK, hD0, hC, hZ⟩ := hv
  have hx := B.exec
  have hb := B.bytes
  have hr := B.returns
  have hts0 := atoms_spec (ws := wy y_Mo_part c_Mo_part 4 none) B.pre
  have hts := htsL hts0
  have hown : s.vm.findClass R_Mo = some m.cls := findClass_of_methodNamed B.named
  have hlocks := B.notSynchronized
  subst hsz
  have hD := hD0.self (sz := s.heap.size)
  generalize hAe : va_A (wM cI cZ hm ma mo) s.heap.size = A at hD hZ ⊢
  have hA : ∀ q : Nat, s.heap.size ≤ q → A q := fun q h => by rw [← hAe]; exact Or.inr h
  have hS : va_S A s.heap s.heap [] := va_S.rf
  have hl := lv_entry ([.ref hm, .int node, .int depth, .int sg]) (n := 4) (Nat.le_of_ble_eq_true rfl)
  rw [lg_entry_eq]
  generalize (lg_sl ([.ref hm, .int node, .int depth, .int sg]) ++ List.replicate (4 - (lg_sl ([.ref hm, .int node, .int depth, .int sg])).length) Slot.unset).toArray = ls at hl ⊢
  have hl : lv_has ls 4 [(0, .ref hm), (1, .int node), (2, .int depth), (3, .int sg)] := hl
  refine lv_aload_n hx hb d_Mo_part_0 rfl (lv_at hl 0 rfl) ?_
  refine lv_iload_n hx hb d_Mo_part_1 rfl (lv_at hl 3 rfl) ?_
  refine mr_Vi (g := (f_Mo_isSign mo sg)) (As := [.int sg]) (rest := []) ⟨hx, hb, hml, hown, hts0⟩ (m_Mo_isSign l hlt dC dI cI cZ sa rk hm ma mo _ sg (fun z => hg (by unfold f_Mo_part; rw [bndM_n z]))) hP hD hK hS hA hC hZ hnt hlocks L_1053 L_1055 L_60 L_90 L_1056 k_Mo_isSign ⟨(by show _ ≤ fr0 + 8; omega), (by show _ ≤ lo0 + 123; omega)⟩ rfl rfl hl.1 (Nat.le_of_ble_eq_true rfl) d_Mo_part_2 rfl (fun q z => by unfold f_Mo_part; rw [bndM_l z]) (fun r_1 mo_1 H locs w_1 hP hD hS => ?_)
  refine lv_if_eq (tgt := 16) hx hb d_Mo_part_5 (by decide) (fun c_2 => ?_) (fun c_2 => ?_)
  · refine lv_aload_n hx hb d_Mo_part_16 rfl (lv_at hl 0 rfl) ?_
    refine lv_iload_n hx hb d_Mo_part_17 rfl (lv_at hl 1 rfl) ?_
    refine lv_aload_n hx hb d_Mo_part_18 rfl (lv_at hl 0 rfl) ?_
    refine lv_iload_n hx hb d_Mo_part_19 rfl (lv_at hl 2 rfl) ?_
    refine lv_iconst (v := 1) hx hb d_Mo_part_20 (by decide) ?_
    refine lv_iadd hx hb d_Mo_part_21 ?_
    refine lv_iconst (v := 1) hx hb d_Mo_part_22 (by decide) ?_
    refine mr_Si (g := (K 0 [(depth + 1), 1] mo_1)) (As := [.ref hm, .int (depth + 1), .int 1]) (rest := [.int node, .ref hm]) ⟨hx, hb, hml, hown, hts0⟩ (hR0 mo_1 _ (depth + 1) 1 (fun z => hg (by unfold f_Mo_part; rw [bndM_r w_1, if_pos c_2, bndM_n z]))) hP hD hK hS hA hC hZ hnt hlocks L_1135 L_1136 L_90 L_1137 k_Mo_expression ⟨(by show _ ≤ fr0 + 8; omega), (by show _ ≤ lo0 + 123; omega)⟩ rfl rfl hl.1 (Nat.le_of_ble_eq_true rfl) d_Mo_part_23 rfl (fun q z => by unfold f_Mo_part; rw [bndM_r w_1, if_pos c_2, bndM_l z]) (fun r_3 mo_3 H locs w_3 hP hD hS => ?_)
    refine mr_Vv (g := (f_Mo_hang mo_3 node r_3)) (As := [.int node, .int r_3]) (rest := []) ⟨hx, hb, hml, hown, hts0⟩ (m_Mo_hang l hlt dC dI cI cZ sa rk hm ma mo_3 _ node r_3 (fun z => hg (by unfold f_Mo_part; rw [bndM_r w_1, if_pos c_2, bndM_r w_3, bndM_n z]))) hP hD hK hS hA hC hZ hnt hlocks L_1115 L_1117 L_69 L_90 L_1118 k_Mo_hang ⟨(by show _ ≤ fr0 + 8; omega), (by show _ ≤ lo0 + 123; omega)⟩ rfl rfl hl.1 (Nat.le_of_ble_eq_true rfl) d_Mo_part_26 rfl (fun q z => by unfold f_Mo_part; rw [bndM_r w_1, if_pos c_2, bndM_r w_3, bndM_l z]) (fun mo_4 H locs w_4 hP hD hS => ?_)
    refine lv_aload_n hx hb d_Mo_part_29 rfl (lv_at hl 0 rfl) ?_
    refine lv_iload_n hx hb d_Mo_part_30 rfl (lv_at hl 3 rfl) ?_
    refine mr_Vv (g := (f_Mo_expect mo_4 sg)) (As := [.int sg]) (rest := []) ⟨hx, hb, hml, hown, hts0⟩ (m_Mo_expect l hlt dC dI cI cZ sa rk hm ma mo_4 _ sg (fun z => hg (by unfold f_Mo_part; rw [bndM_r w_1, if_pos c_2, bndM_r w_3, bndM_r w_4, bndM_n z]))) hP hD hK hS hA hC hZ hnt hlocks L_1111 L_1113 L_68 L_90 L_1114 k_Mo_expect ⟨(by show _ ≤ fr0 + 8; omega), (by show _ ≤ lo0 + 123; omega)⟩ rfl rfl hl.1 (Nat.le_of_ble_eq_true rfl) d_Mo_part_31 rfl (fun q z => by unfold f_Mo_part; rw [bndM_r w_1, if_pos c_2, bndM_r w_3, bndM_r w_4, bndM_l z]) (fun mo_5 H locs w_5 hP hD hS => ?_)
    exact mr_vret (mo := mo_5) hx hb hr hlocks hK hP hD hS (by unfold f_Mo_part; rw [bndM_r w_1, if_pos c_2, bndM_r w_3, bndM_r w_4, bndM_r w_5]) d_Mo_part_34
  · refine lv_aload_n hx hb d_Mo_part_8 rfl (lv_at hl 0 rfl) ?_
    refine lv_iload_n hx hb d_Mo_part_9 rfl (lv_at hl 1 rfl) ?_
    refine mr_Vv (g := (f_Mo_none mo_1 node)) (As := [.int node]) (rest := []) ⟨hx, hb, hml, hown, hts0⟩ (m_Mo_none l hlt dC dI cI cZ sa rk hm ma mo_1 _ node (fun z => hg (by unfold f_Mo_part; rw [bndM_r w_1, if_neg c_2, bndM_n z]))) hP hD hK hS hA hC hZ hnt hlocks L_1173 L_1175 L_73 L_90 L_1176 k_Mo_none ⟨(by show _ ≤ fr0 + 8; omega), (by show _ ≤ lo0 + 123; omega)⟩ rfl rfl hl.1 (Nat.le_of_ble_eq_true rfl) d_Mo_part_10 rfl (fun q z => by unfold f_Mo_part; rw [bndM_r w_1, if_neg c_2, bndM_l z]) (fun mo_6 H locs w_6 hP hD hS => ?_)
    refine lv_goto (tgt := 29) hx hb d_Mo_part_13 (by decide) ?_
    refine lv_aload_n hx hb d_Mo_part_29 rfl (lv_at hl 0 rfl) ?_
    refine lv_iload_n hx hb d_Mo_part_30 rfl (lv_at hl 3 rfl) ?_
    refine mr_Vv (g := (f_Mo_expect mo_6 sg)) (As := [.int sg]) (rest := []) ⟨hx, hb, hml, hown, hts0⟩ (m_Mo_expect l hlt dC dI cI cZ sa rk hm ma mo_6 _ sg (fun z => hg (by unfold f_Mo_part; rw [bndM_r w_1, if_neg c_2, bndM_r w_6, bndM_n z]))) hP hD hK hS hA hC hZ hnt hlocks L_1111 L_1113 L_68 L_90 L_1114 k_Mo_expect ⟨(by show _ ≤ fr0 + 8; omega), (by show _ ≤ lo0 + 123; omega)⟩ rfl rfl hl.1 (Nat.le_of_ble_eq_true rfl) d_Mo_part_31 rfl (fun q z => by unfold f_Mo_part; rw [bndM_r w_1, if_neg c_2, bndM_r w_6, bndM_l z]) (fun mo_7 H locs w_7 hP hD hS => ?_)
    exact mr_vret (mo := mo_7) hx hb hr hlocks hK hP hD hS (by unfold f_Mo_part; rw [bndM_r w_1, if_neg c_2, bndM_r w_6, bndM_r w_7]) d_Mo_part_34
def f_Mo_forLoop (K : Nat → List Int32 → MO → Rm) (mo : MO) (depth : Int32) (own : Int32) : Rm := (bndM (f_Mo_plain mo 9) (fun r_1 mo_1 => (bndM (f_Mo_expect mo_1 60) (fun _ mo_2 => (bndM (f_Mo_isWord mo_2 22) (fun r_3 mo_3 => (if r_3 = 0 then (bndM (f_Mo_isSign mo_3 67) (fun r_5 mo_5 => (if r_5 = 0 then (bndM (K 0 [(depth + 1), 0] mo_5) (fun r_7 mo_7 => (bndM (f_Mo_hang mo_7 r_1 r_7) (fun _ mo_8 => (bndM (f_Mo_isWord mo_8 13) (fun r_9 mo_9 => (if r_9 = 0 then (bndM (f_Mo_isWord mo_9 13) (fun r_11 mo_11 => (if r_11 = 0 then (bndM (f_Mo_expect mo_11 67) (fun _ mo_13 => (bndM (f_Mo_part K mo_13 r_1 depth 67) (fun _ mo_14 => (bndM (f_Mo_part K mo_14 r_1 depth 61) (fun _ mo_15 => (bndM (f_Mo_body K mo_15 depth own) (fun r_16 mo_16 => (bndM (f_Mo_hang mo_16 r_1 r_16) (fun _ mo_17 => (some (.inr (r_1, mo_17))))))))))))) else (if inb r_1 2600 then (bndM (K 0 [(depth + 1), 1] (s_at (s_kind mo_11 (upd (q_kind mo_11) (r_1 : Int32).toNatClampNeg 10)) ((q_at mo_11) + 1))) (fun r_19 mo_19 => (bndM (f_Mo_hang mo_19 r_1 r_19) (fun _ mo_20 => (bndM (f_Mo_expect mo_20 61) (fun _ mo_21 => (bndM (f_Mo_body K mo_21 depth own) (fun r_22 mo_22 => (bndM (f_Mo_hang mo_22 r_1 r_22) (fun _ mo_23 => (some (.inr (r_1, mo_23))))))))))))) else none)))) else (bndM (f_Mo_changed mo_9 r_7 (q_at mo_9)) (fun _ mo_24 => (bndM (f_Mo_isWord mo_24 13) (fun r_25 mo_25 => (if r_25 = 0 then (bndM (f_Mo_expect mo_25 67) (fun _ mo_27 => (bndM (f_Mo_part K mo_27 r_1 depth 67) (fun _ mo_28 => (bndM (f_Mo_part K mo_28 r_1 depth 61) (fun _ mo_29 => (bndM (f_Mo_body K mo_29 depth own) (fun r_30 mo_30 => (bndM (f_Mo_hang mo_30 r_1 r_30) (fun _ mo_31 => (some (.inr (r_1, mo_31))))))))))))) else (if inb r_1 2600 then (bndM (K 0 [(depth + 1), 1] (s_at (s_kind mo_25 (upd (q_kind mo_25) (r_1 : Int32).toNatClampNeg 10)) ((q_at mo_25) + 1))) (fun r_33 mo_33 => (bndM (f_Mo_hang mo_33 r_1 r_33) (fun _ mo_34 => (bndM (f_Mo_expect mo_34 61) (fun _ mo_35 => (bndM (f_Mo_body K mo_35 depth own) (fun r_36 mo_36 => (bndM (f_Mo_hang mo_36 r_1 r_36) (fun _ mo_37 => (some (.inr (r_1, mo_37))))))))))))) else none))))))))))))) else (bndM (f_Mo_none mo_5 r_1) (fun _ mo_38 => (bndM (f_Mo_expect mo_38 67) (fun _ mo_39 => (bndM (f_Mo_part K mo_39 r_1 depth 67) (fun _ mo_40 => (bndM (f_Mo_part K mo_40 r_1 depth 61) (fun _ mo_41 => (bndM (f_Mo_body K mo_41 depth own) (fun r_42 mo_42 => (bndM (f_Mo_hang mo_42 r_1 r_42) (fun _ mo_43 => (some (.inr (r_1, mo_43)))))))))))))))))) else (bndM (f_Mo_plain mo_3 2) (fun r_44 mo_44 => (bndM (f_Mo_declarations K mo_44 r_44 depth 0) (fun r_45 mo_45 => (if r_45 = 1 then (bndM (f_Mo_hang mo_45 r_1 r_44) (fun _ mo_53 => (bndM (f_Mo_isWord mo_53 13) (fun r_54 mo_54 => (if r_54 = 0 then (bndM (f_Mo_expect mo_54 67) (fun _ mo_56 => (bndM (f_Mo_part K mo_56 r_1 depth 67) (fun _ mo_57 => (bndM (f_Mo_part K mo_57 r_1 depth 61) (fun _ mo_58 => (bndM (f_Mo_body K mo_58 depth own) (fun r_59 mo_59 => (bndM (f_Mo_hang mo_59 r_1 r_59) (fun _ mo_60 => (some (.inr (r_1, mo_60))))))))))))) else (if inb r_1 2600 then (bndM (K 0 [(depth + 1), 1] (s_at (s_kind mo_54 (upd (q_kind mo_54) (r_1 : Int32).toNatClampNeg 10)) ((q_at mo_54) + 1))) (fun r_62 mo_62 => (bndM (f_Mo_hang mo_62 r_1 r_62) (fun _ mo_63 => (bndM (f_Mo_expect mo_63 61) (fun _ mo_64 => (bndM (f_Mo_body K mo_64 depth own) (fun r_65 mo_65 => (bndM (f_Mo_hang mo_65 r_1 r_65) (fun _ mo_66 => (some (.inr (r_1, mo_66))))))))))))) else none)))))) else (bndM (f_Mo_hang mo_45 r_1 r_44) (fun _ mo_47 => (bndM (f_Mo_expect mo_47 67) (fun _ mo_48 => (bndM (f_Mo_part K mo_48 r_1 depth 67) (fun _ mo_49 => (bndM (f_Mo_part K mo_49 r_1 depth 61) (fun _ mo_50 => (bndM (f_Mo_body K mo_50 depth own) (fun r_51 mo_51 => (bndM (f_Mo_hang mo_51 r_1 r_51) (fun _ mo_52 => (some (.inr (r_1, mo_52)))))))))))))))))))))))))))
set_option maxRecDepth 100000 in
set_option maxHeartbeats 4000000 in
theorem m_Mo_forLoop (l : Launch) (hlt : l.stackTraces = false) (dC : Nat → ClassId) (dI : Nat → Nat → Nat) (cI cZ : ClassId) (sa rk hm : Nat) (ma : Nat → Nat) (fr0 lo0 : Nat) (K : Nat → List Int32 → MO → Rm) (hR0 : ∀ (mo : MO) (sz : Nat) (p0 p1 : Int32), K 0 [p0, p1] mo ≠ none → cXi l y_Mo_expression c_Mo_expression 5 .int fr0 lo0 (dC, dI) cI cZ sa rk hm ma mo sz [.ref hm, .int p0, .int p1] (K 0 [p0, p1] mo)) (hR1 : ∀ (mo : MO) (sz : Nat) (p0 p1 : Int32), K 1 [p0, p1] mo ≠ none → cXi l y_Mo_assignment c_Mo_assignment 5 .int fr0 lo0 (dC, dI) cI cZ sa rk hm ma mo sz [.ref hm, .int p0, .int p1] (K 1 [p0, p1] mo)) (hR2 : ∀ (mo : MO) (sz : Nat) (p0 p1 p2 : Int32), K 2 [p0, p1, p2] mo ≠ none → cXi l y_Mo_binary c_Mo_binary 7 .int fr0 lo0 (dC, dI) cI cZ sa rk hm ma mo sz [.ref hm, .int p0, .int p1, .int p2] (K 2 [p0, p1, p2] mo)) (hR3 : ∀ (mo : MO) (sz : Nat) (p0 : Int32), K 3 [p0] mo ≠ none → cXi l y_Mo_unary c_Mo_unary 5 .int fr0 lo0 (dC, dI) cI cZ sa rk hm ma mo sz [.ref hm, .int p0] (K 3 [p0] mo)) (hR4 : ∀ (mo : MO) (sz : Nat) (p0 p1 : Int32), K 4 [p0, p1] mo ≠ none → cXi l y_Mo_member c_Mo_member 6 .int fr0 lo0 (dC, dI) cI cZ sa rk hm ma mo sz [.ref hm, .int p0, .int p1] (K 4 [p0, p1] mo)) (hR5 : ∀ (mo : MO) (sz : Nat) (p0 p1 : Int32), K 5 [p0, p1] mo ≠ none → cXi l y_Mo_statement c_Mo_statement 3 .int fr0 lo0 (dC, dI) cI cZ sa rk hm ma mo sz [.ref hm, .int p0, .int p1] (K 5 [p0, p1] mo)) (hR6 : ∀ (mo : MO) (sz : Nat) (p0 p1 p2 : Int32), K 6 [p0, p1, p2] mo ≠ none → cXv l y_Mo_statements c_Mo_statements 8 fr0 lo0 (dC, dI) cI cZ sa rk hm ma mo sz [.ref hm, .int p0, .int p1, .int p2] (K 6 [p0, p1, p2] mo)) (hR7 : ∀ (mo : MO) (sz : Nat) (p0 : Int32), K 7 [p0] mo ≠ none → cXi l y_Mo_block c_Mo_block 4 .int fr0 lo0 (dC, dI) cI cZ sa rk hm ma mo sz [.ref hm, .int p0] (K 7 [p0] mo)) (mo : MO) (sz : Nat) (depth : Int32) (own : Int32) (hg : (f_Mo_forLoop K mo depth own) ≠ none) : cXi l y_Mo_forLoop c_Mo_forLoop 6 .int (fr0 + 10) (lo0 + 172) (dC, dI) cI cZ sa rk hm ma mo sz [.ref hm, .int depth, .int own] (f_Mo_forLoop K mo depth own) := by
  refine vx_ofW (cc := c_Mo_forLoop) (maxL := 6) (ret := (some .int)) (by decide) rfl ?_
  intro p e s m args below meth c s₁ B hml hnt hv
  obtain ⟨rfl, hsz, hP, hK, hD0, hC, hZ⟩ := hv
  have hx := B.exec
  have hb := B.bytes
  have hr := B.returns
  have hts0 := atoms_spec (ws := wy y_Mo_forLoop c_Mo_forLoop 6 (some .int)) B.pre
  have hts := htsL hts0
  have hown : s.vm.findClass R_Mo = some m.cls := findClass_of_methodNamed B.named
  have hlocks := B.notSynchronized
  subst hsz
  have hD := hD0.self (sz := s.heap.size)
  generalize hAe : va_A (wM cI cZ hm ma mo) s.heap.size = A at hD hZ ⊢
  have hA : ∀ q : Nat, s.heap.size ≤ q → A q := fun q h => by rw [← hAe]; exact Or.inr h
  have hS : va_S A s.heap s.heap [] := va_S.rf
  have hl := lv_entry ([.ref hm, .int depth, .int own]) (n := 6) (Nat.le_of_ble_eq_true rfl)
  rw [lg_entry_eq]
  generalize (lg_sl ([.ref hm, .int depth, .int own]) ++ List.replicate (6 - (lg_sl ([.ref hm, .int depth, .int own])).length) Slot.unset).toArray = ls at hl ⊢
  have hl : lv_has ls 6 [(0, .ref hm), (1, .int depth), (2, .int own)] := hl
  refine lv_aload_n hx hb d_Mo_forLoop_0 rfl (lv_at hl 0 rfl) ?_
  refine lv_bipush (v := 9) hx hb d_Mo_forLoop_1 (by decide) ?_
  refine mr_Vi (g := (f_Mo_plain mo 9)) (As := [.int 9]) (rest := []) ⟨hx, hb, hml, hown, hts0⟩ (m_Mo_plain l hlt dC dI cI cZ sa rk hm ma mo _ 9 (fun z => hg (by unfold f_Mo_forLoop; rw [bndM_n z]))) hP hD hK hS hA hC hZ hnt hlocks L_1128 L_1130 L_70 L_90 L_1131 k_Mo_plain ⟨(by show _ ≤ fr0 + 10; omega), (by show _ ≤ lo0 + 172; omega)⟩ rfl rfl hl.1 (Nat.le_of_ble_eq_true rfl) d_Mo_forLoop_3 rfl (fun q z => by unfold f_Mo_forLoop; rw [bndM_l z]) (fun r_1 mo_1 H locs w_1 hP hD hS => ?_)
  refine lv_istore_n (lv' := [(3, .int r_1), (0, .ref hm), (1, .int depth), (2, .int own)]) hx hb d_Mo_forLoop_6 rfl hl (by decide) rfl (fun ls hl => ?_)
  refine lv_aload_n hx hb d_Mo_forLoop_7 rfl (lv_at hl 1 rfl) ?_
  refine lv_bipush (v := 60) hx hb d_Mo_forLoop_8 (by decide) ?_
  refine mr_Vv (g := (f_Mo_expect mo_1 60)) (As := [.int 60]) (rest := []) ⟨hx, hb, hml, hown, hts0⟩ (m_Mo_expect l hlt dC dI cI cZ sa rk hm ma mo_1 _ 60 (fun z => hg (by unfold f_Mo_forLoop; rw [bndM_r w_1, bndM_n z]))) hP hD hK hS hA hC hZ hnt hlocks L_1111 L_1113 L_68 L_90 L_1114 k_Mo_expect ⟨(by show _ ≤ fr0 + 10; omega), (by show _ ≤ lo0 + 172; omega)⟩ rfl rfl hl.1 (Nat.le_of_ble_eq_true rfl) d_Mo_forLoop_10 rfl (fun q z => by unfold f_Mo_forLoop; rw [bndM_r w_1, bndM_l z]) (fun mo_2 H locs w_2 hP hD hS => ?_)
  refine lv_iconst (v := 0) hx hb d_Mo_forLoop_13 (by decide) ?_
  refine lv_istore (lv' := [(4, .int 0), (3, .int r_1), (0, .ref hm), (1, .int depth), (2, .int own)]) hx hb d_Mo_forLoop_14 hl (by decide) rfl (fun ls hl => ?_)
  refine lv_aload_n hx hb d_Mo_forLoop_16 rfl (lv_at hl 2 rfl) ?_
  refine lv_bipush (v := 22) hx hb d_Mo_forLoop_17 (by decide) ?_
  refine mr_Vi (g := (f_Mo_isWord mo_2 22)) (As := [.int 22]) (rest := []) ⟨hx, hb, hml, hown, hts0⟩ (m_Mo_isWord l hlt dC dI cI cZ sa rk hm ma mo_2 _ 22 (fun z => hg (by unfold f_Mo_forLoop; rw [bndM_r w_1, bndM_r w_2, bndM_n z]))) hP hD hK hS hA hC hZ hnt hlocks L_1061 L_1063 L_62 L_90 L_1064 k_Mo_isWord ⟨(by show _ ≤ fr0 + 10; omega), (by show _ ≤ lo0 + 172; omega)⟩ rfl rfl hl.1 (Nat.le_of_ble_eq_true rfl) d_Mo_forLoop_19 rfl (fun q z => by unfold f_Mo_forLoop; rw [bndM_r w_1, bndM_r w_2, bndM_l z]) (fun r_3 mo_3 H locs w_3 hP hD hS => ?_)
  refine lv_if_eq (tgt := 61) hx hb d_Mo_forLoop_22 (by decide) (fun c_4 => ?_) (fun c_4 => ?_)
  · refine lv_aload_n hx hb d_Mo_forLoop_61 rfl (lv_at hl 2 rfl) ?_
    refine lv_bipush (v := 67) hx hb d_Mo_forLoop_62 (by decide) ?_
    refine mr_Vi (g := (f_Mo_isSign mo_3 67)) (As := [.int 67]) (rest := []) ⟨hx, hb, hml, hown, hts0⟩ (m_Mo_isSign l hlt dC dI cI cZ sa rk hm ma mo_3 _ 67 (fun z => hg (by unfold f_Mo_forLoop; rw [bndM_r w_1, bndM_r w_2, bndM_r w_3, if_pos c_4, bndM_n z]))) hP hD hK hS hA hC hZ hnt hlocks L_1053 L_1055 L_60 L_90 L_1056 k_Mo_isSign ⟨(by show _ ≤ fr0 + 10; omega), (by show _ ≤ lo0 + 172; omega)⟩ rfl rfl hl.1 (Nat.le_of_ble_eq_true rfl) d_Mo_forLoop_64 rfl (fun q z => by unfold f_Mo_forLoop; rw [bndM_r w_1, bndM_r w_2, bndM_r w_3, if_pos c_4, bndM_l z]) (fun r_5 mo_5 H locs w_5 hP hD hS => ?_)
    refine lv_if_eq (tgt := 78) hx hb d_Mo_forLoop_67 (by decide) (fun c_6 => ?_) (fun c_6 => ?_)
    · refine lv_aload_n hx hb d_Mo_forLoop_78 rfl (lv_at hl 2 rfl) ?_
      refine lv_iload_n hx hb d_Mo_forLoop_79 rfl (lv_at hl 3 rfl) ?_
      refine lv_iconst (v := 1) hx hb d_Mo_forLoop_80 (by decide) ?_
      refine lv_iadd hx hb d_Mo_forLoop_81 ?_
      refine lv_iconst (v := 0) hx hb d_Mo_forLoop_82 (by decide) ?_
      refine mr_Si (g := (K 0 [(depth + 1), 0] mo_5)) (As := [.ref hm, .int (depth + 1), .int 0]) (rest := []) ⟨hx, hb, hml, hown, hts0⟩ (hR0 mo_5 _ (depth + 1) 0 (fun z => hg (by unfold f_Mo_forLoop; rw [bndM_r w_1, bndM_r w_2, bndM_r w_3, if_pos c_4, bndM_r w_5, if_pos c_6, bndM_n z]))) hP hD hK hS hA hC hZ hnt hlocks L_1135 L_1136 L_90 L_1137 k_Mo_expression ⟨(by show _ ≤ fr0 + 10; omega), (by show _ ≤ lo0 + 172; omega)⟩ rfl rfl hl.1 (Nat.le_of_ble_eq_true rfl) d_Mo_forLoop_83 rfl (fun q z => by unfold f_Mo_forLoop; rw [bndM_r w_1, bndM_r w_2, bndM_r w_3, if_pos c_4, bndM_r w_5, if_pos c_6, bndM_l z]) (fun r_7 mo_7 H locs w_7 hP hD hS => ?_)
      refine lv_istore (lv' := [(5, .int r_7), (4, .int 0), (3, .int r_1), (0, .ref hm), (1, .int depth), (2, .int own)]) hx hb d_Mo_forLoop_86 hl (by decide) rfl (fun ls hl => ?_)
      refine lv_aload_n hx hb d_Mo_forLoop_88 rfl (lv_at hl 3 rfl) ?_
      refine lv_iload_n hx hb d_Mo_forLoop_89 rfl (lv_at hl 2 rfl) ?_
      refine lv_iload hx hb d_Mo_forLoop_90 (lv_at hl 0 rfl) ?_
      refine mr_Vv (g := (f_Mo_hang mo_7 r_1 r_7)) (As := [.int r_1, .int r_7]) (rest := []) ⟨hx, hb, hml, hown, hts0⟩ (m_Mo_hang l hlt dC dI cI cZ sa rk hm ma mo_7 _ r_1 r_7 (fun z => hg (by unfold f_Mo_forLoop; rw [bndM_r w_1, bndM_r w_2, bndM_r w_3, if_pos c_4, bndM_r w_5, if_pos c_6, bndM_r w_7, bndM_n z]))) hP hD hK hS hA hC hZ hnt hlocks L_1115 L_1117 L_69 L_90 L_1118 k_Mo_hang ⟨(by show _ ≤ fr0 + 10; omega), (by show _ ≤ lo0 + 172; omega)⟩ rfl rfl hl.1 (Nat.le_of_ble_eq_true rfl) d_Mo_forLoop_92 rfl (fun q z => by unfold f_Mo_forLoop; rw [bndM_r w_1, bndM_r w_2, bndM_r w_3, if_pos c_4, bndM_r w_5, if_pos c_6, bndM_r w_7, bndM_l z]) (fun mo_8 H locs w_8 hP hD hS => ?_)
      refine lv_iconst (v := 1) hx hb d_Mo_forLoop_95 (by decide) ?_
      refine lv_istore (lv' := [(4, .int 1), (5, .int r_7), (3, .int r_1), (0, .ref hm), (1, .int depth), (2, .int own)]) hx hb d_Mo_forLoop_96 hl (by decide) rfl (fun ls hl => ?_)
      refine lv_aload_n hx hb d_Mo_forLoop_98 rfl (lv_at hl 3 rfl) ?_
      refine lv_bipush (v := 13) hx hb d_Mo_forLoop_99 (by decide) ?_
      refine mr_Vi (g := (f_Mo_isWord mo_8 13)) (As := [.int 13]) (rest := []) ⟨hx, hb, hml, hown, hts0⟩ (m_Mo_isWord l hlt dC dI cI cZ sa rk hm ma mo_8 _ 13 (fun z => hg (by unfold f_Mo_forLoop; rw [bndM_r w_1, bndM_r w_2, bndM_r w_3, if_pos c_4, bndM_r w_5, if_pos c_6, bndM_r w_7, bndM_r w_8, bndM_n z]))) hP hD hK hS hA hC hZ hnt hlocks L_1061 L_1063 L_62 L_90 L_1064 k_Mo_isWord ⟨(by show _ ≤ fr0 + 10; omega), (by show _ ≤ lo0 + 172; omega)⟩ rfl rfl hl.1 (Nat.le_of_ble_eq_true rfl) d_Mo_forLoop_101 rfl (fun q z => by unfold f_Mo_forLoop; rw [bndM_r w_1, bndM_r w_2, bndM_r w_3, if_pos c_4, bndM_r w_5, if_pos c_6, bndM_r w_7, bndM_r w_8, bndM_l z]) (fun r_9 mo_9 H locs w_9 hP hD hS => ?_)
      refine lv_if_eq (tgt := 117) hx hb d_Mo_forLoop_104 (by decide) (fun c_10 => ?_) (fun c_10 => ?_)
      · refine lv_iload hx hb d_Mo_forLoop_117 (lv_at hl 0 rfl) ?_
        refine lv_if_eq (tgt := 171) hx hb d_Mo_forLoop_119 (by decide) (fun q9 => absurd q9 (by decide)) (fun _ => ?_)
        refine lv_aload_n hx hb d_Mo_forLoop_122 rfl (lv_at hl 3 rfl) ?_
        refine lv_bipush (v := 13) hx hb d_Mo_forLoop_123 (by decide) ?_
        refine mr_Vi (g := (f_Mo_isWord mo_9 13)) (As := [.int 13]) (rest := []) ⟨hx, hb, hml, hown, hts0⟩ (m_Mo_isWord l hlt dC dI cI cZ sa rk hm ma mo_9 _ 13 (fun z => hg (by unfold f_Mo_forLoop; rw [bndM_r w_1, bndM_r w_2, bndM_r w_3, if_pos c_4, bndM_r w_5, if_pos c_6, bndM_r w_7, bndM_r w_8, bndM_r w_9, if_pos c_10, bndM_n z]))) hP hD hK hS hA hC hZ hnt hlocks L_1061 L_1063 L_62 L_90 L_1064 k_Mo_isWord ⟨(by show _ ≤ fr0 + 10; omega), (by show _ ≤ lo0 + 172; omega)⟩ rfl rfl hl.1 (Nat.le_of_ble_eq_true rfl) d_Mo_forLoop_125 rfl (fun q z => by unfold f_Mo_forLoop; rw [bndM_r w_1, bndM_r w_2, bndM_r w_3, if_pos c_4, bndM_r w_5, if_pos c_6, bndM_r w_7, bndM_r w_8, bndM_r w_9, if_pos c_10, bndM_l z]) (fun r_11 mo_11 H locs w_11 hP hD hS => ?_)
        refine lv_if_eq (tgt := 171) hx hb d_Mo_forLoop_128 (by decide) (fun c_12 => ?_) (fun c_12 => ?_)
        · refine lv_aload_n hx hb d_Mo_forLoop_171 rfl (lv_at hl 3 rfl) ?_
          refine lv_bipush (v := 67) hx hb d_Mo_forLoop_172 (by decide) ?_
          refine mr_Vv (g := (f_Mo_expect mo_11 67)) (As := [.int 67]) (rest := []) ⟨hx, hb, hml, hown, hts0⟩ (m_Mo_expect l hlt dC dI cI cZ sa rk hm ma mo_11 _ 67 (fun z => hg (by unfold f_Mo_forLoop; rw [bndM_r w_1, bndM_r w_2, bndM_r w_3, if_pos c_4, bndM_r w_5, if_pos c_6, bndM_r w_7, bndM_r w_8, bndM_r w_9, if_pos c_10, bndM_r w_11, if_pos c_12, bndM_n z]))) hP hD hK hS hA hC hZ hnt hlocks L_1111 L_1113 L_68 L_90 L_1114 k_Mo_expect ⟨(by show _ ≤ fr0 + 10; omega), (by show _ ≤ lo0 + 172; omega)⟩ rfl rfl hl.1 (Nat.le_of_ble_eq_true rfl) d_Mo_forLoop_174 rfl (fun q z => by unfold f_Mo_forLoop; rw [bndM_r w_1, bndM_r w_2, bndM_r w_3, if_pos c_4, bndM_r w_5, if_pos c_6, bndM_r w_7, bndM_r w_8, bndM_r w_9, if_pos c_10, bndM_r w_11, if_pos c_12, bndM_l z]) (fun mo_13 H locs w_13 hP hD hS => ?_)
          refine lv_aload_n hx hb d_Mo_forLoop_177 rfl (lv_at hl 3 rfl) ?_
          refine lv_iload_n hx hb d_Mo_forLoop_178 rfl (lv_at hl 2 rfl) ?_
          refine lv_iload_n hx hb d_Mo_forLoop_179 rfl (lv_at hl 4 rfl) ?_
          refine lv_bipush (v := 67) hx hb d_Mo_forLoop_180 (by decide) ?_
          refine mr_Sv (g := (f_Mo_part K mo_13 r_1 depth 67)) (As := [.ref hm, .int r_1, .int depth, .int 67]) (rest := []) ⟨hx, hb, hml, hown, hts0⟩ (m_Mo_part l hlt dC dI cI cZ sa rk hm ma fr0 lo0 K hR0 hR1 hR2 hR3 hR4 hR5 hR6 hR7 mo_13 _ r_1 depth 67 (fun z => hg (by unfold f_Mo_forLoop; rw [bndM_r w_1, bndM_r w_2, bndM_r w_3, if_pos c_4, bndM_r w_5, if_pos c_6, bndM_r w_7, bndM_r w_8, bndM_r w_9, if_pos c_10, bndM_r w_11, if_pos c_12, bndM_r w_13, bndM_n z]))) hP hD hK hS hA hC hZ hnt hlocks L_1234 L_1235 L_90 L_1236 k_Mo_part ⟨(by show _ ≤ fr0 + 10; omega), (by show _ ≤ lo0 + 172; omega)⟩ rfl rfl hl.1 (Nat.le_of_ble_eq_true rfl) d_Mo_forLoop_182 rfl (fun q z => by unfold f_Mo_forLoop; rw [bndM_r w_1, bndM_r w_2, bndM_r w_3, if_pos c_4, bndM_r w_5, if_pos c_6, bndM_r w_7, bndM_r w_8, bndM_r w_9, if_pos c_10, bndM_r w_11, if_pos c_12, bndM_r w_13, bndM_l z]) (fun mo_14 H locs w_14 hP hD hS => ?_)
          refine lv_aload_n hx hb d_Mo_forLoop_185 rfl (lv_at hl 3 rfl) ?_
          refine lv_iload_n hx hb d_Mo_forLoop_186 rfl (lv_at hl 2 rfl) ?_
          refine lv_iload_n hx hb d_Mo_forLoop_187 rfl (lv_at hl 4 rfl) ?_
          refine lv_bipush (v := 61) hx hb d_Mo_forLoop_188 (by decide) ?_
          refine mr_Sv (g := (f_Mo_part K mo_14 r_1 depth 61)) (As := [.ref hm, .int r_1, .int depth, .int 61]) (rest := []) ⟨hx, hb, hml, hown, hts0⟩ (m_Mo_part l hlt dC dI cI cZ sa rk hm ma fr0 lo0 K hR0 hR1 hR2 hR3 hR4 hR5 hR6 hR7 mo_14 _ r_1 depth 61 (fun z => hg (by unfold f_Mo_forLoop; rw [bndM_r w_1, bndM_r w_2, bndM_r w_3, if_pos c_4, bndM_r w_5, if_pos c_6, bndM_r w_7, bndM_r w_8, bndM_r w_9, if_pos c_10, bndM_r w_11, if_pos c_12, bndM_r w_13, bndM_r w_14, bndM_n z]))) hP hD hK hS hA hC hZ hnt hlocks L_1234 L_1235 L_90 L_1236 k_Mo_part ⟨(by show _ ≤ fr0 + 10; omega), (by show _ ≤ lo0 + 172; omega)⟩ rfl rfl hl.1 (Nat.le_of_ble_eq_true rfl) d_Mo_forLoop_190 rfl (fun q z => by unfold f_Mo_forLoop; rw [bndM_r w_1, bndM_r w_2, bndM_r w_3, if_pos c_4, bndM_r w_5, if_pos c_6, bndM_r w_7, bndM_r w_8, bndM_r w_9, if_pos c_10, bndM_r w_11, if_pos c_12, bndM_r w_13, bndM_r w_14, bndM_l z]) (fun mo_15 H locs w_15 hP hD hS => ?_)
          refine lv_aload_n hx hb d_Mo_forLoop_193 rfl (lv_at hl 3 rfl) ?_
          refine lv_iload_n hx hb d_Mo_forLoop_194 rfl (lv_at hl 2 rfl) ?_
          refine lv_aload_n hx hb d_Mo_forLoop_195 rfl (lv_at hl 3 rfl) ?_
          refine lv_iload_n hx hb d_Mo_forLoop_196 rfl (lv_at hl 4 rfl) ?_
          refine lv_iload_n hx hb d_Mo_forLoop_197 rfl (lv_at hl 5 rfl) ?_
          refine mr_Si (g := (f_Mo_body K mo_15 depth own)) (As := [.ref hm, .int depth, .int own]) (rest := [.int r_1, .ref hm]) ⟨hx, hb, hml, hown, hts0⟩ (m_Mo_body l hlt dC dI cI cZ sa rk hm ma fr0 lo0 K hR0 hR1 hR2 hR3 hR4 hR5 hR6 hR7 mo_15 _ depth own (fun z => hg (by unfold f_Mo_forLoop; rw [bndM_r w_1, bndM_r w_2, bndM_r w_3, if_pos c_4, bndM_r w_5, if_pos c_6, bndM_r w_7, bndM_r w_8, bndM_r w_9, if_pos c_10, bndM_r w_11, if_pos c_12, bndM_r w_13, bndM_r w_14, bndM_r w_15, bndM_n z]))) hP hD hK hS hA hC hZ hnt hlocks L_1222 L_1223 L_90 L_1224 k_Mo_body ⟨(by show _ ≤ fr0 + 10; omega), (by show _ ≤ lo0 + 172; omega)⟩ rfl rfl hl.1 (Nat.le_of_ble_eq_true rfl) d_Mo_forLoop_198 rfl (fun q z => by unfold f_Mo_forLoop; rw [bndM_r w_1, bndM_r w_2, bndM_r w_3, if_pos c_4, bndM_r w_5, if_pos c_6, bndM_r w_7, bndM_r w_8, bndM_r w_9, if_pos c_10, bndM_r w_11, if_pos c_12, bndM_r w_13, bndM_r w_14, bndM_r w_15, bndM_l z]) (fun r_16 mo_16 H locs w_16 hP hD hS => ?_)
          refine mr_Vv (g := (f_Mo_hang mo_16 r_1 r_16)) (As := [.int r_1, .int r_16]) (rest := []) ⟨hx, hb, hml, hown, hts0⟩ (m_Mo_hang l hlt dC dI cI cZ sa rk hm ma mo_16 _ r_1 r_16 (fun z => hg (by unfold f_Mo_forLoop; rw [bndM_r w_1, bndM_r w_2, bndM_r w_3, if_pos c_4, bndM_r w_5, if_pos c_6, bndM_r w_7, bndM_r w_8, bndM_r w_9, if_pos c_10, bndM_r w_11, if_pos c_12, bndM_r w_13, bndM_r w_14, bndM_r w_15, bndM_r w_16, bndM_n z]))) hP hD hK hS hA hC hZ hnt hlocks L_1115 L_1117 L_69 L_90 L_1118 k_Mo_hang ⟨(by show _ ≤ fr0 + 10; omega), (by show _ ≤ lo0 + 172; omega)⟩ rfl rfl hl.1 (Nat.le_of_ble_eq_true rfl) d_Mo_forLoop_201 rfl (fun q z => by unfold f_Mo_forLoop; rw [bndM_r w_1, bndM_r w_2, bndM_r w_3, if_pos c_4, bndM_r w_5, if_pos c_6, bndM_r w_7, bndM_r w_8, bndM_r w_9, if_pos c_10, bndM_r w_11, if_pos c_12, bndM_r w_13, bndM_r w_14, bndM_r w_15, bndM_r w_16, bndM_l z]) (fun mo_17 H locs w_17 hP hD hS => ?_)
          refine lv_iload_n hx hb d_Mo_forLoop_204 rfl (lv_at hl 2 rfl) ?_
          exact mr_iret (v := r_1) (mo := mo_17) hx hb hr hlocks hK hP hD hS (by unfold f_Mo_forLoop; rw [bndM_r w_1, bndM_r w_2, bndM_r w_3, if_pos c_4, bndM_r w_5, if_pos c_6, bndM_r w_7, bndM_r w_8, bndM_r w_9, if_pos c_10, bndM_r w_11, if_pos c_12, bndM_r w_13, bndM_r w_14, bndM_r w_15, bndM_r w_16, bndM_r w_17]) d_Mo_forLoop_205
        · refine lv_aload_n hx hb d_Mo_forLoop_131 rfl (lv_at hl 3 rfl) ?_
          refine lv_dup hx hb d_Mo_forLoop_132 rfl ?_
          refine va_get (D := (dC, dI)) (ci := 6) (v := .int (q_at mo_11)) (C := R_Mo) (T := T_Mo) (N := 31) hx hb hts u_Mo hown hK hP 0 rfl rfl 6 (by decide) (hts _ L_927) (fun _ h9 => h9) rfl d_Mo_forLoop_133 ?_
          refine lv_iconst (v := 1) hx hb d_Mo_forLoop_136 (by decide) ?_
          refine lv_iadd hx hb d_Mo_forLoop_137 ?_
          refine va_put (D := (dC, dI)) (ci := 6) (v := .int ((q_at mo_11) + 1)) (ty := .int) (C := R_Mo) (T := T_Mo) (N := 31) hx hb hts u_Mo ty_Mo tk_Mo nm_Mo hown hK hP hD hS 0 rfl rfl 6 (by decide) (hts _ L_927) (fun _ h9 => h9) rfl (by decide +kernel) rfl rfl (Nat.le_of_ble_eq_true rfl) d_Mo_forLoop_138 (fun H locs hP hD hS => ?_)
          have hP : va_P (dC, dI) cls (wM cI cZ hm ma (s_at mo_11 ((q_at mo_11) + 1))) H := hP
          have hD : va_D A (wM cI cZ hm ma (s_at mo_11 ((q_at mo_11) + 1))) := hD
          refine lv_aload_n hx hb d_Mo_forLoop_141 rfl (lv_at hl 3 rfl) ?_
          refine va_get (D := (dC, dI)) (ci := 6) (v := .ref (ma 4)) (C := R_Mo) (T := T_Mo) (N := 31) hx hb hts u_Mo hown hK hP 0 rfl rfl 9 (by decide) (hts _ L_930) (fun _ h9 => h9) rfl d_Mo_forLoop_142 ?_
          refine lv_iload_n hx hb d_Mo_forLoop_145 rfl (lv_at hl 2 rfl) ?_
          refine lv_bipush (v := 10) hx hb d_Mo_forLoop_146 (by decide) ?_
          by_cases cb_18 : inb r_1 2600
          case neg => exact absurd (by unfold f_Mo_forLoop; rw [bndM_r w_1, bndM_r w_2, bndM_r w_3, if_pos c_4, bndM_r w_5, if_pos c_6, bndM_r w_7, bndM_r w_8, bndM_r w_9, if_pos c_10, bndM_r w_11, if_neg c_12, if_neg cb_18]) hg
          refine va_iast (D := (dC, dI)) hx hb hK hP hD hS 5 0 rfl rfl cb_18 d_Mo_forLoop_148 (fun H locs hP hD hS => ?_)
          have hP : va_P (dC, dI) cls (wM cI cZ hm ma (s_at (s_kind mo_11 (upd (q_kind mo_11) (r_1 : Int32).toNatClampNeg 10)) ((q_at mo_11) + 1))) H := hP
          have hD : va_D A (wM cI cZ hm ma (s_at (s_kind mo_11 (upd (q_kind mo_11) (r_1 : Int32).toNatClampNeg 10)) ((q_at mo_11) + 1))) := hD
          refine lv_aload_n hx hb d_Mo_forLoop_149 rfl (lv_at hl 3 rfl) ?_
          refine lv_iload_n hx hb d_Mo_forLoop_150 rfl (lv_at hl 2 rfl) ?_
          refine lv_aload_n hx hb d_Mo_forLoop_151 rfl (lv_at hl 3 rfl) ?_
          refine lv_iload_n hx hb d_Mo_forLoop_152 rfl (lv_at hl 4 rfl) ?_
          refine lv_iconst (v := 1) hx hb d_Mo_forLoop_153 (by decide) ?_
          refine lv_iadd hx hb d_Mo_forLoop_154 ?_
          refine lv_iconst (v := 1) hx hb d_Mo_forLoop_155 (by decide) ?_
          refine mr_Si (g := (K 0 [(depth + 1), 1] (s_at (s_kind mo_11 (upd (q_kind mo_11) (r_1 : Int32).toNatClampNeg 10)) ((q_at mo_11) + 1)))) (As := [.ref hm, .int (depth + 1), .int 1]) (rest := [.int r_1, .ref hm]) ⟨hx, hb, hml, hown, hts0⟩ (hR0 (s_at (s_kind mo_11 (upd (q_kind mo_11) (r_1 : Int32).toNatClampNeg 10)) ((q_at mo_11) + 1)) _ (depth + 1) 1 (fun z => hg (by unfold f_Mo_forLoop; rw [bndM_r w_1, bndM_r w_2, bndM_r w_3, if_pos c_4, bndM_r w_5, if_pos c_6, bndM_r w_7, bndM_r w_8, bndM_r w_9, if_pos c_10, bndM_r w_11, if_neg c_12, if_pos cb_18, bndM_n z]))) hP hD hK hS hA hC hZ hnt hlocks L_1135 L_1136 L_90 L_1137 k_Mo_expression ⟨(by show _ ≤ fr0 + 10; omega), (by show _ ≤ lo0 + 172; omega)⟩ rfl rfl hl.1 (Nat.le_of_ble_eq_true rfl) d_Mo_forLoop_156 rfl (fun q z => by unfold f_Mo_forLoop; rw [bndM_r w_1, bndM_r w_2, bndM_r w_3, if_pos c_4, bndM_r w_5, if_pos c_6, bndM_r w_7, bndM_r w_8, bndM_r w_9, if_pos c_10, bndM_r w_11, if_neg c_12, if_pos cb_18, bndM_l z]) (fun r_19 mo_19 H locs w_19 hP hD hS => ?_)
          refine mr_Vv (g := (f_Mo_hang mo_19 r_1 r_19)) (As := [.int r_1, .int r_19]) (rest := []) ⟨hx, hb, hml, hown, hts0⟩ (m_Mo_hang l hlt dC dI cI cZ sa rk hm ma mo_19 _ r_1 r_19 (fun z => hg (by unfold f_Mo_forLoop; rw [bndM_r w_1, bndM_r w_2, bndM_r w_3, if_pos c_4, bndM_r w_5, if_pos c_6, bndM_r w_7, bndM_r w_8, bndM_r w_9, if_pos c_10, bndM_r w_11, if_neg c_12, if_pos cb_18, bndM_r w_19, bndM_n z]))) hP hD hK hS hA hC hZ hnt hlocks L_1115 L_1117 L_69 L_90 L_1118 k_Mo_hang ⟨(by show _ ≤ fr0 + 10; omega), (by show _ ≤ lo0 + 172; omega)⟩ rfl rfl hl.1 (Nat.le_of_ble_eq_true rfl) d_Mo_forLoop_159 rfl (fun q z => by unfold f_Mo_forLoop; rw [bndM_r w_1, bndM_r w_2, bndM_r w_3, if_pos c_4, bndM_r w_5, if_pos c_6, bndM_r w_7, bndM_r w_8, bndM_r w_9, if_pos c_10, bndM_r w_11, if_neg c_12, if_pos cb_18, bndM_r w_19, bndM_l z]) (fun mo_20 H locs w_20 hP hD hS => ?_)
          refine lv_aload_n hx hb d_Mo_forLoop_162 rfl (lv_at hl 3 rfl) ?_
          refine lv_bipush (v := 61) hx hb d_Mo_forLoop_163 (by decide) ?_
          refine mr_Vv (g := (f_Mo_expect mo_20 61)) (As := [.int 61]) (rest := []) ⟨hx, hb, hml, hown, hts0⟩ (m_Mo_expect l hlt dC dI cI cZ sa rk hm ma mo_20 _ 61 (fun z => hg (by unfold f_Mo_forLoop; rw [bndM_r w_1, bndM_r w_2, bndM_r w_3, if_pos c_4, bndM_r w_5, if_pos c_6, bndM_r w_7, bndM_r w_8, bndM_r w_9, if_pos c_10, bndM_r w_11, if_neg c_12, if_pos cb_18, bndM_r w_19, bndM_r w_20, bndM_n z]))) hP hD hK hS hA hC hZ hnt hlocks L_1111 L_1113 L_68 L_90 L_1114 k_Mo_expect ⟨(by show _ ≤ fr0 + 10; omega), (by show _ ≤ lo0 + 172; omega)⟩ rfl rfl hl.1 (Nat.le_of_ble_eq_true rfl) d_Mo_forLoop_165 rfl (fun q z => by unfold f_Mo_forLoop; rw [bndM_r w_1, bndM_r w_2, bndM_r w_3, if_pos c_4, bndM_r w_5, if_pos c_6, bndM_r w_7, bndM_r w_8, bndM_r w_9, if_pos c_10, bndM_r w_11, if_neg c_12, if_pos cb_18, bndM_r w_19, bndM_r w_20, bndM_l z]) (fun mo_21 H locs w_21 hP hD hS => ?_)
          refine lv_goto (tgt := 193) hx hb d_Mo_forLoop_168 (by decide) ?_
          refine lv_aload_n hx hb d_Mo_forLoop_193 rfl (lv_at hl 3 rfl) ?_
          refine lv_iload_n hx hb d_Mo_forLoop_194 rfl (lv_at hl 2 rfl) ?_
          refine lv_aload_n hx hb d_Mo_forLoop_195 rfl (lv_at hl 3 rfl) ?_
          refine lv_iload_n hx hb d_Mo_forLoop_196 rfl (lv_at hl 4 rfl) ?_
          refine lv_iload_n hx hb d_Mo_forLoop_197 rfl (lv_at hl 5 rfl) ?_
          refine mr_Si (g := (f_Mo_body K mo_21 depth own)) (As := [.ref hm, .int depth, .int own]) (rest := [.int r_1, .ref hm]) ⟨hx, hb, hml, hown, hts0⟩ (m_Mo_body l hlt dC dI cI cZ sa rk hm ma fr0 lo0 K hR0 hR1 hR2 hR3 hR4 hR5 hR6 hR7 mo_21 _ depth own (fun z => hg (by unfold f_Mo_forLoop; rw [bndM_r w_1, bndM_r w_2, bndM_r w_3, if_pos c_4, bndM_r w_5, if_pos c_6, bndM_r w_7, bndM_r w_8, bndM_r w_9, if_pos c_10, bndM_r w_11, if_neg c_12, if_pos cb_18, bndM_r w_19, bndM_r w_20, bndM_r w_21, bndM_n z]))) hP hD hK hS hA hC hZ hnt hlocks L_1222 L_1223 L_90 L_1224 k_Mo_body ⟨(by show _ ≤ fr0 + 10; omega), (by show _ ≤ lo0 + 172; omega)⟩ rfl rfl hl.1 (Nat.le_of_ble_eq_true rfl) d_Mo_forLoop_198 rfl (fun q z => by unfold f_Mo_forLoop; rw [bndM_r w_1, bndM_r w_2, bndM_r w_3, if_pos c_4, bndM_r w_5, if_pos c_6, bndM_r w_7, bndM_r w_8, bndM_r w_9, if_pos c_10, bndM_r w_11, if_neg c_12, if_pos cb_18, bndM_r w_19, bndM_r w_20, bndM_r w_21, bndM_l z]) (fun r_22 mo_22 H locs w_22 hP hD hS => ?_)
          refine mr_Vv (g := (f_Mo_hang mo_22 r_1 r_22)) (As := [.int r_1, .int r_22]) (rest := []) ⟨hx, hb, hml, hown, hts0⟩ (m_Mo_hang l hlt dC dI cI cZ sa rk hm ma mo_22 _ r_1 r_22 (fun z => hg (by unfold f_Mo_forLoop; rw [bndM_r w_1, bndM_r w_2, bndM_r w_3, if_pos c_4, bndM_r w_5, if_pos c_6, bndM_r w_7, bndM_r w_8, bndM_r w_9, if_pos c_10, bndM_r w_11, if_neg c_12, if_pos cb_18, bndM_r w_19, bndM_r w_20, bndM_r w_21, bndM_r w_22, bndM_n z]))) hP hD hK hS hA hC hZ hnt hlocks L_1115 L_1117 L_69 L_90 L_1118 k_Mo_hang ⟨(by show _ ≤ fr0 + 10; omega), (by show _ ≤ lo0 + 172; omega)⟩ rfl rfl hl.1 (Nat.le_of_ble_eq_true rfl) d_Mo_forLoop_201 rfl (fun q z => by unfold f_Mo_forLoop; rw [bndM_r w_1, bndM_r w_2, bndM_r w_3, if_pos c_4, bndM_r w_5, if_pos c_6, bndM_r w_7, bndM_r w_8, bndM_r w_9, if_pos c_10, bndM_r w_11, if_neg c_12, if_pos cb_18, bndM_r w_19, bndM_r w_20, bndM_r w_21, bndM_r w_22, bndM_l z]) (fun mo_23 H locs w_23 hP hD hS => ?_)
          refine lv_iload_n hx hb d_Mo_forLoop_204 rfl (lv_at hl 2 rfl) ?_
          exact mr_iret (v := r_1) (mo := mo_23) hx hb hr hlocks hK hP hD hS (by unfold f_Mo_forLoop; rw [bndM_r w_1, bndM_r w_2, bndM_r w_3, if_pos c_4, bndM_r w_5, if_pos c_6, bndM_r w_7, bndM_r w_8, bndM_r w_9, if_pos c_10, bndM_r w_11, if_neg c_12, if_pos cb_18, bndM_r w_19, bndM_r w_20, bndM_r w_21, bndM_r w_22, bndM_r w_23]) d_Mo_forLoop_205
      · refine lv_aload_n hx hb d_Mo_forLoop_107 rfl (lv_at hl 3 rfl) ?_
        refine lv_iload hx hb d_Mo_forLoop_108 (lv_at hl 1 rfl) ?_
        refine lv_aload_n hx hb d_Mo_forLoop_110 rfl (lv_at hl 3 rfl) ?_
        refine va_get (D := (dC, dI)) (ci := 6) (v := .int (q_at mo_9)) (C := R_Mo) (T := T_Mo) (N := 31) hx hb hts u_Mo hown hK hP 0 rfl rfl 6 (by decide) (hts _ L_927) (fun _ h9 => h9) rfl d_Mo_forLoop_111 ?_
        refine mr_Vv (g := (f_Mo_changed mo_9 r_7 (q_at mo_9))) (As := [.int r_7, .int (q_at mo_9)]) (rest := []) ⟨hx, hb, hml, hown, hts0⟩ (m_Mo_changed l hlt dC dI cI cZ sa rk hm ma mo_9 _ r_7 (q_at mo_9) (fun z => hg (by unfold f_Mo_forLoop; rw [bndM_r w_1, bndM_r w_2, bndM_r w_3, if_pos c_4, bndM_r w_5, if_pos c_6, bndM_r w_7, bndM_r w_8, bndM_r w_9, if_neg c_10, bndM_n z]))) hP hD hK hS hA hC hZ hnt hlocks L_1191 L_1193 L_76 L_90 L_1194 k_Mo_changed ⟨(by show _ ≤ fr0 + 10; omega), (by show _ ≤ lo0 + 172; omega)⟩ rfl rfl hl.1 (Nat.le_of_ble_eq_true rfl) d_Mo_forLoop_114 rfl (fun q z => by unfold f_Mo_forLoop; rw [bndM_r w_1, bndM_r w_2, bndM_r w_3, if_pos c_4, bndM_r w_5, if_pos c_6, bndM_r w_7, bndM_r w_8, bndM_r w_9, if_neg c_10, bndM_l z]) (fun mo_24 H locs w_24 hP hD hS => ?_)
        refine lv_iload hx hb d_Mo_forLoop_117 (lv_at hl 0 rfl) ?_
        refine lv_if_eq (tgt := 171) hx hb d_Mo_forLoop_119 (by decide) (fun q9 => absurd q9 (by decide)) (fun _ => ?_)
        refine lv_aload_n hx hb d_Mo_forLoop_122 rfl (lv_at hl 3 rfl) ?_
        refine lv_bipush (v := 13) hx hb d_Mo_forLoop_123 (by decide) ?_
        refine mr_Vi (g := (f_Mo_isWord mo_24 13)) (As := [.int 13]) (rest := []) ⟨hx, hb, hml, hown, hts0⟩ (m_Mo_isWord l hlt dC dI cI cZ sa rk hm ma mo_24 _ 13 (fun z => hg (by unfold f_Mo_forLoop; rw [bndM_r w_1, bndM_r w_2, bndM_r w_3, if_pos c_4, bndM_r w_5, if_pos c_6, bndM_r w_7, bndM_r w_8, bndM_r w_9, if_neg c_10, bndM_r w_24, bndM_n z]))) hP hD hK hS hA hC hZ hnt hlocks L_1061 L_1063 L_62 L_90 L_1064 k_Mo_isWord ⟨(by show _ ≤ fr0 + 10; omega), (by show _ ≤ lo0 + 172; omega)⟩ rfl rfl hl.1 (Nat.le_of_ble_eq_true rfl) d_Mo_forLoop_125 rfl (fun q z => by unfold f_Mo_forLoop; rw [bndM_r w_1, bndM_r w_2, bndM_r w_3, if_pos c_4, bndM_r w_5, if_pos c_6, bndM_r w_7, bndM_r w_8, bndM_r w_9, if_neg c_10, bndM_r w_24, bndM_l z]) (fun r_25 mo_25 H locs w_25 hP hD hS => ?_)
        refine lv_if_eq (tgt := 171) hx hb d_Mo_forLoop_128 (by decide) (fun c_26 => ?_) (fun c_26 => ?_)
        · refine lv_aload_n hx hb d_Mo_forLoop_171 rfl (lv_at hl 3 rfl) ?_
          refine lv_bipush (v := 67) hx hb d_Mo_forLoop_172 (by decide) ?_
          refine mr_Vv (g := (f_Mo_expect mo_25 67)) (As := [.int 67]) (rest := []) ⟨hx, hb, hml, hown, hts0⟩ (m_Mo_expect l hlt dC dI cI cZ sa rk hm ma mo_25 _ 67 (fun z => hg (by unfold f_Mo_forLoop; rw [bndM_r w_1, bndM_r w_2, bndM_r w_3, if_pos c_4, bndM_r w_5, if_pos c_6, bndM_r w_7, bndM_r w_8, bndM_r w_9, if_neg c_10, bndM_r w_24, bndM_r w_25, if_pos c_26, bndM_n z]))) hP hD hK hS hA hC hZ hnt hlocks L_1111 L_1113 L_68 L_90 L_1114 k_Mo_expect ⟨(by show _ ≤ fr0 + 10; omega), (by show _ ≤ lo0 + 172; omega)⟩ rfl rfl hl.1 (Nat.le_of_ble_eq_true rfl) d_Mo_forLoop_174 rfl (fun q z => by unfold f_Mo_forLoop; rw [bndM_r w_1, bndM_r w_2, bndM_r w_3, if_pos c_4, bndM_r w_5, if_pos c_6, bndM_r w_7, bndM_r w_8, bndM_r w_9, if_neg c_10, bndM_r w_24, bndM_r w_25, if_pos c_26, bndM_l z]) (fun mo_27 H locs w_27 hP hD hS => ?_)
          refine lv_aload_n hx hb d_Mo_forLoop_177 rfl (lv_at hl 3 rfl) ?_
          refine lv_iload_n hx hb d_Mo_forLoop_178 rfl (lv_at hl 2 rfl) ?_
          refine lv_iload_n hx hb d_Mo_forLoop_179 rfl (lv_at hl 4 rfl) ?_
          refine lv_bipush (v := 67) hx hb d_Mo_forLoop_180 (by decide) ?_
          refine mr_Sv (g := (f_Mo_part K mo_27 r_1 depth 67)) (As := [.ref hm, .int r_1, .int depth, .int 67]) (rest := []) ⟨hx, hb, hml, hown, hts0⟩ (m_Mo_part l hlt dC dI cI cZ sa rk hm ma fr0 lo0 K hR0 hR1 hR2 hR3 hR4 hR5 hR6 hR7 mo_27 _ r_1 depth 67 (fun z => hg (by unfold f_Mo_forLoop; rw [bndM_r w_1, bndM_r w_2, bndM_r w_3, if_pos c_4, bndM_r w_5, if_pos c_6, bndM_r w_7, bndM_r w_8, bndM_r w_9, if_neg c_10, bndM_r w_24, bndM_r w_25, if_pos c_26, bndM_r w_27, bndM_n z]))) hP hD hK hS hA hC hZ hnt hlocks L_1234 L_1235 L_90 L_1236 k_Mo_part ⟨(by show _ ≤ fr0 + 10; omega), (by show _ ≤ lo0 + 172; omega)⟩ rfl rfl hl.1 (Nat.le_of_ble_eq_true rfl) d_Mo_forLoop_182 rfl (fun q z => by unfold f_Mo_forLoop; rw [bndM_r w_1, bndM_r w_2, bndM_r w_3, if_pos c_4, bndM_r w_5, if_pos c_6, bndM_r w_7, bndM_r w_8, bndM_r w_9, if_neg c_10, bndM_r w_24, bndM_r w_25, if_pos c_26, bndM_r w_27, bndM_l z]) (fun mo_28 H locs w_28 hP hD hS => ?_)
          refine lv_aload_n hx hb d_Mo_forLoop_185 rfl (lv_at hl 3 rfl) ?_
          refine lv_iload_n hx hb d_Mo_forLoop_186 rfl (lv_at hl 2 rfl) ?_
          refine lv_iload_n hx hb d_Mo_forLoop_187 rfl (lv_at hl 4 rfl) ?_
          refine lv_bipush (v := 61) hx hb d_Mo_forLoop_188 (by decide) ?_
          refine mr_Sv (g := (f_Mo_part K mo_28 r_1 depth 61)) (As := [.ref hm, .int r_1, .int depth, .int 61]) (rest := []) ⟨hx, hb, hml, hown, hts0⟩ (m_Mo_part l hlt dC dI cI cZ sa rk hm ma fr0 lo0 K hR0 hR1 hR2 hR3 hR4 hR5 hR6 hR7 mo_28 _ r_1 depth 61 (fun z => hg (by unfold f_Mo_forLoop; rw [bndM_r w_1, bndM_r w_2, bndM_r w_3, if_pos c_4, bndM_r w_5, if_pos c_6, bndM_r w_7, bndM_r w_8, bndM_r w_9, if_neg c_10, bndM_r w_24, bndM_r w_25, if_pos c_26, bndM_r w_27, bndM_r w_28, bndM_n z]))) hP hD hK hS hA hC hZ hnt hlocks L_1234 L_1235 L_90 L_1236 k_Mo_part ⟨(by show _ ≤ fr0 + 10; omega), (by show _ ≤ lo0 + 172; omega)⟩ rfl rfl hl.1 (Nat.le_of_ble_eq_true rfl) d_Mo_forLoop_190 rfl (fun q z => by unfold f_Mo_forLoop; rw [bndM_r w_1, bndM_r w_2, bndM_r w_3, if_pos c_4, bndM_r w_5, if_pos c_6, bndM_r w_7, bndM_r w_8, bndM_r w_9, if_neg c_10, bndM_r w_24, bndM_r w_25, if_pos c_26, bndM_r w_27, bndM_r w_28, bndM_l z]) (fun mo_29 H locs w_29 hP hD hS => ?_)
          refine lv_aload_n hx hb d_Mo_forLoop_193 rfl (lv_at hl 3 rfl) ?_
          refine lv_iload_n hx hb d_Mo_forLoop_194 rfl (lv_at hl 2 rfl) ?_
          refine lv_aload_n hx hb d_Mo_forLoop_195 rfl (lv_at hl 3 rfl) ?_
          refine lv_iload_n hx hb d_Mo_forLoop_196 rfl (lv_at hl 4 rfl) ?_
          refine lv_iload_n hx hb d_Mo_forLoop_197 rfl (lv_at hl 5 rfl) ?_
          refine mr_Si (g := (f_Mo_body K mo_29 depth own)) (As := [.ref hm, .int depth, .int own]) (rest := [.int r_1, .ref hm]) ⟨hx, hb, hml, hown, hts0⟩ (m_Mo_body l hlt dC dI cI cZ sa rk hm ma fr0 lo0 K hR0 hR1 hR2 hR3 hR4 hR5 hR6 hR7 mo_29 _ depth own (fun z => hg (by unfold f_Mo_forLoop; rw [bndM_r w_1, bndM_r w_2, bndM_r w_3, if_pos c_4, bndM_r w_5, if_pos c_6, bndM_r w_7, bndM_r w_8, bndM_r w_9, if_neg c_10, bndM_r w_24, bndM_r w_25, if_pos c_26, bndM_r w_27, bndM_r w_28, bndM_r w_29, bndM_n z]))) hP hD hK hS hA hC hZ hnt hlocks L_1222 L_1223 L_90 L_1224 k_Mo_body ⟨(by show _ ≤ fr0 + 10; omega), (by show _ ≤ lo0 + 172; omega)⟩ rfl rfl hl.1 (Nat.le_of_ble_eq_true rfl) d_Mo_forLoop_198 rfl (fun q z => by unfold f_Mo_forLoop; rw [bndM_r w_1, bndM_r w_2, bndM_r w_3, if_pos c_4, bndM_r w_5, if_pos c_6, bndM_r w_7, bndM_r w_8, bndM_r w_9, if_neg c_10, bndM_r w_24, bndM_r w_25, if_pos c_26, bndM_r w_27, bndM_r w_28, bndM_r w_29, bndM_l z]) (fun r_30 mo_30 H locs w_30 hP hD hS => ?_)
          refine mr_Vv (g := (f_Mo_hang mo_30 r_1 r_30)) (As := [.int r_1, .int r_30]) (rest := []) ⟨hx, hb, hml, hown, hts0⟩ (m_Mo_hang l hlt dC dI cI cZ sa rk hm ma mo_30 _ r_1 r_30 (fun z => hg (by unfold f_Mo_forLoop; rw [bndM_r w_1, bndM_r w_2, bndM_r w_3, if_pos c_4, bndM_r w_5, if_pos c_6, bndM_r w_7, bndM_r w_8, bndM_r w_9, if_neg c_10, bndM_r w_24, bndM_r w_25, if_pos c_26, bndM_r w_27, bndM_r w_28, bndM_r w_29, bndM_r w_30, bndM_n z]))) hP hD hK hS hA hC hZ hnt hlocks L_1115 L_1117 L_69 L_90 L_1118 k_Mo_hang ⟨(by show _ ≤ fr0 + 10; omega), (by show _ ≤ lo0 + 172; omega)⟩ rfl rfl hl.1 (Nat.le_of_ble_eq_true rfl) d_Mo_forLoop_201 rfl (fun q z => by unfold f_Mo_forLoop; rw [bndM_r w_1, bndM_r w_2, bndM_r w_3, if_pos c_4, bndM_r w_5, if_pos c_6, bndM_r w_7, bndM_r w_8, bndM_r w_9, if_neg c_10, bndM_r w_24, bndM_r w_25, if_pos c_26, bndM_r w_27, bndM_r w_28, bndM_r w_29, bndM_r w_30, bndM_l z]) (fun mo_31 H locs w_31 hP hD hS => ?_)
          refine lv_iload_n hx hb d_Mo_forLoop_204 rfl (lv_at hl 2 rfl) ?_
          exact mr_iret (v := r_1) (mo := mo_31) hx hb hr hlocks hK hP hD hS (by unfold f_Mo_forLoop; rw [bndM_r w_1, bndM_r w_2, bndM_r w_3, if_pos c_4, bndM_r w_5, if_pos c_6, bndM_r w_7, bndM_r w_8, bndM_r w_9, if_neg c_10, bndM_r w_24, bndM_r w_25, if_pos c_26, bndM_r w_27, bndM_r w_28, bndM_r w_29, bndM_r w_30, bndM_r w_31]) d_Mo_forLoop_205
        · refine lv_aload_n hx hb d_Mo_forLoop_131 rfl (lv_at hl 3 rfl) ?_
          refine lv_dup hx hb d_Mo_forLoop_132 rfl ?_
          refine va_get (D := (dC, dI)) (ci := 6) (v := .int (q_at mo_25)) (C := R_Mo) (T := T_Mo) (N := 31) hx hb hts u_Mo hown hK hP 0 rfl rfl 6 (by decide) (hts _ L_927) (fun _ h9 => h9) rfl d_Mo_forLoop_133 ?_
          refine lv_iconst (v := 1) hx hb d_Mo_forLoop_136 (by decide) ?_
          refine lv_iadd hx hb d_Mo_forLoop_137 ?_
          refine va_put (D := (dC, dI)) (ci := 6) (v := .int ((q_at mo_25) + 1)) (ty := .int) (C := R_Mo) (T := T_Mo) (N := 31) hx hb hts u_Mo ty_Mo tk_Mo nm_Mo hown hK hP hD hS 0 rfl rfl 6 (by decide) (hts _ L_927) (fun _ h9 => h9) rfl (by decide +kernel) rfl rfl (Nat.le_of_ble_eq_true rfl) d_Mo_forLoop_138 (fun H locs hP hD hS => ?_)
          have hP : va_P (dC, dI) cls (wM cI cZ hm ma (s_at mo_25 ((q_at mo_25) + 1))) H := hP
          have hD : va_D A (wM cI cZ hm ma (s_at mo_25 ((q_at mo_25) + 1))) := hD
          refine lv_aload_n hx hb d_Mo_forLoop_141 rfl (lv_at hl 3 rfl) ?_
          refine va_get (D := (dC, dI)) (ci := 6) (v := .ref (ma 4)) (C := R_Mo) (T := T_Mo) (N := 31) hx hb hts u_Mo hown hK hP 0 rfl rfl 9 (by decide) (hts _ L_930) (fun _ h9 => h9) rfl d_Mo_forLoop_142 ?_
          refine lv_iload_n hx hb d_Mo_forLoop_145 rfl (lv_at hl 2 rfl) ?_
          refine lv_bipush (v := 10) hx hb d_Mo_forLoop_146 (by decide) ?_
          by_cases cb_32 : inb r_1 2600
          case neg => exact absurd (by unfold f_Mo_forLoop; rw [bndM_r w_1, bndM_r w_2, bndM_r w_3, if_pos c_4, bndM_r w_5, if_pos c_6, bndM_r w_7, bndM_r w_8, bndM_r w_9, if_neg c_10, bndM_r w_24, bndM_r w_25, if_neg c_26, if_neg cb_32]) hg
          refine va_iast (D := (dC, dI)) hx hb hK hP hD hS 5 0 rfl rfl cb_32 d_Mo_forLoop_148 (fun H locs hP hD hS => ?_)
          have hP : va_P (dC, dI) cls (wM cI cZ hm ma (s_at (s_kind mo_25 (upd (q_kind mo_25) (r_1 : Int32).toNatClampNeg 10)) ((q_at mo_25) + 1))) H := hP
          have hD : va_D A (wM cI cZ hm ma (s_at (s_kind mo_25 (upd (q_kind mo_25) (r_1 : Int32).toNatClampNeg 10)) ((q_at mo_25) + 1))) := hD
          refine lv_aload_n hx hb d_Mo_forLoop_149 rfl (lv_at hl 3 rfl) ?_
          refine lv_iload_n hx hb d_Mo_forLoop_150 rfl (lv_at hl 2 rfl) ?_
          refine lv_aload_n hx hb d_Mo_forLoop_151 rfl (lv_at hl 3 rfl) ?_
          refine lv_iload_n hx hb d_Mo_forLoop_152 rfl (lv_at hl 4 rfl) ?_
          refine lv_iconst (v := 1) hx hb d_Mo_forLoop_153 (by decide) ?_
          refine lv_iadd hx hb d_Mo_forLoop_154 ?_
          refine lv_iconst (v := 1) hx hb d_Mo_forLoop_155 (by decide) ?_
          refine mr_Si (g := (K 0 [(depth + 1), 1] (s_at (s_kind mo_25 (upd (q_kind mo_25) (r_1 : Int32).toNatClampNeg 10)) ((q_at mo_25) + 1)))) (As := [.ref hm, .int (depth + 1), .int 1]) (rest := [.int r_1, .ref hm]) ⟨hx, hb, hml, hown, hts0⟩ (hR0 (s_at (s_kind mo_25 (upd (q_kind mo_25) (r_1 : Int32).toNatClampNeg 10)) ((q_at mo_25) + 1)) _ (depth + 1) 1 (fun z => hg (by unfold f_Mo_forLoop; rw [bndM_r w_1, bndM_r w_2, bndM_r w_3, if_pos c_4, bndM_r w_5, if_pos c_6, bndM_r w_7, bndM_r w_8, bndM_r w_9, if_neg c_10, bndM_r w_24, bndM_r w_25, if_neg c_26, if_pos cb_32, bndM_n z]))) hP hD hK hS hA hC hZ hnt hlocks L_1135 L_1136 L_90 L_1137 k_Mo_expression ⟨(by show _ ≤ fr0 + 10; omega), (by show _ ≤ lo0 + 172; omega)⟩ rfl rfl hl.1 (Nat.le_of_ble_eq_true rfl) d_Mo_forLoop_156 rfl (fun q z => by unfold f_Mo_forLoop; rw [bndM_r w_1, bndM_r w_2, bndM_r w_3, if_pos c_4, bndM_r w_5, if_pos c_6, bndM_r w_7, bndM_r w_8, bndM_r w_9, if_neg c_10, bndM_r w_24, bndM_r w_25, if_neg c_26, if_pos cb_32, bndM_l z]) (fun r_33 mo_33 H locs w_33 hP hD hS => ?_)
          refine mr_Vv (g := (f_Mo_hang mo_33 r_1 r_33)) (As := [.int r_1, .int r_33]) (rest := []) ⟨hx, hb, hml, hown, hts0⟩ (m_Mo_hang l hlt dC dI cI cZ sa rk hm ma mo_33 _ r_1 r_33 (fun z => hg (by unfold f_Mo_forLoop; rw [bndM_r w_1, bndM_r w_2, bndM_r w_3, if_pos c_4, bndM_r w_5, if_pos c_6, bndM_r w_7, bndM_r w_8, bndM_r w_9, if_neg c_10, bndM_r w_24, bndM_r w_25, if_neg c_26, if_pos cb_32, bndM_r w_33, bndM_n z]))) hP hD hK hS hA hC hZ hnt hlocks L_1115 L_1117 L_69 L_90 L_1118 k_Mo_hang ⟨(by show _ ≤ fr0 + 10; omega), (by show _ ≤ lo0 + 172; omega)⟩ rfl rfl hl.1 (Nat.le_of_ble_eq_true rfl) d_Mo_forLoop_159 rfl (fun q z => by unfold f_Mo_forLoop; rw [bndM_r w_1, bndM_r w_2, bndM_r w_3, if_pos c_4, bndM_r w_5, if_pos c_6, bndM_r w_7, bndM_r w_8, bndM_r w_9, if_neg c_10, bndM_r w_24, bndM_r w_25, if_neg c_26, if_pos cb_32, bndM_r w_33, bndM_l z]) (fun mo_34 H locs w_34 hP hD hS => ?_)
          refine lv_aload_n hx hb d_Mo_forLoop_162 rfl (lv_at hl 3 rfl) ?_
          refine lv_bipush (v := 61) hx hb d_Mo_forLoop_163 (by decide) ?_
          refine mr_Vv (g := (f_Mo_expect mo_34 61)) (As := [.int 61]) (rest := []) ⟨hx, hb, hml, hown, hts0⟩ (m_Mo_expect l hlt dC dI cI cZ sa rk hm ma mo_34 _ 61 (fun z => hg (by unfold f_Mo_forLoop; rw [bndM_r w_1, bndM_r w_2, bndM_r w_3, if_pos c_4, bndM_r w_5, if_pos c_6, bndM_r w_7, bndM_r w_8, bndM_r w_9, if_neg c_10, bndM_r w_24, bndM_r w_25, if_neg c_26, if_pos cb_32, bndM_r w_33, bndM_r w_34, bndM_n z]))) hP hD hK hS hA hC hZ hnt hlocks L_1111 L_1113 L_68 L_90 L_1114 k_Mo_expect ⟨(by show _ ≤ fr0 + 10; omega), (by show _ ≤ lo0 + 172; omega)⟩ rfl rfl hl.1 (Nat.le_of_ble_eq_true rfl) d_Mo_forLoop_165 rfl (fun q z => by unfold f_Mo_forLoop; rw [bndM_r w_1, bndM_r w_2, bndM_r w_3, if_pos c_4, bndM_r w_5, if_pos c_6, bndM_r w_7, bndM_r w_8, bndM_r w_9, if_neg c_10, bndM_r w_24, bndM_r w_25, if_neg c_26, if_pos cb_32, bndM_r w_33, bndM_r w_34, bndM_l z]) (fun mo_35 H locs w_35 hP hD hS => ?_)
          refine lv_goto (tgt := 193) hx hb d_Mo_forLoop_168 (by decide) ?_
          refine lv_aload_n hx hb d_Mo_forLoop_193 rfl (lv_at hl 3 rfl) ?_
          refine lv_iload_n hx hb d_Mo_forLoop_194 rfl (lv_at hl 2 rfl) ?_
          refine lv_aload_n hx hb d_Mo_forLoop_195 rfl (lv_at hl 3 rfl) ?_
          refine lv_iload_n hx hb d_Mo_forLoop_196 rfl (lv_at hl 4 rfl) ?_
          refine lv_iload_n hx hb d_Mo_forLoop_197 rfl (lv_at hl 5 rfl) ?_
          refine mr_Si (g := (f_Mo_body K mo_35 depth own)) (As := [.ref hm, .int depth, .int own]) (rest := [.int r_1, .ref hm]) ⟨hx, hb, hml, hown, hts0⟩ (m_Mo_body l hlt dC dI cI cZ sa rk hm ma fr0 lo0 K hR0 hR1 hR2 hR3 hR4 hR5 hR6 hR7 mo_35 _ depth own (fun z => hg (by unfold f_Mo_forLoop; rw [bndM_r w_1, bndM_r w_2, bndM_r w_3, if_pos c_4, bndM_r w_5, if_pos c_6, bndM_r w_7, bndM_r w_8, bndM_r w_9, if_neg c_10, bndM_r w_24, bndM_r w_25, if_neg c_26, if_pos cb_32, bndM_r w_33, bndM_r w_34, bndM_r w_35, bndM_n z]))) hP hD hK hS hA hC hZ hnt hlocks L_1222 L_1223 L_90 L_1224 k_Mo_body ⟨(by show _ ≤ fr0 + 10; omega), (by show _ ≤ lo0 + 172; omega)⟩ rfl rfl hl.1 (Nat.le_of_ble_eq_true rfl) d_Mo_forLoop_198 rfl (fun q z => by unfold f_Mo_forLoop; rw [bndM_r w_1, bndM_r w_2, bndM_r w_3, if_pos c_4, bndM_r w_5, if_pos c_6, bndM_r w_7, bndM_r w_8, bndM_r w_9, if_neg c_10, bndM_r w_24, bndM_r w_25, if_neg c_26, if_pos cb_32, bndM_r w_33, bndM_r w_34, bndM_r w_35, bndM_l z]) (fun r_36 mo_36 H locs w_36 hP hD hS => ?_)
          refine mr_Vv (g := (f_Mo_hang mo_36 r_1 r_36)) (As := [.int r_1, .int r_36]) (rest := []) ⟨hx, hb, hml, hown, hts0⟩ (m_Mo_hang l hlt dC dI cI cZ sa rk hm ma mo_36 _ r_1 r_36 (fun z => hg (by unfold f_Mo_forLoop; rw [bndM_r w_1, bndM_r w_2, bndM_r w_3, if_pos c_4, bndM_r w_5, if_pos c_6, bndM_r w_7, bndM_r w_8, bndM_r w_9, if_neg c_10, bndM_r w_24, bndM_r w_25, if_neg c_26, if_pos cb_32, bndM_r w_33, bndM_r w_34, bndM_r w_35, bndM_r w_36, bndM_n z]))) hP hD hK hS hA hC hZ hnt hlocks L_1115 L_1117 L_69 L_90 L_1118 k_Mo_hang ⟨(by show _ ≤ fr0 + 10; omega), (by show _ ≤ lo0 + 172; omega)⟩ rfl rfl hl.1 (Nat.le_of_ble_eq_true rfl) d_Mo_forLoop_201 rfl (fun q z => by unfold f_Mo_forLoop; rw [bndM_r w_1, bndM_r w_2, bndM_r w_3, if_pos c_4, bndM_r w_5, if_pos c_6, bndM_r w_7, bndM_r w_8, bndM_r w_9, if_neg c_10, bndM_r w_24, bndM_r w_25, if_neg c_26, if_pos cb_32, bndM_r w_33, bndM_r w_34, bndM_r w_35, bndM_r w_36, bndM_l z]) (fun mo_37 H locs w_37 hP hD hS => ?_)
          refine lv_iload_n hx hb d_Mo_forLoop_204 rfl (lv_at hl 2 rfl) ?_
          exact mr_iret (v := r_1) (mo := mo_37) hx hb hr hlocks hK hP hD hS (by unfold f_Mo_forLoop; rw [bndM_r w_1, bndM_r w_2, bndM_r w_3, if_pos c_4, bndM_r w_5, if_pos c_6, bndM_r w_7, bndM_r w_8, bndM_r w_9, if_neg c_10, bndM_r w_24, bndM_r w_25, if_neg c_26, if_pos cb_32, bndM_r w_33, bndM_r w_34, bndM_r w_35, bndM_r w_36, bndM_r w_37]) d_Mo_forLoop_205
    · refine lv_aload_n hx hb d_Mo_forLoop_70 rfl (lv_at hl 2 rfl) ?_
      refine lv_iload_n hx hb d_Mo_forLoop_71 rfl (lv_at hl 1 rfl) ?_
      refine mr_Vv (g := (f_Mo_none mo_5 r_1)) (As := [.int r_1]) (rest := []) ⟨hx, hb, hml, hown, hts0⟩ (m_Mo_none l hlt dC dI cI cZ sa rk hm ma mo_5 _ r_1 (fun z => hg (by unfold f_Mo_forLoop; rw [bndM_r w_1, bndM_r w_2, bndM_r w_3, if_pos c_4, bndM_r w_5, if_neg c_6, bndM_n z]))) hP hD hK hS hA hC hZ hnt hlocks L_1173 L_1175 L_73 L_90 L_1176 k_Mo_none ⟨(by show _ ≤ fr0 + 10; omega), (by show _ ≤ lo0 + 172; omega)⟩ rfl rfl hl.1 (Nat.le_of_ble_eq_true rfl) d_Mo_forLoop_72 rfl (fun q z => by unfold f_Mo_forLoop; rw [bndM_r w_1, bndM_r w_2, bndM_r w_3, if_pos c_4, bndM_r w_5, if_neg c_6, bndM_l z]) (fun mo_38 H locs w_38 hP hD hS => ?_)
      refine lv_goto (tgt := 117) hx hb d_Mo_forLoop_75 (by decide) ?_
      refine lv_iload hx hb d_Mo_forLoop_117 (lv_at hl 0 rfl) ?_
      refine lv_if_eq (tgt := 171) hx hb d_Mo_forLoop_119 (by decide) (fun _ => ?_) (fun q9 => absurd q9 (by decide))
      refine lv_aload_n hx hb d_Mo_forLoop_171 rfl (lv_at hl 2 rfl) ?_
      refine lv_bipush (v := 67) hx hb d_Mo_forLoop_172 (by decide) ?_
      refine mr_Vv (g := (f_Mo_expect mo_38 67)) (As := [.int 67]) (rest := []) ⟨hx, hb, hml, hown, hts0⟩ (m_Mo_expect l hlt dC dI cI cZ sa rk hm ma mo_38 _ 67 (fun z => hg (by unfold f_Mo_forLoop; rw [bndM_r w_1, bndM_r w_2, bndM_r w_3, if_pos c_4, bndM_r w_5, if_neg c_6, bndM_r w_38, bndM_n z]))) hP hD hK hS hA hC hZ hnt hlocks L_1111 L_1113 L_68 L_90 L_1114 k_Mo_expect ⟨(by show _ ≤ fr0 + 10; omega), (by show _ ≤ lo0 + 172; omega)⟩ rfl rfl hl.1 (Nat.le_of_ble_eq_true rfl) d_Mo_forLoop_174 rfl (fun q z => by unfold f_Mo_forLoop; rw [bndM_r w_1, bndM_r w_2, bndM_r w_3, if_pos c_4, bndM_r w_5, if_neg c_6, bndM_r w_38, bndM_l z]) (fun mo_39 H locs w_39 hP hD hS => ?_)
      refine lv_aload_n hx hb d_Mo_forLoop_177 rfl (lv_at hl 2 rfl) ?_
      refine lv_iload_n hx hb d_Mo_forLoop_178 rfl (lv_at hl 1 rfl) ?_
      refine lv_iload_n hx hb d_Mo_forLoop_179 rfl (lv_at hl 3 rfl) ?_
      refine lv_bipush (v := 67) hx hb d_Mo_forLoop_180 (by decide) ?_
      refine mr_Sv (g := (f_Mo_part K mo_39 r_1 depth 67)) (As := [.ref hm, .int r_1, .int depth, .int 67]) (rest := []) ⟨hx, hb, hml, hown, hts0⟩ (m_Mo_part l hlt dC dI cI cZ sa rk hm ma fr0 lo0 K hR0 hR1 hR2 hR3 hR4 hR5 hR6 hR7 mo_39 _ r_1 depth 67 (fun z => hg (by unfold f_Mo_forLoop; rw [bndM_r w_1, bndM_r w_2, bndM_r w_3, if_pos c_4, bndM_r w_5, if_neg c_6, bndM_r w_38, bndM_r w_39, bndM_n z]))) hP hD hK hS hA hC hZ hnt hlocks L_1234 L_1235 L_90 L_1236 k_Mo_part ⟨(by show _ ≤ fr0 + 10; omega), (by show _ ≤ lo0 + 172; omega)⟩ rfl rfl hl.1 (Nat.le_of_ble_eq_true rfl) d_Mo_forLoop_182 rfl (fun q z => by unfold f_Mo_forLoop; rw [bndM_r w_1, bndM_r w_2, bndM_r w_3, if_pos c_4, bndM_r w_5, if_neg c_6, bndM_r w_38, bndM_r w_39, bndM_l z]) (fun mo_40 H locs w_40 hP hD hS => ?_)
      refine lv_aload_n hx hb d_Mo_forLoop_185 rfl (lv_at hl 2 rfl) ?_
      refine lv_iload_n hx hb d_Mo_forLoop_186 rfl (lv_at hl 1 rfl) ?_
      refine lv_iload_n hx hb d_Mo_forLoop_187 rfl (lv_at hl 3 rfl) ?_
      refine lv_bipush (v := 61) hx hb d_Mo_forLoop_188 (by decide) ?_
      refine mr_Sv (g := (f_Mo_part K mo_40 r_1 depth 61)) (As := [.ref hm, .int r_1, .int depth, .int 61]) (rest := []) ⟨hx, hb, hml, hown, hts0⟩ (m_Mo_part l hlt dC dI cI cZ sa rk hm ma fr0 lo0 K hR0 hR1 hR2 hR3 hR4 hR5 hR6 hR7 mo_40 _ r_1 depth 61 (fun z => hg (by unfold f_Mo_forLoop; rw [bndM_r w_1, bndM_r w_2, bndM_r w_3, if_pos c_4, bndM_r w_5, if_neg c_6, bndM_r w_38, bndM_r w_39, bndM_r w_40, bndM_n z]))) hP hD hK hS hA hC hZ hnt hlocks L_1234 L_1235 L_90 L_1236 k_Mo_part ⟨(by show _ ≤ fr0 + 10; omega), (by show _ ≤ lo0 + 172; omega)⟩ rfl rfl hl.1 (Nat.le_of_ble_eq_true rfl) d_Mo_forLoop_190 rfl (fun q z => by unfold f_Mo_forLoop; rw [bndM_r w_1, bndM_r w_2, bndM_r w_3, if_pos c_4, bndM_r w_5, if_neg c_6, bndM_r w_38, bndM_r w_39, bndM_r w_40, bndM_l z]) (fun mo_41 H locs w_41 hP hD hS => ?_)
      refine lv_aload_n hx hb d_Mo_forLoop_193 rfl (lv_at hl 2 rfl) ?_
      refine lv_iload_n hx hb d_Mo_forLoop_194 rfl (lv_at hl 1 rfl) ?_
      refine lv_aload_n hx hb d_Mo_forLoop_195 rfl (lv_at hl 2 rfl) ?_
      refine lv_iload_n hx hb d_Mo_forLoop_196 rfl (lv_at hl 3 rfl) ?_
      refine lv_iload_n hx hb d_Mo_forLoop_197 rfl (lv_at hl 4 rfl) ?_
      refine mr_Si (g := (f_Mo_body K mo_41 depth own)) (As := [.ref hm, .int depth, .int own]) (rest := [.int r_1, .ref hm]) ⟨hx, hb, hml, hown, hts0⟩ (m_Mo_body l hlt dC dI cI cZ sa rk hm ma fr0 lo0 K hR0 hR1 hR2 hR3 hR4 hR5 hR6 hR7 mo_41 _ depth own (fun z => hg (by unfold f_Mo_forLoop; rw [bndM_r w_1, bndM_r w_2, bndM_r w_3, if_pos c_4, bndM_r w_5, if_neg c_6, bndM_r w_38, bndM_r w_39, bndM_r w_40, bndM_r w_41, bndM_n z]))) hP hD hK hS hA hC hZ hnt hlocks L_1222 L_1223 L_90 L_1224 k_Mo_body ⟨(by show _ ≤ fr0 + 10; omega), (by show _ ≤ lo0 + 172; omega)⟩ rfl rfl hl.1 (Nat.le_of_ble_eq_true rfl) d_Mo_forLoop_198 rfl (fun q z => by unfold f_Mo_forLoop; rw [bndM_r w_1, bndM_r w_2, bndM_r w_3, if_pos c_4, bndM_r w_5, if_neg c_6, bndM_r w_38, bndM_r w_39, bndM_r w_40, bndM_r w_41, bndM_l z]) (fun r_42 mo_42 H locs w_42 hP hD hS => ?_)
      refine mr_Vv (g := (f_Mo_hang mo_42 r_1 r_42)) (As := [.int r_1, .int r_42]) (rest := []) ⟨hx, hb, hml, hown, hts0⟩ (m_Mo_hang l hlt dC dI cI cZ sa rk hm ma mo_42 _ r_1 r_42 (fun z => hg (by unfold f_Mo_forLoop; rw [bndM_r w_1, bndM_r w_2, bndM_r w_3, if_pos c_4, bndM_r w_5, if_neg c_6, bndM_r w_38, bndM_r w_39, bndM_r w_40, bndM_r w_41, bndM_r w_42, bndM_n z]))) hP hD hK hS hA hC hZ hnt hlocks L_1115 L_1117 L_69 L_90 L_1118 k_Mo_hang ⟨(by show _ ≤ fr0 + 10; omega), (by show _ ≤ lo0 + 172; omega)⟩ rfl rfl hl.1 (Nat.le_of_ble_eq_true rfl) d_Mo_forLoop_201 rfl (fun q z => by unfold f_Mo_forLoop; rw [bndM_r w_1, bndM_r w_2, bndM_r w_3, if_pos c_4, bndM_r w_5, if_neg c_6, bndM_r w_38, bndM_r w_39, bndM_r w_40, bndM_r w_41, bndM_r w_42, bndM_l z]) (fun mo_43 H locs w_43 hP hD hS => ?_)
      refine lv_iload_n hx hb d_Mo_forLoop_204 rfl (lv_at hl 1 rfl) ?_
      exact mr_iret (v := r_1) (mo := mo_43) hx hb hr hlocks hK hP hD hS (by unfold f_Mo_forLoop; rw [bndM_r w_1, bndM_r w_2, bndM_r w_3, if_pos c_4, bndM_r w_5, if_neg c_6, bndM_r w_38, bndM_r w_39, bndM_r w_40, bndM_r w_41, bndM_r w_42, bndM_r w_43]) d_Mo_forLoop_205
  · refine lv_aload_n hx hb d_Mo_forLoop_25 rfl (lv_at hl 2 rfl) ?_
    refine lv_iconst (v := 2) hx hb d_Mo_forLoop_26 (by decide) ?_
    refine mr_Vi (g := (f_Mo_plain mo_3 2)) (As := [.int 2]) (rest := []) ⟨hx, hb, hml, hown, hts0⟩ (m_Mo_plain l hlt dC dI cI cZ sa rk hm ma mo_3 _ 2 (fun z => hg (by unfold f_Mo_forLoop; rw [bndM_r w_1, bndM_r w_2, bndM_r w_3, if_neg c_4, bndM_n z]))) hP hD hK hS hA hC hZ hnt hlocks L_1128 L_1130 L_70 L_90 L_1131 k_Mo_plain ⟨(by show _ ≤ fr0 + 10; omega), (by show _ ≤ lo0 + 172; omega)⟩ rfl rfl hl.1 (Nat.le_of_ble_eq_true rfl) d_Mo_forLoop_27 rfl (fun q z => by unfold f_Mo_forLoop; rw [bndM_r w_1, bndM_r w_2, bndM_r w_3, if_neg c_4, bndM_l z]) (fun r_44 mo_44 H locs w_44 hP hD hS => ?_)
    refine lv_istore (lv' := [(5, .int r_44), (4, .int 0), (3, .int r_1), (0, .ref hm), (1, .int depth), (2, .int own)]) hx hb d_Mo_forLoop_30 hl (by decide) rfl (fun ls hl => ?_)
    refine lv_aload_n hx hb d_Mo_forLoop_32 rfl (lv_at hl 3 rfl) ?_
    refine lv_iload hx hb d_Mo_forLoop_33 (lv_at hl 0 rfl) ?_
    refine lv_iload_n hx hb d_Mo_forLoop_35 rfl (lv_at hl 4 rfl) ?_
    refine lv_iconst (v := 0) hx hb d_Mo_forLoop_36 (by decide) ?_
    refine mr_Si (g := (f_Mo_declarations K mo_44 r_44 depth 0)) (As := [.ref hm, .int r_44, .int depth, .int 0]) (rest := []) ⟨hx, hb, hml, hown, hts0⟩ (m_Mo_declarations l hlt dC dI cI cZ sa rk hm ma fr0 lo0 K hR0 hR1 hR2 hR3 hR4 hR5 hR6 hR7 mo_44 _ r_44 depth 0 (fun z => hg (by unfold f_Mo_forLoop; rw [bndM_r w_1, bndM_r w_2, bndM_r w_3, if_neg c_4, bndM_r w_44, bndM_n z]))) hP hD hK hS hA hC hZ hnt hlocks L_1231 L_1232 L_90 L_1233 k_Mo_declarations ⟨(by show _ ≤ fr0 + 10; omega), (by show _ ≤ lo0 + 172; omega)⟩ rfl rfl hl.1 (Nat.le_of_ble_eq_true rfl) d_Mo_forLoop_37 rfl (fun q z => by unfold f_Mo_forLoop; rw [bndM_r w_1, bndM_r w_2, bndM_r w_3, if_neg c_4, bndM_r w_44, bndM_l z]) (fun r_45 mo_45 H locs w_45 hP hD hS => ?_)
    refine lv_iconst (v := 1) hx hb d_Mo_forLoop_40 (by decide) ?_
    refine lv_icmp_ne (tgt := 48) hx hb d_Mo_forLoop_41 (by decide) (fun c_46 => ?_) (fun c_46 => ?_)
    · refine lv_iconst (v := 0) hx hb d_Mo_forLoop_48 (by decide) ?_
      refine lv_istore (lv' := [(4, .int 0), (5, .int r_44), (3, .int r_1), (0, .ref hm), (1, .int depth), (2, .int own)]) hx hb d_Mo_forLoop_49 hl (by decide) rfl (fun ls hl => ?_)
      refine lv_aload_n hx hb d_Mo_forLoop_51 rfl (lv_at hl 3 rfl) ?_
      refine lv_iload_n hx hb d_Mo_forLoop_52 rfl (lv_at hl 2 rfl) ?_
      refine lv_iload hx hb d_Mo_forLoop_53 (lv_at hl 1 rfl) ?_
      refine mr_Vv (g := (f_Mo_hang mo_45 r_1 r_44)) (As := [.int r_1, .int r_44]) (rest := []) ⟨hx, hb, hml, hown, hts0⟩ (m_Mo_hang l hlt dC dI cI cZ sa rk hm ma mo_45 _ r_1 r_44 (fun z => hg (by unfold f_Mo_forLoop; rw [bndM_r w_1, bndM_r w_2, bndM_r w_3, if_neg c_4, bndM_r w_44, bndM_r w_45, if_neg c_46, bndM_n z]))) hP hD hK hS hA hC hZ hnt hlocks L_1115 L_1117 L_69 L_90 L_1118 k_Mo_hang ⟨(by show _ ≤ fr0 + 10; omega), (by show _ ≤ lo0 + 172; omega)⟩ rfl rfl hl.1 (Nat.le_of_ble_eq_true rfl) d_Mo_forLoop_55 rfl (fun q z => by unfold f_Mo_forLoop; rw [bndM_r w_1, bndM_r w_2, bndM_r w_3, if_neg c_4, bndM_r w_44, bndM_r w_45, if_neg c_46, bndM_l z]) (fun mo_47 H locs w_47 hP hD hS => ?_)
      refine lv_goto (tgt := 117) hx hb d_Mo_forLoop_58 (by decide) ?_
      refine lv_iload hx hb d_Mo_forLoop_117 (lv_at hl 0 rfl) ?_
      refine lv_if_eq (tgt := 171) hx hb d_Mo_forLoop_119 (by decide) (fun _ => ?_) (fun q9 => absurd q9 (by decide))
      refine lv_aload_n hx hb d_Mo_forLoop_171 rfl (lv_at hl 3 rfl) ?_
      refine lv_bipush (v := 67) hx hb d_Mo_forLoop_172 (by decide) ?_
      refine mr_Vv (g := (f_Mo_expect mo_47 67)) (As := [.int 67]) (rest := []) ⟨hx, hb, hml, hown, hts0⟩ (m_Mo_expect l hlt dC dI cI cZ sa rk hm ma mo_47 _ 67 (fun z => hg (by unfold f_Mo_forLoop; rw [bndM_r w_1, bndM_r w_2, bndM_r w_3, if_neg c_4, bndM_r w_44, bndM_r w_45, if_neg c_46, bndM_r w_47, bndM_n z]))) hP hD hK hS hA hC hZ hnt hlocks L_1111 L_1113 L_68 L_90 L_1114 k_Mo_expect ⟨(by show _ ≤ fr0 + 10; omega), (by show _ ≤ lo0 + 172; omega)⟩ rfl rfl hl.1 (Nat.le_of_ble_eq_true rfl) d_Mo_forLoop_174 rfl (fun q z => by unfold f_Mo_forLoop; rw [bndM_r w_1, bndM_r w_2, bndM_r w_3, if_neg c_4, bndM_r w_44, bndM_r w_45, if_neg c_46, bndM_r w_47, bndM_l z]) (fun mo_48 H locs w_48 hP hD hS => ?_)
      refine lv_aload_n hx hb d_Mo_forLoop_177 rfl (lv_at hl 3 rfl) ?_
      refine lv_iload_n hx hb d_Mo_forLoop_178 rfl (lv_at hl 2 rfl) ?_
      refine lv_iload_n hx hb d_Mo_forLoop_179 rfl (lv_at hl 4 rfl) ?_
      refine lv_bipush (v := 67) hx hb d_Mo_forLoop_180 (by decide) ?_
      refine mr_Sv (g := (f_Mo_part K mo_48 r_1 depth 67)) (As := [.ref hm, .int r_1, .int depth, .int 67]) (rest := []) ⟨hx, hb, hml, hown, hts0⟩ (m_Mo_part l hlt dC dI cI cZ sa rk hm ma fr0 lo0 K hR0 hR1 hR2 hR3 hR4 hR5 hR6 hR7 mo_48 _ r_1 depth 67 (fun z => hg (by unfold f_Mo_forLoop; rw [bndM_r w_1, bndM_r w_2, bndM_r w_3, if_neg c_4, bndM_r w_44, bndM_r w_45, if_neg c_46, bndM_r w_47, bndM_r w_48, bndM_n z]))) hP hD hK hS hA hC hZ hnt hlocks L_1234 L_1235 L_90 L_1236 k_Mo_part ⟨(by show _ ≤ fr0 + 10; omega), (by show _ ≤ lo0 + 172; omega)⟩ rfl rfl hl.1 (Nat.le_of_ble_eq_true rfl) d_Mo_forLoop_182 rfl (fun q z => by unfold f_Mo_forLoop; rw [bndM_r w_1, bndM_r w_2, bndM_r w_3, if_neg c_4, bndM_r w_44, bndM_r w_45, if_neg c_46, bndM_r w_47, bndM_r w_48, bndM_l z]) (fun mo_49 H locs w_49 hP hD hS => ?_)
      refine lv_aload_n hx hb d_Mo_forLoop_185 rfl (lv_at hl 3 rfl) ?_
      refine lv_iload_n hx hb d_Mo_forLoop_186 rfl (lv_at hl 2 rfl) ?_
      refine lv_iload_n hx hb d_Mo_forLoop_187 rfl (lv_at hl 4 rfl) ?_
      refine lv_bipush (v := 61) hx hb d_Mo_forLoop_188 (by decide) ?_
      refine mr_Sv (g := (f_Mo_part K mo_49 r_1 depth 61)) (As := [.ref hm, .int r_1, .int depth, .int 61]) (rest := []) ⟨hx, hb, hml, hown, hts0⟩ (m_Mo_part l hlt dC dI cI cZ sa rk hm ma fr0 lo0 K hR0 hR1 hR2 hR3 hR4 hR5 hR6 hR7 mo_49 _ r_1 depth 61 (fun z => hg (by unfold f_Mo_forLoop; rw [bndM_r w_1, bndM_r w_2, bndM_r w_3, if_neg c_4, bndM_r w_44, bndM_r w_45, if_neg c_46, bndM_r w_47, bndM_r w_48, bndM_r w_49, bndM_n z]))) hP hD hK hS hA hC hZ hnt hlocks L_1234 L_1235 L_90 L_1236 k_Mo_part ⟨(by show _ ≤ fr0 + 10; omega), (by show _ ≤ lo0 + 172; omega)⟩ rfl rfl hl.1 (Nat.le_of_ble_eq_true rfl) d_Mo_forLoop_190 rfl (fun q z => by unfold f_Mo_forLoop; rw [bndM_r w_1, bndM_r w_2, bndM_r w_3, if_neg c_4, bndM_r w_44, bndM_r w_45, if_neg c_46, bndM_r w_47, bndM_r w_48, bndM_r w_49, bndM_l z]) (fun mo_50 H locs w_50 hP hD hS => ?_)
      refine lv_aload_n hx hb d_Mo_forLoop_193 rfl (lv_at hl 3 rfl) ?_
      refine lv_iload_n hx hb d_Mo_forLoop_194 rfl (lv_at hl 2 rfl) ?_
      refine lv_aload_n hx hb d_Mo_forLoop_195 rfl (lv_at hl 3 rfl) ?_
      refine lv_iload_n hx hb d_Mo_forLoop_196 rfl (lv_at hl 4 rfl) ?_
      refine lv_iload_n hx hb d_Mo_forLoop_197 rfl (lv_at hl 5 rfl) ?_
      refine mr_Si (g := (f_Mo_body K mo_50 depth own)) (As := [.ref hm, .int depth, .int own]) (rest := [.int r_1, .ref hm]) ⟨hx, hb, hml, hown, hts0⟩ (m_Mo_body l hlt dC dI cI cZ sa rk hm ma fr0 lo0 K hR0 hR1 hR2 hR3 hR4 hR5 hR6 hR7 mo_50 _ depth own (fun z => hg (by unfold f_Mo_forLoop; rw [bndM_r w_1, bndM_r w_2, bndM_r w_3, if_neg c_4, bndM_r w_44, bndM_r w_45, if_neg c_46, bndM_r w_47, bndM_r w_48, bndM_r w_49, bndM_r w_50, bndM_n z]))) hP hD hK hS hA hC hZ hnt hlocks L_1222 L_1223 L_90 L_1224 k_Mo_body ⟨(by show _ ≤ fr0 + 10; omega), (by show _ ≤ lo0 + 172; omega)⟩ rfl rfl hl.1 (Nat.le_of_ble_eq_true rfl) d_Mo_forLoop_198 rfl (fun q z => by unfold f_Mo_forLoop; rw [bndM_r w_1, bndM_r w_2, bndM_r w_3, if_neg c_4, bndM_r w_44, bndM_r w_45, if_neg c_46, bndM_r w_47, bndM_r w_48, bndM_r w_49, bndM_r w_50, bndM_l z]) (fun r_51 mo_51 H locs w_51 hP hD hS => ?_)
      refine mr_Vv (g := (f_Mo_hang mo_51 r_1 r_51)) (As := [.int r_1, .int r_51]) (rest := []) ⟨hx, hb, hml, hown, hts0⟩ (m_Mo_hang l hlt dC dI cI cZ sa rk hm ma mo_51 _ r_1 r_51 (fun z => hg (by unfold f_Mo_forLoop; rw [bndM_r w_1, bndM_r w_2, bndM_r w_3, if_neg c_4, bndM_r w_44, bndM_r w_45, if_neg c_46, bndM_r w_47, bndM_r w_48, bndM_r w_49, bndM_r w_50, bndM_r w_51, bndM_n z]))) hP hD hK hS hA hC hZ hnt hlocks L_1115 L_1117 L_69 L_90 L_1118 k_Mo_hang ⟨(by show _ ≤ fr0 + 10; omega), (by show _ ≤ lo0 + 172; omega)⟩ rfl rfl hl.1 (Nat.le_of_ble_eq_true rfl) d_Mo_forLoop_201 rfl (fun q z => by unfold f_Mo_forLoop; rw [bndM_r w_1, bndM_r w_2, bndM_r w_3, if_neg c_4, bndM_r w_44, bndM_r w_45, if_neg c_46, bndM_r w_47, bndM_r w_48, bndM_r w_49, bndM_r w_50, bndM_r w_51, bndM_l z]) (fun mo_52 H locs w_52 hP hD hS => ?_)
      refine lv_iload_n hx hb d_Mo_forLoop_204 rfl (lv_at hl 2 rfl) ?_
      exact mr_iret (v := r_1) (mo := mo_52) hx hb hr hlocks hK hP hD hS (by unfold f_Mo_forLoop; rw [bndM_r w_1, bndM_r w_2, bndM_r w_3, if_neg c_4, bndM_r w_44, bndM_r w_45, if_neg c_46, bndM_r w_47, bndM_r w_48, bndM_r w_49, bndM_r w_50, bndM_r w_51, bndM_r w_52]) d_Mo_forLoop_205
    · refine lv_iconst (v := 1) hx hb d_Mo_forLoop_44 (by decide) ?_
      refine lv_goto (tgt := 49) hx hb d_Mo_forLoop_45 (by decide) ?_
      refine lv_istore (lv' := [(4, .int 1), (5, .int r_44), (3, .int r_1), (0, .ref hm), (1, .int depth), (2, .int own)]) hx hb d_Mo_forLoop_49 hl (by decide) rfl (fun ls hl => ?_)
      refine lv_aload_n hx hb d_Mo_forLoop_51 rfl (lv_at hl 3 rfl) ?_
      refine lv_iload_n hx hb d_Mo_forLoop_52 rfl (lv_at hl 2 rfl) ?_
      refine lv_iload hx hb d_Mo_forLoop_53 (lv_at hl 1 rfl) ?_
      refine mr_Vv (g := (f_Mo_hang mo_45 r_1 r_44)) (As := [.int r_1, .int r_44]) (rest := []) ⟨hx, hb, hml, hown, hts0⟩ (m_Mo_hang l hlt dC dI cI cZ sa rk hm ma mo_45 _ r_1 r_44 (fun z => hg (by unfold f_Mo_forLoop; rw [bndM_r w_1, bndM_r w_2, bndM_r w_3, if_neg c_4, bndM_r w_44, bndM_r w_45, if_pos c_46, bndM_n z]))) hP hD hK hS hA hC hZ hnt hlocks L_1115 L_1117 L_69 L_90 L_1118 k_Mo_hang ⟨(by show _ ≤ fr0 + 10; omega), (by show _ ≤ lo0 + 172; omega)⟩ rfl rfl hl.1 (Nat.le_of_ble_eq_true rfl) d_Mo_forLoop_55 rfl (fun q z => by unfold f_Mo_forLoop; rw [bndM_r w_1, bndM_r w_2, bndM_r w_3, if_neg c_4, bndM_r w_44, bndM_r w_45, if_pos c_46, bndM_l z]) (fun mo_53 H locs w_53 hP hD hS => ?_)
      refine lv_goto (tgt := 117) hx hb d_Mo_forLoop_58 (by decide) ?_
      refine lv_iload hx hb d_Mo_forLoop_117 (lv_at hl 0 rfl) ?_
      refine lv_if_eq (tgt := 171) hx hb d_Mo_forLoop_119 (by decide) (fun q9 => absurd q9 (by decide)) (fun _ => ?_)
      refine lv_aload_n hx hb d_Mo_forLoop_122 rfl (lv_at hl 3 rfl) ?_
      refine lv_bipush (v := 13) hx hb d_Mo_forLoop_123 (by decide) ?_
      refine mr_Vi (g := (f_Mo_isWord mo_53 13)) (As := [.int 13]) (rest := []) ⟨hx, hb, hml, hown, hts0⟩ (m_Mo_isWord l hlt dC dI cI cZ sa rk hm ma mo_53 _ 13 (fun z => hg (by unfold f_Mo_forLoop; rw [bndM_r w_1, bndM_r w_2, bndM_r w_3, if_neg c_4, bndM_r w_44, bndM_r w_45, if_pos c_46, bndM_r w_53, bndM_n z]))) hP hD hK hS hA hC hZ hnt hlocks L_1061 L_1063 L_62 L_90 L_1064 k_Mo_isWord ⟨(by show _ ≤ fr0 + 10; omega), (by show _ ≤ lo0 + 172; omega)⟩ rfl rfl hl.1 (Nat.le_of_ble_eq_true rfl) d_Mo_forLoop_125 rfl (fun q z => by unfold f_Mo_forLoop; rw [bndM_r w_1, bndM_r w_2, bndM_r w_3, if_neg c_4, bndM_r w_44, bndM_r w_45, if_pos c_46, bndM_r w_53, bndM_l z]) (fun r_54 mo_54 H locs w_54 hP hD hS => ?_)
      refine lv_if_eq (tgt := 171) hx hb d_Mo_forLoop_128 (by decide) (fun c_55 => ?_) (fun c_55 => ?_)
      · refine lv_aload_n hx hb d_Mo_forLoop_171 rfl (lv_at hl 3 rfl) ?_
        refine lv_bipush (v := 67) hx hb d_Mo_forLoop_172 (by decide) ?_
        refine mr_Vv (g := (f_Mo_expect mo_54 67)) (As := [.int 67]) (rest := []) ⟨hx, hb, hml, hown, hts0⟩ (m_Mo_expect l hlt dC dI cI cZ sa rk hm ma mo_54 _ 67 (fun z => hg (by unfold f_Mo_forLoop; rw [bndM_r w_1, bndM_r w_2, bndM_r w_3, if_neg c_4, bndM_r w_44, bndM_r w_45, if_pos c_46, bndM_r w_53, bndM_r w_54, if_pos c_55, bndM_n z]))) hP hD hK hS hA hC hZ hnt hlocks L_1111 L_1113 L_68 L_90 L_1114 k_Mo_expect ⟨(by show _ ≤ fr0 + 10; omega), (by show _ ≤ lo0 + 172; omega)⟩ rfl rfl hl.1 (Nat.le_of_ble_eq_true rfl) d_Mo_forLoop_174 rfl (fun q z => by unfold f_Mo_forLoop; rw [bndM_r w_1, bndM_r w_2, bndM_r w_3, if_neg c_4, bndM_r w_44, bndM_r w_45, if_pos c_46, bndM_r w_53, bndM_r w_54, if_pos c_55, bndM_l z]) (fun mo_56 H locs w_56 hP hD hS => ?_)
        refine lv_aload_n hx hb d_Mo_forLoop_177 rfl (lv_at hl 3 rfl) ?_
        refine lv_iload_n hx hb d_Mo_forLoop_178 rfl (lv_at hl 2 rfl) ?_
        refine lv_iload_n hx hb d_Mo_forLoop_179 rfl (lv_at hl 4 rfl) ?_
        refine lv_bipush (v := 67) hx hb d_Mo_forLoop_180 (by decide) ?_
        refine mr_Sv (g := (f_Mo_part K mo_56 r_1 depth 67)) (As := [.ref hm, .int r_1, .int depth, .int 67]) (rest := []) ⟨hx, hb, hml, hown, hts0⟩ (m_Mo_part l hlt dC dI cI cZ sa rk hm ma fr0 lo0 K hR0 hR1 hR2 hR3 hR4 hR5 hR6 hR7 mo_56 _ r_1 depth 67 (fun z => hg (by unfold f_Mo_forLoop; rw [bndM_r w_1, bndM_r w_2, bndM_r w_3, if_neg c_4, bndM_r w_44, bndM_r w_45, if_pos c_46, bndM_r w_53, bndM_r w_54, if_pos c_55, bndM_r w_56, bndM_n z]))) hP hD hK hS hA hC hZ hnt hlocks L_1234 L_1235 L_90 L_1236 k_Mo_part ⟨(by show _ ≤ fr0 + 10; omega), (by show _ ≤ lo0 + 172; omega)⟩ rfl rfl hl.1 (Nat.le_of_ble_eq_true rfl) d_Mo_forLoop_182 rfl (fun q z => by unfold f_Mo_forLoop; rw [bndM_r w_1, bndM_r w_2, bndM_r w_3, if_neg c_4, bndM_r w_44, bndM_r w_45, if_pos c_46, bndM_r w_53, bndM_r w_54, if_pos c_55, bndM_r w_56, bndM_l z]) (fun mo_57 H locs w_57 hP hD hS => ?_)
        refine lv_aload_n hx hb d_Mo_forLoop_185 rfl (lv_at hl 3 rfl) ?_
        refine lv_iload_n hx hb d_Mo_forLoop_186 rfl (lv_at hl 2 rfl) ?_
        refine lv_iload_n hx hb d_Mo_forLoop_187 rfl (lv_at hl 4 rfl) ?_
        refine lv_bipush (v := 61) hx hb d_Mo_forLoop_188 (by decide) ?_
        refine mr_Sv (g := (f_Mo_part K mo_57 r_1 depth 61)) (As := [.ref hm, .int r_1, .int depth, .int 61]) (rest := []) ⟨hx, hb, hml, hown, hts0⟩ (m_Mo_part l hlt dC dI cI cZ sa rk hm ma fr0 lo0 K hR0 hR1 hR2 hR3 hR4 hR5 hR6 hR7 mo_57 _ r_1 depth 61 (fun z => hg (by unfold f_Mo_forLoop; rw [bndM_r w_1, bndM_r w_2, bndM_r w_3, if_neg c_4, bndM_r w_44, bndM_r w_45, if_pos c_46, bndM_r w_53, bndM_r w_54, if_pos c_55, bndM_r w_56, bndM_r w_57, bndM_n z]))) hP hD hK hS hA hC hZ hnt hlocks L_1234 L_1235 L_90 L_1236 k_Mo_part ⟨(by show _ ≤ fr0 + 10; omega), (by show _ ≤ lo0 + 172; omega)⟩ rfl rfl hl.1 (Nat.le_of_ble_eq_true rfl) d_Mo_forLoop_190 rfl (fun q z => by unfold f_Mo_forLoop; rw [bndM_r w_1, bndM_r w_2, bndM_r w_3, if_neg c_4, bndM_r w_44, bndM_r w_45, if_pos c_46, bndM_r w_53, bndM_r w_54, if_pos c_55, bndM_r w_56, bndM_r w_57, bndM_l z]) (fun mo_58 H locs w_58 hP hD hS => ?_)
        refine lv_aload_n hx hb d_Mo_forLoop_193 rfl (lv_at hl 3 rfl) ?_
        refine lv_iload_n hx hb d_Mo_forLoop_194 rfl (lv_at hl 2 rfl) ?_
        refine lv_aload_n hx hb d_Mo_forLoop_195 rfl (lv_at hl 3 rfl) ?_
        refine lv_iload_n hx hb d_Mo_forLoop_196 rfl (lv_at hl 4 rfl) ?_
        refine lv_iload_n hx hb d_Mo_forLoop_197 rfl (lv_at hl 5 rfl) ?_
        refine mr_Si (g := (f_Mo_body K mo_58 depth own)) (As := [.ref hm, .int depth, .int own]) (rest := [.int r_1, .ref hm]) ⟨hx, hb, hml, hown, hts0⟩ (m_Mo_body l hlt dC dI cI cZ sa rk hm ma fr0 lo0 K hR0 hR1 hR2 hR3 hR4 hR5 hR6 hR7 mo_58 _ depth own (fun z => hg (by unfold f_Mo_forLoop; rw [bndM_r w_1, bndM_r w_2, bndM_r w_3, if_neg c_4, bndM_r w_44, bndM_r w_45, if_pos c_46, bndM_r w_53, bndM_r w_54, if_pos c_55, bndM_r w_56, bndM_r w_57, bndM_r w_58, bndM_n z]))) hP hD hK hS hA hC hZ hnt hlocks L_1222 L_1223 L_90 L_1224 k_Mo_body ⟨(by show _ ≤ fr0 + 10; omega), (by show _ ≤ lo0 + 172; omega)⟩ rfl rfl hl.1 (Nat.le_of_ble_eq_true rfl) d_Mo_forLoop_198 rfl (fun q z => by unfold f_Mo_forLoop; rw [bndM_r w_1, bndM_r w_2, bndM_r w_3, if_neg c_4, bndM_r w_44, bndM_r w_45, if_pos c_46, bndM_r w_53, bndM_r w_54, if_pos c_55, bndM_r w_56, bndM_r w_57, bndM_r w_58, bndM_l z]) (fun r_59 mo_59 H locs w_59 hP hD hS => ?_)
        refine mr_Vv (g := (f_Mo_hang mo_59 r_1 r_59)) (As := [.int r_1, .int r_59]) (rest := []) ⟨hx, hb, hml, hown, hts0⟩ (m_Mo_hang l hlt dC dI cI cZ sa rk hm ma mo_59 _ r_1 r_59 (fun z => hg (by unfold f_Mo_forLoop; rw [bndM_r w_1, bndM_r w_2, bndM_r w_3, if_neg c_4, bndM_r w_44, bndM_r w_45, if_pos c_46, bndM_r w_53, bndM_r w_54, if_pos c_55, bndM_r w_56, bndM_r w_57, bndM_r w_58, bndM_r w_59, bndM_n z]))) hP hD hK hS hA hC hZ hnt hlocks L_1115 L_1117 L_69 L_90 L_1118 k_Mo_hang ⟨(by show _ ≤ fr0 + 10; omega), (by show _ ≤ lo0 + 172; omega)⟩ rfl rfl hl.1 (Nat.le_of_ble_eq_true rfl) d_Mo_forLoop_201 rfl (fun q z => by unfold f_Mo_forLoop; rw [bndM_r w_1, bndM_r w_2, bndM_r w_3, if_neg c_4, bndM_r w_44, bndM_r w_45, if_pos c_46, bndM_r w_53, bndM_r w_54, if_pos c_55, bndM_r w_56, bndM_r w_57, bndM_r w_58, bndM_r w_59, bndM_l z]) (fun mo_60 H locs w_60 hP hD hS => ?_)
        refine lv_iload_n hx hb d_Mo_forLoop_204 rfl (lv_at hl 2 rfl) ?_
        exact mr_iret (v := r_1) (mo := mo_60) hx hb hr hlocks hK hP hD hS (by unfold f_Mo_forLoop; rw [bndM_r w_1, bndM_r w_2, bndM_r w_3, if_neg c_4, bndM_r w_44, bndM_r w_45, if_pos c_46, bndM_r w_53, bndM_r w_54, if_pos c_55, bndM_r w_56, bndM_r w_57, bndM_r w_58, bndM_r w_59, bndM_r w_60]) d_Mo_forLoop_205
      · refine lv_aload_n hx hb d_Mo_forLoop_131 rfl (lv_at hl 3 rfl) ?_
        refine lv_dup hx hb d_Mo_forLoop_132 rfl ?_
        refine va_get (D := (dC, dI)) (ci := 6) (v := .int (q_at mo_54)) (C := R_Mo) (T := T_Mo) (N := 31) hx hb hts u_Mo hown hK hP 0 rfl rfl 6 (by decide) (hts _ L_927) (fun _ h9 => h9) rfl d_Mo_forLoop_133 ?_
        refine lv_iconst (v := 1) hx hb d_Mo_forLoop_136 (by decide) ?_
        refine lv_iadd hx hb d_Mo_forLoop_137 ?_
        refine va_put (D := (dC, dI)) (ci := 6) (v := .int ((q_at mo_54) + 1)) (ty := .int) (C := R_Mo) (T := T_Mo) (N := 31) hx hb hts u_Mo ty_Mo tk_Mo nm_Mo hown hK hP hD hS 0 rfl rfl 6 (by decide) (hts _ L_927) (fun _ h9 => h9) rfl (by decide +kernel) rfl rfl (Nat.le_of_ble_eq_true rfl) d_Mo_forLoop_138 (fun H locs hP hD hS => ?_)
        have hP : va_P (dC, dI) cls (wM cI cZ hm ma (s_at mo_54 ((q_at mo_54) + 1))) H := hP
        have hD : va_D A (wM cI cZ hm ma (s_at mo_54 ((q_at mo_54) + 1))) := hD
        refine lv_aload_n hx hb d_Mo_forLoop_141 rfl (lv_at hl 3 rfl) ?_
        refine va_get (D := (dC, dI)) (ci := 6) (v := .ref (ma 4)) (C := R_Mo) (T := T_Mo) (N := 31) hx hb hts u_Mo hown hK hP 0 rfl rfl 9 (by decide) (hts _ L_930) (fun _ h9 => h9) rfl d_Mo_forLoop_142 ?_
        refine lv_iload_n hx hb d_Mo_forLoop_145 rfl (lv_at hl 2 rfl) ?_
        refine lv_bipush (v := 10) hx hb d_Mo_forLoop_146 (by decide) ?_
        by_cases cb_61 : inb r_1 2600
        case neg => exact absurd (by unfold f_Mo_forLoop; rw [bndM_r w_1, bndM_r w_2, bndM_r w_3, if_neg c_4, bndM_r w_44, bndM_r w_45, if_pos c_46, bndM_r w_53, bndM_r w_54, if_neg c_55, if_neg cb_61]) hg
        refine va_iast (D := (dC, dI)) hx hb hK hP hD hS 5 0 rfl rfl cb_61 d_Mo_forLoop_148 (fun H locs hP hD hS => ?_)
        have hP : va_P (dC, dI) cls (wM cI cZ hm ma (s_at (s_kind mo_54 (upd (q_kind mo_54) (r_1 : Int32).toNatClampNeg 10)) ((q_at mo_54) + 1))) H := hP
        have hD : va_D A (wM cI cZ hm ma (s_at (s_kind mo_54 (upd (q_kind mo_54) (r_1 : Int32).toNatClampNeg 10)) ((q_at mo_54) + 1))) := hD
        refine lv_aload_n hx hb d_Mo_forLoop_149 rfl (lv_at hl 3 rfl) ?_
        refine lv_iload_n hx hb d_Mo_forLoop_150 rfl (lv_at hl 2 rfl) ?_
        refine lv_aload_n hx hb d_Mo_forLoop_151 rfl (lv_at hl 3 rfl) ?_
        refine lv_iload_n hx hb d_Mo_forLoop_152 rfl (lv_at hl 4 rfl) ?_
        refine lv_iconst (v := 1) hx hb d_Mo_forLoop_153 (by decide) ?_
        refine lv_iadd hx hb d_Mo_forLoop_154 ?_
        refine lv_iconst (v := 1) hx hb d_Mo_forLoop_155 (by decide) ?_
        refine mr_Si (g := (K 0 [(depth + 1), 1] (s_at (s_kind mo_54 (upd (q_kind mo_54) (r_1 : Int32).toNatClampNeg 10)) ((q_at mo_54) + 1)))) (As := [.ref hm, .int (depth + 1), .int 1]) (rest := [.int r_1, .ref hm]) ⟨hx, hb, hml, hown, hts0⟩ (hR0 (s_at (s_kind mo_54 (upd (q_kind mo_54) (r_1 : Int32).toNatClampNeg 10)) ((q_at mo_54) + 1)) _ (depth + 1) 1 (fun z => hg (by unfold f_Mo_forLoop; rw [bndM_r w_1, bndM_r w_2, bndM_r w_3, if_neg c_4, bndM_r w_44, bndM_r w_45, if_pos c_46, bndM_r w_53, bndM_r w_54, if_neg c_55, if_pos cb_61, bndM_n z]))) hP hD hK hS hA hC hZ hnt hlocks L_1135 L_1136 L_90 L_1137 k_Mo_expression ⟨(by show _ ≤ fr0 + 10; omega), (by show _ ≤ lo0 + 172; omega)⟩ rfl rfl hl.1 (Nat.le_of_ble_eq_true rfl) d_Mo_forLoop_156 rfl (fun q z => by unfold f_Mo_forLoop; rw [bndM_r w_1, bndM_r w_2, bndM_r w_3, if_neg c_4, bndM_r w_44, bndM_r w_45, if_pos c_46, bndM_r w_53, bndM_r w_54, if_neg c_55, if_pos cb_61, bndM_l z]) (fun r_62 mo_62 H locs w_62 hP hD hS => ?_)
        refine mr_Vv (g := (f_Mo_hang mo_62 r_1 r_62)) (As := [.int r_1, .int r_62]) (rest := []) ⟨hx, hb, hml, hown, hts0⟩ (m_Mo_hang l hlt dC dI cI cZ sa rk hm ma mo_62 _ r_1 r_62 (fun z => hg (by unfold f_Mo_forLoop; rw [bndM_r w_1, bndM_r w_2, bndM_r w_3, if_neg c_4, bndM_r w_44, bndM_r w_45, if_pos c_46, bndM_r w_53, bndM_r w_54, if_neg c_55, if_pos cb_61, bndM_r w_62, bndM_n z]))) hP hD hK hS hA hC hZ hnt hlocks L_1115 L_1117 L_69 L_90 L_1118 k_Mo_hang ⟨(by show _ ≤ fr0 + 10; omega), (by show _ ≤ lo0 + 172; omega)⟩ rfl rfl hl.1 (Nat.le_of_ble_eq_true rfl) d_Mo_forLoop_159 rfl (fun q z => by unfold f_Mo_forLoop; rw [bndM_r w_1, bndM_r w_2, bndM_r w_3, if_neg c_4, bndM_r w_44, bndM_r w_45, if_pos c_46, bndM_r w_53, bndM_r w_54, if_neg c_55, if_pos cb_61, bndM_r w_62, bndM_l z]) (fun mo_63 H locs w_63 hP hD hS => ?_)
        refine lv_aload_n hx hb d_Mo_forLoop_162 rfl (lv_at hl 3 rfl) ?_
        refine lv_bipush (v := 61) hx hb d_Mo_forLoop_163 (by decide) ?_
        refine mr_Vv (g := (f_Mo_expect mo_63 61)) (As := [.int 61]) (rest := []) ⟨hx, hb, hml, hown, hts0⟩ (m_Mo_expect l hlt dC dI cI cZ sa rk hm ma mo_63 _ 61 (fun z => hg (by unfold f_Mo_forLoop; rw [bndM_r w_1, bndM_r w_2, bndM_r w_3, if_neg c_4, bndM_r w_44, bndM_r w_45, if_pos c_46, bndM_r w_53, bndM_r w_54, if_neg c_55, if_pos cb_61, bndM_r w_62, bndM_r w_63, bndM_n z]))) hP hD hK hS hA hC hZ hnt hlocks L_1111 L_1113 L_68 L_90 L_1114 k_Mo_expect ⟨(by show _ ≤ fr0 + 10; omega), (by show _ ≤ lo0 + 172; omega)⟩ rfl rfl hl.1 (Nat.le_of_ble_eq_true rfl) d_Mo_forLoop_165 rfl (fun q z => by unfold f_Mo_forLoop; rw [bndM_r w_1, bndM_r w_2, bndM_r w_3, if_neg c_4, bndM_r w_44, bndM_r w_45, if_pos c_46, bndM_r w_53, bndM_r w_54, if_neg c_55, if_pos cb_61, bndM_r w_62, bndM_r w_63, bndM_l z]) (fun mo_64 H locs w_64 hP hD hS => ?_)
        refine lv_goto (tgt := 193) hx hb d_Mo_forLoop_168 (by decide) ?_
        refine lv_aload_n hx hb d_Mo_forLoop_193 rfl (lv_at hl 3 rfl) ?_
        refine lv_iload_n hx hb d_Mo_forLoop_194 rfl (lv_at hl 2 rfl) ?_
        refine lv_aload_n hx hb d_Mo_forLoop_195 rfl (lv_at hl 3 rfl) ?_
        refine lv_iload_n hx hb d_Mo_forLoop_196 rfl (lv_at hl 4 rfl) ?_
        refine lv_iload_n hx hb d_Mo_forLoop_197 rfl (lv_at hl 5 rfl) ?_
        refine mr_Si (g := (f_Mo_body K mo_64 depth own)) (As := [.ref hm, .int depth, .int own]) (rest := [.int r_1, .ref hm]) ⟨hx, hb, hml, hown, hts0⟩ (m_Mo_body l hlt dC dI cI cZ sa rk hm ma fr0 lo0 K hR0 hR1 hR2 hR3 hR4 hR5 hR6 hR7 mo_64 _ depth own (fun z => hg (by unfold f_Mo_forLoop; rw [bndM_r w_1, bndM_r w_2, bndM_r w_3, if_neg c_4, bndM_r w_44, bndM_r w_45, if_pos c_46, bndM_r w_53, bndM_r w_54, if_neg c_55, if_pos cb_61, bndM_r w_62, bndM_r w_63, bndM_r w_64, bndM_n z]))) hP hD hK hS hA hC hZ hnt hlocks L_1222 L_1223 L_90 L_1224 k_Mo_body ⟨(by show _ ≤ fr0 + 10; omega), (by show _ ≤ lo0 + 172; omega)⟩ rfl rfl hl.1 (Nat.le_of_ble_eq_true rfl) d_Mo_forLoop_198 rfl (fun q z => by unfold f_Mo_forLoop; rw [bndM_r w_1, bndM_r w_2, bndM_r w_3, if_neg c_4, bndM_r w_44, bndM_r w_45, if_pos c_46, bndM_r w_53, bndM_r w_54, if_neg c_55, if_pos cb_61, bndM_r w_62, bndM_r w_63, bndM_r w_64, bndM_l z]) (fun r_65 mo_65 H locs w_65 hP hD hS => ?_)
        refine mr_Vv (g := (f_Mo_hang mo_65 r_1 r_65)) (As := [.int r_1, .int r_65]) (rest := []) ⟨hx, hb, hml, hown, hts0⟩ (m_Mo_hang l hlt dC dI cI cZ sa rk hm ma mo_65 _ r_1 r_65 (fun z => hg (by unfold f_Mo_forLoop; rw [bndM_r w_1, bndM_r w_2, bndM_r w_3, if_neg c_4, bndM_r w_44, bndM_r w_45, if_pos c_46, bndM_r w_53, bndM_r w_54, if_neg c_55, if_pos cb_61, bndM_r w_62, bndM_r w_63, bndM_r w_64, bndM_r w_65, bndM_n z]))) hP hD hK hS hA hC hZ hnt hlocks L_1115 L_1117 L_69 L_90 L_1118 k_Mo_hang ⟨(by show _ ≤ fr0 + 10; omega), (by show _ ≤ lo0 + 172; omega)⟩ rfl rfl hl.1 (Nat.le_of_ble_eq_true rfl) d_Mo_forLoop_201 rfl (fun q z => by unfold f_Mo_forLoop; rw [bndM_r w_1, bndM_r w_2, bndM_r w_3, if_neg c_4, bndM_r w_44, bndM_r w_45, if_pos c_46, bndM_r w_53, bndM_r w_54, if_neg c_55, if_pos cb_61, bndM_r w_62, bndM_r w_63, bndM_r w_64, bndM_r w_65, bndM_l z]) (fun mo_66 H locs w_66 hP hD hS => ?_)
        refine lv_iload_n hx hb d_Mo_forLoop_204 rfl (lv_at hl 2 rfl) ?_
        exact mr_iret (v := r_1) (mo := mo_66) hx hb hr hlocks hK hP hD hS (by unfold f_Mo_forLoop; rw [bndM_r w_1, bndM_r w_2, bndM_r w_3, if_neg c_4, bndM_r w_44, bndM_r w_45, if_pos c_46, bndM_r w_53, bndM_r w_54, if_neg c_55, if_pos cb_61, bndM_r w_62, bndM_r w_63, bndM_r w_64, bndM_r w_65, bndM_r w_66]) d_Mo_forLoop_205
def f_Mo_giveBack (K : Nat → List Int32 → MO → Rm) (mo : MO) (depth : Int32) : Rm := (if (q_inFunction mo) = 0 then (bndM (f_Mo_refuse mo (q_at mo)) (fun _ mo_17 => (bndM (f_Mo_plain mo_17 13) (fun r_18 mo_18 => (if (q_count mo_18) ≤ (q_at mo_18) then (bndM (f_Mo_semicolon mo_18) (fun _ mo_20 => (some (.inr (r_18, mo_20))))) else (if inb (q_at mo_18) 1001 then (if ((q_lines mo_18) ((q_at mo_18) : Int32).toNatClampNeg) = 0 then (bndM (f_Mo_isSign mo_18 67) (fun r_24 mo_24 => (if r_24 = 0 then (bndM (f_Mo_isSign mo_24 65) (fun r_27 mo_27 => (if r_27 = 0 then (bndM (K 0 [(depth + 1), 1] mo_27) (fun r_30 mo_30 => (bndM (f_Mo_hang mo_30 r_18 r_30) (fun _ mo_31 => (bndM (f_Mo_semicolon mo_31) (fun _ mo_32 => (some (.inr (r_18, mo_32))))))))) else (bndM (f_Mo_semicolon mo_27) (fun _ mo_29 => (some (.inr (r_18, mo_29)))))))) else (bndM (f_Mo_semicolon mo_24) (fun _ mo_26 => (some (.inr (r_18, mo_26)))))))) else (bndM (f_Mo_semicolon mo_18) (fun _ mo_23 => (some (.inr (r_18, mo_23)))))) else none)))))) else (bndM (f_Mo_plain mo 13) (fun r_2 mo_2 => (if (q_count mo_2) ≤ (q_at mo_2) then (bndM (f_Mo_semicolon mo_2) (fun _ mo_4 => (some (.inr (r_2, mo_4))))) else (if inb (q_at mo_2) 1001 then (if ((q_lines mo_2) ((q_at mo_2) : Int32).toNatClampNeg) = 0 then (bndM (f_Mo_isSign mo_2 67) (fun r_8 mo_8 => (if r_8 = 0 then (bndM (f_Mo_isSign mo_8 65) (fun r_11 mo_11 => (if r_11 = 0 then (bndM (K 0 [(depth + 1), 1] mo_11) (fun r_14 mo_14 => (bndM (f_Mo_hang mo_14 r_2 r_14) (fun _ mo_15 => (bndM (f_Mo_semicolon mo_15) (fun _ mo_16 => (some (.inr (r_2, mo_16))))))))) else (bndM (f_Mo_semicolon mo_11) (fun _ mo_13 => (some (.inr (r_2, mo_13)))))))) else (bndM (f_Mo_semicolon mo_8) (fun _ mo_10 => (some (.inr (r_2, mo_10)))))))) else (bndM (f_Mo_semicolon mo_2) (fun _ mo_7 => (some (.inr (r_2, mo_7)))))) else none)))))
set_option maxRecDepth 100000 in
set_option maxHeartbeats 4000000 in
theorem m_Mo_giveBack (l : Launch) (hlt : l.stackTraces = false) (dC : Nat → ClassId) (dI : Nat → Nat → Nat) (cI cZ : ClassId) (sa rk hm : Nat) (ma : Nat → Nat) (fr0 lo0 : Nat) (K : Nat → List Int32 → MO → Rm) (hR0 : ∀ (mo : MO) (sz : Nat) (p0 p1 : Int32), K 0 [p0, p1] mo ≠ none → cXi l y_Mo_expression c_Mo_expression 5 .int fr0 lo0 (dC, dI) cI cZ sa rk hm ma mo sz [.ref hm, .int p0, .int p1] (K 0 [p0, p1] mo)) (hR1 : ∀ (mo : MO) (sz : Nat) (p0 p1 : Int32), K 1 [p0, p1] mo ≠ none → cXi l y_Mo_assignment c_Mo_assignment 5 .int fr0 lo0 (dC, dI) cI cZ sa rk hm ma mo sz [.ref hm, .int p0, .int p1] (K 1 [p0, p1] mo)) (hR2 : ∀ (mo : MO) (sz : Nat) (p0 p1 p2 : Int32), K 2 [p0, p1, p2] mo ≠ none → cXi l y_Mo_binary c_Mo_binary 7 .int fr0 lo0 (dC, dI) cI cZ sa rk hm ma mo sz [.ref hm, .int p0, .int p1, .int p2] (K 2 [p0, p1, p2] mo)) (hR3 : ∀ (mo : MO) (sz : Nat) (p0 : Int32), K 3 [p0] mo ≠ none → cXi l y_Mo_unary c_Mo_unary 5 .int fr0 lo0 (dC, dI) cI cZ sa rk hm ma mo sz [.ref hm, .int p0] (K 3 [p0] mo)) (hR4 : ∀ (mo : MO) (sz : Nat) (p0 p1 : Int32), K 4 [p0, p1] mo ≠ none → cXi l y_Mo_member c_Mo_member 6 .int fr0 lo0 (dC, dI) cI cZ sa rk hm ma mo sz [.ref hm, .int p0, .int p1] (K 4 [p0, p1] mo)) (hR5 : ∀ (mo : MO) (sz : Nat) (p0 p1 : Int32), K 5 [p0, p1] mo ≠ none → cXi l y_Mo_statement c_Mo_statement 3 .int fr0 lo0 (dC, dI) cI cZ sa rk hm ma mo sz [.ref hm, .int p0, .int p1] (K 5 [p0, p1] mo)) (hR6 : ∀ (mo : MO) (sz : Nat) (p0 p1 p2 : Int32), K 6 [p0, p1, p2] mo ≠ none → cXv l y_Mo_statements c_Mo_statements 8 fr0 lo0 (dC, dI) cI cZ sa rk hm ma mo sz [.ref hm, .int p0, .int p1, .int p2] (K 6 [p0, p1, p2] mo)) (hR7 : ∀ (mo : MO) (sz : Nat) (p0 : Int32), K 7 [p0] mo ≠ none → cXi l y_Mo_block c_Mo_block 4 .int fr0 lo0 (dC, dI) cI cZ sa rk hm ma mo sz [.ref hm, .int p0] (K 7 [p0] mo)) (mo : MO) (sz : Nat) (depth : Int32) (hg : (f_Mo_giveBack K mo depth) ≠ none) : cXi l y_Mo_giveBack c_Mo_giveBack 3 .int (fr0 + 8) (lo0 + 122) (dC, dI) cI cZ sa rk hm ma mo sz [.ref hm, .int depth] (f_Mo_giveBack K mo depth) := by
  refine vx_ofW (cc := c_Mo_giveBack) (maxL := 3) (ret := (some .int)) (by decide) rfl ?_
  intro p e s m args below meth c s₁ B hml hnt hv
  obtain ⟨rfl, hsz, hP, hK, hD0, hC, hZ⟩ := hv
  have hx := B.exec
  have hb := B.bytes
  have hr := B.returns
  have hts0 := atoms_spec (ws := wy y_Mo_giveBack c_Mo_giveBack 3 (some .int)) B.pre
  have hts := htsL hts0
  have hown : s.vm.findClass R_Mo = some m.cls := findClass_of_methodNamed B.named
  have hlocks := B.notSynchronized
  subst hsz
  have hD := hD0.self (sz := s.heap.size)
  generalize hAe : va_A (wM cI cZ hm ma mo) s.heap.size = A at hD hZ ⊢
  have hA : ∀ q : Nat, s.heap.size ≤ q → A q := fun q h => by rw [← hAe]; exact Or.inr h
  have hS : va_S A s.heap s.heap [] := va_S.rf
  have hl := lv_entry ([.ref hm, .int depth]) (n := 3) (Nat.le_of_ble_eq_true rfl)
  rw [lg_entry_eq]
  generalize (lg_sl ([.ref hm, .int depth]) ++ List.replicate (3 - (lg_sl ([.ref hm, .int depth])).length) Slot.unset).toArray = ls at hl ⊢
  have hl : lv_has ls 3 [(0, .ref hm), (1, .int depth)] := hl
  refine lv_aload_n hx hb d_Mo_giveBack_0 rfl (lv_at hl 0 rfl) ?_
  refine va_get (D := (dC, dI)) (ci := 6) (v := .int (q_inFunction mo)) (C := R_Mo) (T := T_Mo) (N := 31) hx hb hts u_Mo hown hK hP 0 rfl rfl 20 (by decide) (hts _ L_941) (fun _ h9 => h9) rfl d_Mo_giveBack_1 ?_
  refine lv_if_ne (tgt := 15) hx hb d_Mo_giveBack_4 (by decide) (fun c_1 => ?_) (fun c_1 => ?_)
  · refine lv_aload_n hx hb d_Mo_giveBack_15 rfl (lv_at hl 0 rfl) ?_
    refine lv_bipush (v := 13) hx hb d_Mo_giveBack_16 (by decide) ?_
    refine mr_Vi (g := (f_Mo_plain mo 13)) (As := [.int 13]) (rest := []) ⟨hx, hb, hml, hown, hts0⟩ (m_Mo_plain l hlt dC dI cI cZ sa rk hm ma mo _ 13 (fun z => hg (by unfold f_Mo_giveBack; rw [if_neg c_1, bndM_n z]))) hP hD hK hS hA hC hZ hnt hlocks L_1128 L_1130 L_70 L_90 L_1131 k_Mo_plain ⟨(by show _ ≤ fr0 + 8; omega), (by show _ ≤ lo0 + 122; omega)⟩ rfl rfl hl.1 (Nat.le_of_ble_eq_true rfl) d_Mo_giveBack_18 rfl (fun q z => by unfold f_Mo_giveBack; rw [if_neg c_1, bndM_l z]) (fun r_2 mo_2 H locs w_2 hP hD hS => ?_)
    refine lv_istore_n (lv' := [(2, .int r_2), (0, .ref hm), (1, .int depth)]) hx hb d_Mo_giveBack_21 rfl hl (by decide) rfl (fun ls hl => ?_)
    refine lv_aload_n hx hb d_Mo_giveBack_22 rfl (lv_at hl 1 rfl) ?_
    refine va_get (D := (dC, dI)) (ci := 6) (v := .int (q_at mo_2)) (C := R_Mo) (T := T_Mo) (N := 31) hx hb hts u_Mo hown hK hP 0 rfl rfl 6 (by decide) (hts _ L_927) (fun _ h9 => h9) rfl d_Mo_giveBack_23 ?_
    refine lv_aload_n hx hb d_Mo_giveBack_26 rfl (lv_at hl 1 rfl) ?_
    refine va_get (D := (dC, dI)) (ci := 6) (v := .int (q_count mo_2)) (C := R_Mo) (T := T_Mo) (N := 31) hx hb hts u_Mo hown hK hP 0 rfl rfl 5 (by decide) (hts _ L_926) (fun _ h9 => h9) rfl d_Mo_giveBack_27 ?_
    refine lv_icmp_ge (tgt := 76) hx hb d_Mo_giveBack_30 (by decide) (fun c_3 => ?_) (fun c_3 => ?_)
    · refine lv_aload_n hx hb d_Mo_giveBack_76 rfl (lv_at hl 1 rfl) ?_
      refine mr_Vv (g := (f_Mo_semicolon mo_2)) (As := []) (rest := []) ⟨hx, hb, hml, hown, hts0⟩ (m_Mo_semicolon l hlt dC dI cI cZ sa rk hm ma mo_2 _  (fun z => hg (by unfold f_Mo_giveBack; rw [if_neg c_1, bndM_r w_2, if_pos c_3, bndM_n z]))) hP hD hK hS hA hC hZ hnt hlocks L_1209 L_1211 L_79 L_90 L_1212 k_Mo_semicolon ⟨(by show _ ≤ fr0 + 8; omega), (by show _ ≤ lo0 + 122; omega)⟩ rfl rfl hl.1 (Nat.le_of_ble_eq_true rfl) d_Mo_giveBack_77 rfl (fun q z => by unfold f_Mo_giveBack; rw [if_neg c_1, bndM_r w_2, if_pos c_3, bndM_l z]) (fun mo_4 H locs w_4 hP hD hS => ?_)
      refine lv_iload_n hx hb d_Mo_giveBack_80 rfl (lv_at hl 0 rfl) ?_
      exact mr_iret (v := r_2) (mo := mo_4) hx hb hr hlocks hK hP hD hS (by unfold f_Mo_giveBack; rw [if_neg c_1, bndM_r w_2, if_pos c_3, bndM_r w_4]) d_Mo_giveBack_81
    · refine lv_aload_n hx hb d_Mo_giveBack_33 rfl (lv_at hl 1 rfl) ?_
      refine va_get (D := (dC, dI)) (ci := 6) (v := .ref (ma 3)) (C := R_Mo) (T := T_Mo) (N := 31) hx hb hts u_Mo hown hK hP 0 rfl rfl 4 (by decide) (hts _ L_925) (fun _ h9 => h9) rfl d_Mo_giveBack_34 ?_
      refine lv_aload_n hx hb d_Mo_giveBack_37 rfl (lv_at hl 1 rfl) ?_
      refine va_get (D := (dC, dI)) (ci := 6) (v := .int (q_at mo_2)) (C := R_Mo) (T := T_Mo) (N := 31) hx hb hts u_Mo hown hK hP 0 rfl rfl 6 (by decide) (hts _ L_927) (fun _ h9 => h9) rfl d_Mo_giveBack_38 ?_
      by_cases cb_5 : inb (q_at mo_2) 1001
      case neg => exact absurd (by unfold f_Mo_giveBack; rw [if_neg c_1, bndM_r w_2, if_neg c_3, if_neg cb_5]) hg
      refine va_zald (D := (dC, dI)) hx hb hK hP 4 1 rfl rfl cb_5 d_Mo_giveBack_41 ?_
      refine lv_if_ne (tgt := 76) hx hb d_Mo_giveBack_42 (by decide) (fun c_6 => ?_) (fun c_6 => ?_)
      · refine lv_aload_n hx hb d_Mo_giveBack_76 rfl (lv_at hl 1 rfl) ?_
        refine mr_Vv (g := (f_Mo_semicolon mo_2)) (As := []) (rest := []) ⟨hx, hb, hml, hown, hts0⟩ (m_Mo_semicolon l hlt dC dI cI cZ sa rk hm ma mo_2 _  (fun z => hg (by unfold f_Mo_giveBack; rw [if_neg c_1, bndM_r w_2, if_neg c_3, if_pos cb_5, if_neg c_6, bndM_n z]))) hP hD hK hS hA hC hZ hnt hlocks L_1209 L_1211 L_79 L_90 L_1212 k_Mo_semicolon ⟨(by show _ ≤ fr0 + 8; omega), (by show _ ≤ lo0 + 122; omega)⟩ rfl rfl hl.1 (Nat.le_of_ble_eq_true rfl) d_Mo_giveBack_77 rfl (fun q z => by unfold f_Mo_giveBack; rw [if_neg c_1, bndM_r w_2, if_neg c_3, if_pos cb_5, if_neg c_6, bndM_l z]) (fun mo_7 H locs w_7 hP hD hS => ?_)
        refine lv_iload_n hx hb d_Mo_giveBack_80 rfl (lv_at hl 0 rfl) ?_
        exact mr_iret (v := r_2) (mo := mo_7) hx hb hr hlocks hK hP hD hS (by unfold f_Mo_giveBack; rw [if_neg c_1, bndM_r w_2, if_neg c_3, if_pos cb_5, if_neg c_6, bndM_r w_7]) d_Mo_giveBack_81
      · refine lv_aload_n hx hb d_Mo_giveBack_45 rfl (lv_at hl 1 rfl) ?_
        refine lv_bipush (v := 67) hx hb d_Mo_giveBack_46 (by decide) ?_
        refine mr_Vi (g := (f_Mo_isSign mo_2 67)) (As := [.int 67]) (rest := []) ⟨hx, hb, hml, hown, hts0⟩ (m_Mo_isSign l hlt dC dI cI cZ sa rk hm ma mo_2 _ 67 (fun z => hg (by unfold f_Mo_giveBack; rw [if_neg c_1, bndM_r w_2, if_neg c_3, if_pos cb_5, if_pos c_6, bndM_n z]))) hP hD hK hS hA hC hZ hnt hlocks L_1053 L_1055 L_60 L_90 L_1056 k_Mo_isSign ⟨(by show _ ≤ fr0 + 8; omega), (by show _ ≤ lo0 + 122; omega)⟩ rfl rfl hl.1 (Nat.le_of_ble_eq_true rfl) d_Mo_giveBack_48 rfl (fun q z => by unfold f_Mo_giveBack; rw [if_neg c_1, bndM_r w_2, if_neg c_3, if_pos cb_5, if_pos c_6, bndM_l z]) (fun r_8 mo_8 H locs w_8 hP hD hS => ?_)
        refine lv_if_ne (tgt := 76) hx hb d_Mo_giveBack_51 (by decide) (fun c_9 => ?_) (fun c_9 => ?_)
        · refine lv_aload_n hx hb d_Mo_giveBack_76 rfl (lv_at hl 1 rfl) ?_
          refine mr_Vv (g := (f_Mo_semicolon mo_8)) (As := []) (rest := []) ⟨hx, hb, hml, hown, hts0⟩ (m_Mo_semicolon l hlt dC dI cI cZ sa rk hm ma mo_8 _  (fun z => hg (by unfold f_Mo_giveBack; rw [if_neg c_1, bndM_r w_2, if_neg c_3, if_pos cb_5, if_pos c_6, bndM_r w_8, if_neg c_9, bndM_n z]))) hP hD hK hS hA hC hZ hnt hlocks L_1209 L_1211 L_79 L_90 L_1212 k_Mo_semicolon ⟨(by show _ ≤ fr0 + 8; omega), (by show _ ≤ lo0 + 122; omega)⟩ rfl rfl hl.1 (Nat.le_of_ble_eq_true rfl) d_Mo_giveBack_77 rfl (fun q z => by unfold f_Mo_giveBack; rw [if_neg c_1, bndM_r w_2, if_neg c_3, if_pos cb_5, if_pos c_6, bndM_r w_8, if_neg c_9, bndM_l z]) (fun mo_10 H locs w_10 hP hD hS => ?_)
          refine lv_iload_n hx hb d_Mo_giveBack_80 rfl (lv_at hl 0 rfl) ?_
          exact mr_iret (v := r_2) (mo := mo_10) hx hb hr hlocks hK hP hD hS (by unfold f_Mo_giveBack; rw [if_neg c_1, bndM_r w_2, if_neg c_3, if_pos cb_5, if_pos c_6, bndM_r w_8, if_neg c_9, bndM_r w_10]) d_Mo_giveBack_81
        · refine lv_aload_n hx hb d_Mo_giveBack_54 rfl (lv_at hl 1 rfl) ?_
          refine lv_bipush (v := 65) hx hb d_Mo_giveBack_55 (by decide) ?_
          refine mr_Vi (g := (f_Mo_isSign mo_8 65)) (As := [.int 65]) (rest := []) ⟨hx, hb, hml, hown, hts0⟩ (m_Mo_isSign l hlt dC dI cI cZ sa rk hm ma mo_8 _ 65 (fun z => hg (by unfold f_Mo_giveBack; rw [if_neg c_1, bndM_r w_2, if_neg c_3, if_pos cb_5, if_pos c_6, bndM_r w_8, if_pos c_9, bndM_n z]))) hP hD hK hS hA hC hZ hnt hlocks L_1053 L_1055 L_60 L_90 L_1056 k_Mo_isSign ⟨(by show _ ≤ fr0 + 8; omega), (by show _ ≤ lo0 + 122; omega)⟩ rfl rfl hl.1 (Nat.le_of_ble_eq_true rfl) d_Mo_giveBack_57 rfl (fun q z => by unfold f_Mo_giveBack; rw [if_neg c_1, bndM_r w_2, if_neg c_3, if_pos cb_5, if_pos c_6, bndM_r w_8, if_pos c_9, bndM_l z]) (fun r_11 mo_11 H locs w_11 hP hD hS => ?_)
          refine lv_if_ne (tgt := 76) hx hb d_Mo_giveBack_60 (by decide) (fun c_12 => ?_) (fun c_12 => ?_)
          · refine lv_aload_n hx hb d_Mo_giveBack_76 rfl (lv_at hl 1 rfl) ?_
            refine mr_Vv (g := (f_Mo_semicolon mo_11)) (As := []) (rest := []) ⟨hx, hb, hml, hown, hts0⟩ (m_Mo_semicolon l hlt dC dI cI cZ sa rk hm ma mo_11 _  (fun z => hg (by unfold f_Mo_giveBack; rw [if_neg c_1, bndM_r w_2, if_neg c_3, if_pos cb_5, if_pos c_6, bndM_r w_8, if_pos c_9, bndM_r w_11, if_neg c_12, bndM_n z]))) hP hD hK hS hA hC hZ hnt hlocks L_1209 L_1211 L_79 L_90 L_1212 k_Mo_semicolon ⟨(by show _ ≤ fr0 + 8; omega), (by show _ ≤ lo0 + 122; omega)⟩ rfl rfl hl.1 (Nat.le_of_ble_eq_true rfl) d_Mo_giveBack_77 rfl (fun q z => by unfold f_Mo_giveBack; rw [if_neg c_1, bndM_r w_2, if_neg c_3, if_pos cb_5, if_pos c_6, bndM_r w_8, if_pos c_9, bndM_r w_11, if_neg c_12, bndM_l z]) (fun mo_13 H locs w_13 hP hD hS => ?_)
            refine lv_iload_n hx hb d_Mo_giveBack_80 rfl (lv_at hl 0 rfl) ?_
            exact mr_iret (v := r_2) (mo := mo_13) hx hb hr hlocks hK hP hD hS (by unfold f_Mo_giveBack; rw [if_neg c_1, bndM_r w_2, if_neg c_3, if_pos cb_5, if_pos c_6, bndM_r w_8, if_pos c_9, bndM_r w_11, if_neg c_12, bndM_r w_13]) d_Mo_giveBack_81
          · refine lv_aload_n hx hb d_Mo_giveBack_63 rfl (lv_at hl 1 rfl) ?_
            refine lv_iload_n hx hb d_Mo_giveBack_64 rfl (lv_at hl 0 rfl) ?_
            refine lv_aload_n hx hb d_Mo_giveBack_65 rfl (lv_at hl 1 rfl) ?_
            refine lv_iload_n hx hb d_Mo_giveBack_66 rfl (lv_at hl 2 rfl) ?_
            refine lv_iconst (v := 1) hx hb d_Mo_giveBack_67 (by decide) ?_
            refine lv_iadd hx hb d_Mo_giveBack_68 ?_
            refine lv_iconst (v := 1) hx hb d_Mo_giveBack_69 (by decide) ?_
            refine mr_Si (g := (K 0 [(depth + 1), 1] mo_11)) (As := [.ref hm, .int (depth + 1), .int 1]) (rest := [.int r_2, .ref hm]) ⟨hx, hb, hml, hown, hts0⟩ (hR0 mo_11 _ (depth + 1) 1 (fun z => hg (by unfold f_Mo_giveBack; rw [if_neg c_1, bndM_r w_2, if_neg c_3, if_pos cb_5, if_pos c_6, bndM_r w_8, if_pos c_9, bndM_r w_11, if_pos c_12, bndM_n z]))) hP hD hK hS hA hC hZ hnt hlocks L_1135 L_1136 L_90 L_1137 k_Mo_expression ⟨(by show _ ≤ fr0 + 8; omega), (by show _ ≤ lo0 + 122; omega)⟩ rfl rfl hl.1 (Nat.le_of_ble_eq_true rfl) d_Mo_giveBack_70 rfl (fun q z => by unfold f_Mo_giveBack; rw [if_neg c_1, bndM_r w_2, if_neg c_3, if_pos cb_5, if_pos c_6, bndM_r w_8, if_pos c_9, bndM_r w_11, if_pos c_12, bndM_l z]) (fun r_14 mo_14 H locs w_14 hP hD hS => ?_)
            refine mr_Vv (g := (f_Mo_hang mo_14 r_2 r_14)) (As := [.int r_2, .int r_14]) (rest := []) ⟨hx, hb, hml, hown, hts0⟩ (m_Mo_hang l hlt dC dI cI cZ sa rk hm ma mo_14 _ r_2 r_14 (fun z => hg (by unfold f_Mo_giveBack; rw [if_neg c_1, bndM_r w_2, if_neg c_3, if_pos cb_5, if_pos c_6, bndM_r w_8, if_pos c_9, bndM_r w_11, if_pos c_12, bndM_r w_14, bndM_n z]))) hP hD hK hS hA hC hZ hnt hlocks L_1115 L_1117 L_69 L_90 L_1118 k_Mo_hang ⟨(by show _ ≤ fr0 + 8; omega), (by show _ ≤ lo0 + 122; omega)⟩ rfl rfl hl.1 (Nat.le_of_ble_eq_true rfl) d_Mo_giveBack_73 rfl (fun q z => by unfold f_Mo_giveBack; rw [if_neg c_1, bndM_r w_2, if_neg c_3, if_pos cb_5, if_pos c_6, bndM_r w_8, if_pos c_9, bndM_r w_11, if_pos c_12, bndM_r w_14, bndM_l z]) (fun mo_15 H locs w_15 hP hD hS => ?_)
            refine lv_aload_n hx hb d_Mo_giveBack_76 rfl (lv_at hl 1 rfl) ?_
            refine mr_Vv (g := (f_Mo_semicolon mo_15)) (As := []) (rest := []) ⟨hx, hb, hml, hown, hts0⟩ (m_Mo_semicolon l hlt dC dI cI cZ sa rk hm ma mo_15 _  (fun z => hg (by unfold f_Mo_giveBack; rw [if_neg c_1, bndM_r w_2, if_neg c_3, if_pos cb_5, if_pos c_6, bndM_r w_8, if_pos c_9, bndM_r w_11, if_pos c_12, bndM_r w_14, bndM_r w_15, bndM_n z]))) hP hD hK hS hA hC hZ hnt hlocks L_1209 L_1211 L_79 L_90 L_1212 k_Mo_semicolon ⟨(by show _ ≤ fr0 + 8; omega), (by show _ ≤ lo0 + 122; omega)⟩ rfl rfl hl.1 (Nat.le_of_ble_eq_true rfl) d_Mo_giveBack_77 rfl (fun q z => by unfold f_Mo_giveBack; rw [if_neg c_1, bndM_r w_2, if_neg c_3, if_pos cb_5, if_pos c_6, bndM_r w_8, if_pos c_9, bndM_r w_11, if_pos c_12, bndM_r w_14, bndM_r w_15, bndM_l z]) (fun mo_16 H locs w_16 hP hD hS => ?_)
            refine lv_iload_n hx hb d_Mo_giveBack_80 rfl (lv_at hl 0 rfl) ?_
            exact mr_iret (v := r_2) (mo := mo_16) hx hb hr hlocks hK hP hD hS (by unfold f_Mo_giveBack; rw [if_neg c_1, bndM_r w_2, if_neg c_3, if_pos cb_5, if_pos c_6, bndM_r w_8, if_pos c_9, bndM_r w_11, if_pos c_12, bndM_r w_14, bndM_r w_15, bndM_r w_16]) d_Mo_giveBack_81
  · refine lv_aload_n hx hb d_Mo_giveBack_7 rfl (lv_at hl 0 rfl) ?_
    refine lv_aload_n hx hb d_Mo_giveBack_8 rfl (lv_at hl 0 rfl) ?_
    refine va_get (D := (dC, dI)) (ci := 6) (v := .int (q_at mo)) (C := R_Mo) (T := T_Mo) (N := 31) hx hb hts u_Mo hown hK hP 0 rfl rfl 6 (by decide) (hts _ L_927) (fun _ h9 => h9) rfl d_Mo_giveBack_9 ?_
    refine mr_Vv (g := (f_Mo_refuse mo (q_at mo))) (As := [.int (q_at mo)]) (rest := []) ⟨hx, hb, hml, hown, hts0⟩ (m_Mo_refuse l hlt dC dI cI cZ sa rk hm ma mo _ (q_at mo) ) hP hD hK hS hA hC hZ hnt hlocks L_1072 L_1074 L_64 L_90 L_1075 k_Mo_refuse ⟨(by show _ ≤ fr0 + 8; omega), (by show _ ≤ lo0 + 122; omega)⟩ rfl rfl hl.1 (Nat.le_of_ble_eq_true rfl) d_Mo_giveBack_12 rfl (fun q z => by unfold f_Mo_giveBack; rw [if_pos c_1, bndM_l z]) (fun mo_17 H locs w_17 hP hD hS => ?_)
    refine lv_aload_n hx hb d_Mo_giveBack_15 rfl (lv_at hl 0 rfl) ?_
    refine lv_bipush (v := 13) hx hb d_Mo_giveBack_16 (by decide) ?_
    refine mr_Vi (g := (f_Mo_plain mo_17 13)) (As := [.int 13]) (rest := []) ⟨hx, hb, hml, hown, hts0⟩ (m_Mo_plain l hlt dC dI cI cZ sa rk hm ma mo_17 _ 13 (fun z => hg (by unfold f_Mo_giveBack; rw [if_pos c_1, bndM_r w_17, bndM_n z]))) hP hD hK hS hA hC hZ hnt hlocks L_1128 L_1130 L_70 L_90 L_1131 k_Mo_plain ⟨(by show _ ≤ fr0 + 8; omega), (by show _ ≤ lo0 + 122; omega)⟩ rfl rfl hl.1 (Nat.le_of_ble_eq_true rfl) d_Mo_giveBack_18 rfl (fun q z => by unfold f_Mo_giveBack; rw [if_pos c_1, bndM_r w_17, bndM_l z]) (fun r_18 mo_18 H locs w_18 hP hD hS => ?_)
    refine lv_istore_n (lv' := [(2, .int r_18), (0, .ref hm), (1, .int depth)]) hx hb d_Mo_giveBack_21 rfl hl (by decide) rfl (fun ls hl => ?_)
    refine lv_aload_n hx hb d_Mo_giveBack_22 rfl (lv_at hl 1 rfl) ?_
    refine va_get (D := (dC, dI)) (ci := 6) (v := .int (q_at mo_18)) (C := R_Mo) (T := T_Mo) (N := 31) hx hb hts u_Mo hown hK hP 0 rfl rfl 6 (by decide) (hts _ L_927) (fun _ h9 => h9) rfl d_Mo_giveBack_23 ?_
    refine lv_aload_n hx hb d_Mo_giveBack_26 rfl (lv_at hl 1 rfl) ?_
    refine va_get (D := (dC, dI)) (ci := 6) (v := .int (q_count mo_18)) (C := R_Mo) (T := T_Mo) (N := 31) hx hb hts u_Mo hown hK hP 0 rfl rfl 5 (by decide) (hts _ L_926) (fun _ h9 => h9) rfl d_Mo_giveBack_27 ?_
    refine lv_icmp_ge (tgt := 76) hx hb d_Mo_giveBack_30 (by decide) (fun c_19 => ?_) (fun c_19 => ?_)
    · refine lv_aload_n hx hb d_Mo_giveBack_76 rfl (lv_at hl 1 rfl) ?_
      refine mr_Vv (g := (f_Mo_semicolon mo_18)) (As := []) (rest := []) ⟨hx, hb, hml, hown, hts0⟩ (m_Mo_semicolon l hlt dC dI cI cZ sa rk hm ma mo_18 _  (fun z => hg (by unfold f_Mo_giveBack; rw [if_pos c_1, bndM_r w_17, bndM_r w_18, if_pos c_19, bndM_n z]))) hP hD hK hS hA hC hZ hnt hlocks L_1209 L_1211 L_79 L_90 L_1212 k_Mo_semicolon ⟨(by show _ ≤ fr0 + 8; omega), (by show _ ≤ lo0 + 122; omega)⟩ rfl rfl hl.1 (Nat.le_of_ble_eq_true rfl) d_Mo_giveBack_77 rfl (fun q z => by unfold f_Mo_giveBack; rw [if_pos c_1, bndM_r w_17, bndM_r w_18, if_pos c_19, bndM_l z]) (fun mo_20 H locs w_20 hP hD hS => ?_)
      refine lv_iload_n hx hb d_Mo_giveBack_80 rfl (lv_at hl 0 rfl) ?_
      exact mr_iret (v := r_18) (mo := mo_20) hx hb hr hlocks hK hP hD hS (by unfold f_Mo_giveBack; rw [if_pos c_1, bndM_r w_17, bndM_r w_18, if_pos c_19, bndM_r w_20]) d_Mo_giveBack_81
    · refine lv_aload_n hx hb d_Mo_giveBack_33 rfl (lv_at hl 1 rfl) ?_
      refine va_get (D := (dC, dI)) (ci := 6) (v := .ref (ma 3)) (C := R_Mo) (T := T_Mo) (N := 31) hx hb hts u_Mo hown hK hP 0 rfl rfl 4 (by decide) (hts _ L_925) (fun _ h9 => h9) rfl d_Mo_giveBack_34 ?_
      refine lv_aload_n hx hb d_Mo_giveBack_37 rfl (lv_at hl 1 rfl) ?_
      refine va_get (D := (dC, dI)) (ci := 6) (v := .int (q_at mo_18)) (C := R_Mo) (T := T_Mo) (N := 31) hx hb hts u_Mo hown hK hP 0 rfl rfl 6 (by decide) (hts _ L_927) (fun _ h9 => h9) rfl d_Mo_giveBack_38 ?_
      by_cases cb_21 : inb (q_at mo_18) 1001
      case neg => exact absurd (by unfold f_Mo_giveBack; rw [if_pos c_1, bndM_r w_17, bndM_r w_18, if_neg c_19, if_neg cb_21]) hg
      refine va_zald (D := (dC, dI)) hx hb hK hP 4 1 rfl rfl cb_21 d_Mo_giveBack_41 ?_
      refine lv_if_ne (tgt := 76) hx hb d_Mo_giveBack_42 (by decide) (fun c_22 => ?_) (fun c_22 => ?_)
      · refine lv_aload_n hx hb d_Mo_giveBack_76 rfl (lv_at hl 1 rfl) ?_
        refine mr_Vv (g := (f_Mo_semicolon mo_18)) (As := []) (rest := []) ⟨hx, hb, hml, hown, hts0⟩ (m_Mo_semicolon l hlt dC dI cI cZ sa rk hm ma mo_18 _  (fun z => hg (by unfold f_Mo_giveBack; rw [if_pos c_1, bndM_r w_17, bndM_r w_18, if_neg c_19, if_pos cb_21, if_neg c_22, bndM_n z]))) hP hD hK hS hA hC hZ hnt hlocks L_1209 L_1211 L_79 L_90 L_1212 k_Mo_semicolon ⟨(by show _ ≤ fr0 + 8; omega), (by show _ ≤ lo0 + 122; omega)⟩ rfl rfl hl.1 (Nat.le_of_ble_eq_true rfl) d_Mo_giveBack_77 rfl (fun q z => by unfold f_Mo_giveBack; rw [if_pos c_1, bndM_r w_17, bndM_r w_18, if_neg c_19, if_pos cb_21, if_neg c_22, bndM_l z]) (fun mo_23 H locs w_23 hP hD hS => ?_)
        refine lv_iload_n hx hb d_Mo_giveBack_80 rfl (lv_at hl 0 rfl) ?_
        exact mr_iret (v := r_18) (mo := mo_23) hx hb hr hlocks hK hP hD hS (by unfold f_Mo_giveBack; rw [if_pos c_1, bndM_r w_17, bndM_r w_18, if_neg c_19, if_pos cb_21, if_neg c_22, bndM_r w_23]) d_Mo_giveBack_81
      · refine lv_aload_n hx hb d_Mo_giveBack_45 rfl (lv_at hl 1 rfl) ?_
        refine lv_bipush (v := 67) hx hb d_Mo_giveBack_46 (by decide) ?_
        refine mr_Vi (g := (f_Mo_isSign mo_18 67)) (As := [.int 67]) (rest := []) ⟨hx, hb, hml, hown, hts0⟩ (m_Mo_isSign l hlt dC dI cI cZ sa rk hm ma mo_18 _ 67 (fun z => hg (by unfold f_Mo_giveBack; rw [if_pos c_1, bndM_r w_17, bndM_r w_18, if_neg c_19, if_pos cb_21, if_pos c_22, bndM_n z]))) hP hD hK hS hA hC hZ hnt hlocks L_1053 L_1055 L_60 L_90 L_1056 k_Mo_isSign ⟨(by show _ ≤ fr0 + 8; omega), (by show _ ≤ lo0 + 122; omega)⟩ rfl rfl hl.1 (Nat.le_of_ble_eq_true rfl) d_Mo_giveBack_48 rfl (fun q z => by unfold f_Mo_giveBack; rw [if_pos c_1, bndM_r w_17, bndM_r w_18, if_neg c_19, if_pos cb_21, if_pos c_22, bndM_l z]) (fun r_24 mo_24 H locs w_24 hP hD hS => ?_)
        refine lv_if_ne (tgt := 76) hx hb d_Mo_giveBack_51 (by decide) (fun c_25 => ?_) (fun c_25 => ?_)
        · refine lv_aload_n hx hb d_Mo_giveBack_76 rfl (lv_at hl 1 rfl) ?_
          refine mr_Vv (g := (f_Mo_semicolon mo_24)) (As := []) (rest := []) ⟨hx, hb, hml, hown, hts0⟩ (m_Mo_semicolon l hlt dC dI cI cZ sa rk hm ma mo_24 _  (fun z => hg (by unfold f_Mo_giveBack; rw [if_pos c_1, bndM_r w_17, bndM_r w_18, if_neg c_19, if_pos cb_21, if_pos c_22, bndM_r w_24, if_neg c_25, bndM_n z]))) hP hD hK hS hA hC hZ hnt hlocks L_1209 L_1211 L_79 L_90 L_1212 k_Mo_semicolon ⟨(by show _ ≤ fr0 + 8; omega), (by show _ ≤ lo0 + 122; omega)⟩ rfl rfl hl.1 (Nat.le_of_ble_eq_true rfl) d_Mo_giveBack_77 rfl (fun q z => by unfold f_Mo_giveBack; rw [if_pos c_1, bndM_r w_17, bndM_r w_18, if_neg c_19, if_pos cb_21, if_pos c_22, bndM_r w_24, if_neg c_25, bndM_l z]) (fun mo_26 H locs w_26 hP hD hS => ?_)
          refine lv_iload_n hx hb d_Mo_giveBack_80 rfl (lv_at hl 0 rfl) ?_
          exact mr_iret (v := r_18) (mo := mo_26) hx hb hr hlocks hK hP hD hS (by unfold f_Mo_giveBack; rw [if_pos c_1, bndM_r w_17, bndM_r w_18, if_neg c_19, if_pos cb_21, if_pos c_22, bndM_r w_24, if_neg c_25, bndM_r w_26]) d_Mo_giveBack_81
        · refine lv_aload_n hx hb d_Mo_giveBack_54 rfl (lv_at hl 1 rfl) ?_
          refine lv_bipush (v := 65) hx hb d_Mo_giveBack_55 (by decide) ?_
          refine mr_Vi (g := (f_Mo_isSign mo_24 65)) (As := [.int 65]) (rest := []) ⟨hx, hb, hml, hown, hts0⟩ (m_Mo_isSign l hlt dC dI cI cZ sa rk hm ma mo_24 _ 65 (fun z => hg (by unfold f_Mo_giveBack; rw [if_pos c_1, bndM_r w_17, bndM_r w_18, if_neg c_19, if_pos cb_21, if_pos c_22, bndM_r w_24, if_pos c_25, bndM_n z]))) hP hD hK hS hA hC hZ hnt hlocks L_1053 L_1055 L_60 L_90 L_1056 k_Mo_isSign ⟨(by show _ ≤ fr0 + 8; omega), (by show _ ≤ lo0 + 122; omega)⟩ rfl rfl hl.1 (Nat.le_of_ble_eq_true rfl) d_Mo_giveBack_57 rfl (fun q z => by unfold f_Mo_giveBack; rw [if_pos c_1, bndM_r w_17, bndM_r w_18, if_neg c_19, if_pos cb_21, if_pos c_22, bndM_r w_24, if_pos c_25, bndM_l z]) (fun r_27 mo_27 H locs w_27 hP hD hS => ?_)
          refine lv_if_ne (tgt := 76) hx hb d_Mo_giveBack_60 (by decide) (fun c_28 => ?_) (fun c_28 => ?_)
          · refine lv_aload_n hx hb d_Mo_giveBack_76 rfl (lv_at hl 1 rfl) ?_
            refine mr_Vv (g := (f_Mo_semicolon mo_27)) (As := []) (rest := []) ⟨hx, hb, hml, hown, hts0⟩ (m_Mo_semicolon l hlt dC dI cI cZ sa rk hm ma mo_27 _  (fun z => hg (by unfold f_Mo_giveBack; rw [if_pos c_1, bndM_r w_17, bndM_r w_18, if_neg c_19, if_pos cb_21, if_pos c_22, bndM_r w_24, if_pos c_25, bndM_r w_27, if_neg c_28, bndM_n z]))) hP hD hK hS hA hC hZ hnt hlocks L_1209 L_1211 L_79 L_90 L_1212 k_Mo_semicolon ⟨(by show _ ≤ fr0 + 8; omega), (by show _ ≤ lo0 + 122; omega)⟩ rfl rfl hl.1 (Nat.le_of_ble_eq_true rfl) d_Mo_giveBack_77 rfl (fun q z => by unfold f_Mo_giveBack; rw [if_pos c_1, bndM_r w_17, bndM_r w_18, if_neg c_19, if_pos cb_21, if_pos c_22, bndM_r w_24, if_pos c_25, bndM_r w_27, if_neg c_28, bndM_l z]) (fun mo_29 H locs w_29 hP hD hS => ?_)
            refine lv_iload_n hx hb d_Mo_giveBack_80 rfl (lv_at hl 0 rfl) ?_
            exact mr_iret (v := r_18) (mo := mo_29) hx hb hr hlocks hK hP hD hS (by unfold f_Mo_giveBack; rw [if_pos c_1, bndM_r w_17, bndM_r w_18, if_neg c_19, if_pos cb_21, if_pos c_22, bndM_r w_24, if_pos c_25, bndM_r w_27, if_neg c_28, bndM_r w_29]) d_Mo_giveBack_81
          · refine lv_aload_n hx hb d_Mo_giveBack_63 rfl (lv_at hl 1 rfl) ?_
            refine lv_iload_n hx hb d_Mo_giveBack_64 rfl (lv_at hl 0 rfl) ?_
            refine lv_aload_n hx hb d_Mo_giveBack_65 rfl (lv_at hl 1 rfl) ?_
            refine lv_iload_n hx hb d_Mo_giveBack_66 rfl (lv_at hl 2 rfl) ?_
            refine lv_iconst (v := 1) hx hb d_Mo_giveBack_67 (by decide) ?_
            refine lv_iadd hx hb d_Mo_giveBack_68 ?_
            refine lv_iconst (v := 1) hx hb d_Mo_giveBack_69 (by decide) ?_
            refine mr_Si (g := (K 0 [(depth + 1), 1] mo_27)) (As := [.ref hm, .int (depth + 1), .int 1]) (rest := [.int r_18, .ref hm]) ⟨hx, hb, hml, hown, hts0⟩ (hR0 mo_27 _ (depth + 1) 1 (fun z => hg (by unfold f_Mo_giveBack; rw [if_pos c_1, bndM_r w_17, bndM_r w_18, if_neg c_19, if_pos cb_21, if_pos c_22, bndM_r w_24, if_pos c_25, bndM_r w_27, if_pos c_28, bndM_n z]))) hP hD hK hS hA hC hZ hnt hlocks L_1135 L_1136 L_90 L_1137 k_Mo_expression ⟨(by show _ ≤ fr0 + 8; omega), (by show _ ≤ lo0 + 122; omega)⟩ rfl rfl hl.1 (Nat.le_of_ble_eq_true rfl) d_Mo_giveBack_70 rfl (fun q z => by unfold f_Mo_giveBack; rw [if_pos c_1, bndM_r w_17, bndM_r w_18, if_neg c_19, if_pos cb_21, if_pos c_22, bndM_r w_24, if_pos c_25, bndM_r w_27, if_pos c_28, bndM_l z]) (fun r_30 mo_30 H locs w_30 hP hD hS => ?_)
            refine mr_Vv (g := (f_Mo_hang mo_30 r_18 r_30)) (As := [.int r_18, .int r_30]) (rest := []) ⟨hx, hb, hml, hown, hts0⟩ (m_Mo_hang l hlt dC dI cI cZ sa rk hm ma mo_30 _ r_18 r_30 (fun z => hg (by unfold f_Mo_giveBack; rw [if_pos c_1, bndM_r w_17, bndM_r w_18, if_neg c_19, if_pos cb_21, if_pos c_22, bndM_r w_24, if_pos c_25, bndM_r w_27, if_pos c_28, bndM_r w_30, bndM_n z]))) hP hD hK hS hA hC hZ hnt hlocks L_1115 L_1117 L_69 L_90 L_1118 k_Mo_hang ⟨(by show _ ≤ fr0 + 8; omega), (by show _ ≤ lo0 + 122; omega)⟩ rfl rfl hl.1 (Nat.le_of_ble_eq_true rfl) d_Mo_giveBack_73 rfl (fun q z => by unfold f_Mo_giveBack; rw [if_pos c_1, bndM_r w_17, bndM_r w_18, if_neg c_19, if_pos cb_21, if_pos c_22, bndM_r w_24, if_pos c_25, bndM_r w_27, if_pos c_28, bndM_r w_30, bndM_l z]) (fun mo_31 H locs w_31 hP hD hS => ?_)
            refine lv_aload_n hx hb d_Mo_giveBack_76 rfl (lv_at hl 1 rfl) ?_
            refine mr_Vv (g := (f_Mo_semicolon mo_31)) (As := []) (rest := []) ⟨hx, hb, hml, hown, hts0⟩ (m_Mo_semicolon l hlt dC dI cI cZ sa rk hm ma mo_31 _  (fun z => hg (by unfold f_Mo_giveBack; rw [if_pos c_1, bndM_r w_17, bndM_r w_18, if_neg c_19, if_pos cb_21, if_pos c_22, bndM_r w_24, if_pos c_25, bndM_r w_27, if_pos c_28, bndM_r w_30, bndM_r w_31, bndM_n z]))) hP hD hK hS hA hC hZ hnt hlocks L_1209 L_1211 L_79 L_90 L_1212 k_Mo_semicolon ⟨(by show _ ≤ fr0 + 8; omega), (by show _ ≤ lo0 + 122; omega)⟩ rfl rfl hl.1 (Nat.le_of_ble_eq_true rfl) d_Mo_giveBack_77 rfl (fun q z => by unfold f_Mo_giveBack; rw [if_pos c_1, bndM_r w_17, bndM_r w_18, if_neg c_19, if_pos cb_21, if_pos c_22, bndM_r w_24, if_pos c_25, bndM_r w_27, if_pos c_28, bndM_r w_30, bndM_r w_31, bndM_l z]) (fun mo_32 H locs w_32 hP hD hS => ?_)
            refine lv_iload_n hx hb d_Mo_giveBack_80 rfl (lv_at hl 0 rfl) ?_
            exact mr_iret (v := r_18) (mo := mo_32) hx hb hr hlocks hK hP hD hS (by unfold f_Mo_giveBack; rw [if_pos c_1, bndM_r w_17, bndM_r w_18, if_neg c_19, if_pos cb_21, if_pos c_22, bndM_r w_24, if_pos c_25, bndM_r w_27, if_pos c_28, bndM_r w_30, bndM_r w_31, bndM_r w_32]) d_Mo_giveBack_81
def f_Mo_with (K : Nat → List Int32 → MO → Rm) (mo : MO) (depth : Int32) : Rm := (if (q_strict mo) = 0 then (bndM (f_Mo_plain mo 14) (fun r_2 mo_2 => (bndM (f_Mo_head K mo_2 depth) (fun r_3 mo_3 => (bndM (f_Mo_hang mo_3 r_2 r_3) (fun _ mo_4 => (bndM (K 5 [(depth + 1), (q_labels mo_4)] mo_4) (fun r_5 mo_5 => (bndM (f_Mo_hang mo_5 r_2 r_5) (fun _ mo_6 => (some (.inr (r_2, mo_6))))))))))))) else (bndM (f_Mo_refuse mo (q_at mo)) (fun _ mo_7 => (bndM (f_Mo_plain mo_7 14) (fun r_8 mo_8 => (bndM (f_Mo_head K mo_8 depth) (fun r_9 mo_9 => (bndM (f_Mo_hang mo_9 r_8 r_9) (fun _ mo_10 => (bndM (K 5 [(depth + 1), (q_labels mo_10)] mo_10) (fun r_11 mo_11 => (bndM (f_Mo_hang mo_11 r_8 r_11) (fun _ mo_12 => (some (.inr (r_8, mo_12))))))))))))))))
set_option maxRecDepth 100000 in
set_option maxHeartbeats 4000000 in
theorem m_Mo_with (l : Launch) (hlt : l.stackTraces = false) (dC : Nat → ClassId) (dI : Nat → Nat → Nat) (cI cZ : ClassId) (sa rk hm : Nat) (ma : Nat → Nat) (fr0 lo0 : Nat) (K : Nat → List Int32 → MO → Rm) (hR0 : ∀ (mo : MO) (sz : Nat) (p0 p1 : Int32), K 0 [p0, p1] mo ≠ none → cXi l y_Mo_expression c_Mo_expression 5 .int fr0 lo0 (dC, dI) cI cZ sa rk hm ma mo sz [.ref hm, .int p0, .int p1] (K 0 [p0, p1] mo)) (hR1 : ∀ (mo : MO) (sz : Nat) (p0 p1 : Int32), K 1 [p0, p1] mo ≠ none → cXi l y_Mo_assignment c_Mo_assignment 5 .int fr0 lo0 (dC, dI) cI cZ sa rk hm ma mo sz [.ref hm, .int p0, .int p1] (K 1 [p0, p1] mo)) (hR2 : ∀ (mo : MO) (sz : Nat) (p0 p1 p2 : Int32), K 2 [p0, p1, p2] mo ≠ none → cXi l y_Mo_binary c_Mo_binary 7 .int fr0 lo0 (dC, dI) cI cZ sa rk hm ma mo sz [.ref hm, .int p0, .int p1, .int p2] (K 2 [p0, p1, p2] mo)) (hR3 : ∀ (mo : MO) (sz : Nat) (p0 : Int32), K 3 [p0] mo ≠ none → cXi l y_Mo_unary c_Mo_unary 5 .int fr0 lo0 (dC, dI) cI cZ sa rk hm ma mo sz [.ref hm, .int p0] (K 3 [p0] mo)) (hR4 : ∀ (mo : MO) (sz : Nat) (p0 p1 : Int32), K 4 [p0, p1] mo ≠ none → cXi l y_Mo_member c_Mo_member 6 .int fr0 lo0 (dC, dI) cI cZ sa rk hm ma mo sz [.ref hm, .int p0, .int p1] (K 4 [p0, p1] mo)) (hR5 : ∀ (mo : MO) (sz : Nat) (p0 p1 : Int32), K 5 [p0, p1] mo ≠ none → cXi l y_Mo_statement c_Mo_statement 3 .int fr0 lo0 (dC, dI) cI cZ sa rk hm ma mo sz [.ref hm, .int p0, .int p1] (K 5 [p0, p1] mo)) (hR6 : ∀ (mo : MO) (sz : Nat) (p0 p1 p2 : Int32), K 6 [p0, p1, p2] mo ≠ none → cXv l y_Mo_statements c_Mo_statements 8 fr0 lo0 (dC, dI) cI cZ sa rk hm ma mo sz [.ref hm, .int p0, .int p1, .int p2] (K 6 [p0, p1, p2] mo)) (hR7 : ∀ (mo : MO) (sz : Nat) (p0 : Int32), K 7 [p0] mo ≠ none → cXi l y_Mo_block c_Mo_block 4 .int fr0 lo0 (dC, dI) cI cZ sa rk hm ma mo sz [.ref hm, .int p0] (K 7 [p0] mo)) (mo : MO) (sz : Nat) (depth : Int32) (hg : (f_Mo_with K mo depth) ≠ none) : cXi l y_Mo_with c_Mo_with 3 .int (fr0 + 9) (lo0 + 145) (dC, dI) cI cZ sa rk hm ma mo sz [.ref hm, .int depth] (f_Mo_with K mo depth) := by
  refine vx_ofW (cc := c_Mo_with) (maxL := 3) (ret := (some .int)) (by decide) rfl ?_
  intro p e s m args below meth c s₁ B hml hnt hv
  obtain ⟨rfl, hsz, hP, hK, hD0, hC, hZ⟩ := hv
  have hx := B.exec
  have hb := B.bytes
  have hr := B.returns
  have hts0 := atoms_spec (ws := wy y_Mo_with c_Mo_with 3 (some .int)) B.pre
  have hts := htsL hts0
  have hown : s.vm.findClass R_Mo = some m.cls := findClass_of_methodNamed B.named
  have hlocks := B.notSynchronized
  subst hsz
  have hD := hD0.self (sz := s.heap.size)
  generalize hAe : va_A (wM cI cZ hm ma mo) s.heap.size = A at hD hZ ⊢
  have hA : ∀ q : Nat, s.heap.size ≤ q → A q := fun q h => by rw [← hAe]; exact Or.inr h
  have hS : va_S A s.heap s.heap [] := va_S.rf
  have hl := lv_entry ([.ref hm, .int depth]) (n := 3) (Nat.le_of_ble_eq_true rfl)
  rw [lg_entry_eq]
  generalize (lg_sl ([.ref hm, .int depth]) ++ List.replicate (3 - (lg_sl ([.ref hm, .int depth])).length) Slot.unset).toArray = ls at hl ⊢
  have hl : lv_has ls 3 [(0, .ref hm), (1, .int depth)] := hl
  refine lv_aload_n hx hb d_Mo_with_0 rfl (lv_at hl 0 rfl) ?_
  refine va_get (D := (dC, dI)) (ci := 6) (v := .int (q_strict mo)) (C := R_Mo) (T := T_Mo) (N := 31) hx hb hts u_Mo hown hK hP 0 rfl rfl 19 (by decide) (hts _ L_940) (fun _ h9 => h9) rfl d_Mo_with_1 ?_
  refine lv_if_eq (tgt := 15) hx hb d_Mo_with_4 (by decide) (fun c_1 => ?_) (fun c_1 => ?_)
  · refine lv_aload_n hx hb d_Mo_with_15 rfl (lv_at hl 0 rfl) ?_
    refine lv_bipush (v := 14) hx hb d_Mo_with_16 (by decide) ?_
    refine mr_Vi (g := (f_Mo_plain mo 14)) (As := [.int 14]) (rest := []) ⟨hx, hb, hml, hown, hts0⟩ (m_Mo_plain l hlt dC dI cI cZ sa rk hm ma mo _ 14 (fun z => hg (by unfold f_Mo_with; rw [if_pos c_1, bndM_n z]))) hP hD hK hS hA hC hZ hnt hlocks L_1128 L_1130 L_70 L_90 L_1131 k_Mo_plain ⟨(by show _ ≤ fr0 + 9; omega), (by show _ ≤ lo0 + 145; omega)⟩ rfl rfl hl.1 (Nat.le_of_ble_eq_true rfl) d_Mo_with_18 rfl (fun q z => by unfold f_Mo_with; rw [if_pos c_1, bndM_l z]) (fun r_2 mo_2 H locs w_2 hP hD hS => ?_)
    refine lv_istore_n (lv' := [(2, .int r_2), (0, .ref hm), (1, .int depth)]) hx hb d_Mo_with_21 rfl hl (by decide) rfl (fun ls hl => ?_)
    refine lv_aload_n hx hb d_Mo_with_22 rfl (lv_at hl 1 rfl) ?_
    refine lv_iload_n hx hb d_Mo_with_23 rfl (lv_at hl 0 rfl) ?_
    refine lv_aload_n hx hb d_Mo_with_24 rfl (lv_at hl 1 rfl) ?_
    refine lv_iload_n hx hb d_Mo_with_25 rfl (lv_at hl 2 rfl) ?_
    refine mr_Si (g := (f_Mo_head K mo_2 depth)) (As := [.ref hm, .int depth]) (rest := [.int r_2, .ref hm]) ⟨hx, hb, hml, hown, hts0⟩ (m_Mo_head l hlt dC dI cI cZ sa rk hm ma fr0 lo0 K hR0 hR1 hR2 hR3 hR4 hR5 hR6 hR7 mo_2 _ depth (fun z => hg (by unfold f_Mo_with; rw [if_pos c_1, bndM_r w_2, bndM_n z]))) hP hD hK hS hA hC hZ hnt hlocks L_1225 L_1226 L_90 L_1227 k_Mo_head ⟨(by show _ ≤ fr0 + 9; omega), (by show _ ≤ lo0 + 145; omega)⟩ rfl rfl hl.1 (Nat.le_of_ble_eq_true rfl) d_Mo_with_26 rfl (fun q z => by unfold f_Mo_with; rw [if_pos c_1, bndM_r w_2, bndM_l z]) (fun r_3 mo_3 H locs w_3 hP hD hS => ?_)
    refine mr_Vv (g := (f_Mo_hang mo_3 r_2 r_3)) (As := [.int r_2, .int r_3]) (rest := []) ⟨hx, hb, hml, hown, hts0⟩ (m_Mo_hang l hlt dC dI cI cZ sa rk hm ma mo_3 _ r_2 r_3 (fun z => hg (by unfold f_Mo_with; rw [if_pos c_1, bndM_r w_2, bndM_r w_3, bndM_n z]))) hP hD hK hS hA hC hZ hnt hlocks L_1115 L_1117 L_69 L_90 L_1118 k_Mo_hang ⟨(by show _ ≤ fr0 + 9; omega), (by show _ ≤ lo0 + 145; omega)⟩ rfl rfl hl.1 (Nat.le_of_ble_eq_true rfl) d_Mo_with_29 rfl (fun q z => by unfold f_Mo_with; rw [if_pos c_1, bndM_r w_2, bndM_r w_3, bndM_l z]) (fun mo_4 H locs w_4 hP hD hS => ?_)
    refine lv_aload_n hx hb d_Mo_with_32 rfl (lv_at hl 1 rfl) ?_
    refine lv_iload_n hx hb d_Mo_with_33 rfl (lv_at hl 0 rfl) ?_
    refine lv_aload_n hx hb d_Mo_with_34 rfl (lv_at hl 1 rfl) ?_
    refine lv_iload_n hx hb d_Mo_with_35 rfl (lv_at hl 2 rfl) ?_
    refine lv_iconst (v := 1) hx hb d_Mo_with_36 (by decide) ?_
    refine lv_iadd hx hb d_Mo_with_37 ?_
    refine lv_aload_n hx hb d_Mo_with_38 rfl (lv_at hl 1 rfl) ?_
    refine va_get (D := (dC, dI)) (ci := 6) (v := .int (q_labels mo_4)) (C := R_Mo) (T := T_Mo) (N := 31) hx hb hts u_Mo hown hK hP 0 rfl rfl 22 (by decide) (hts _ L_943) (fun _ h9 => h9) rfl d_Mo_with_39 ?_
    refine mr_Si (g := (K 5 [(depth + 1), (q_labels mo_4)] mo_4)) (As := [.ref hm, .int (depth + 1), .int (q_labels mo_4)]) (rest := [.int r_2, .ref hm]) ⟨hx, hb, hml, hown, hts0⟩ (hR5 mo_4 _ (depth + 1) (q_labels mo_4) (fun z => hg (by unfold f_Mo_with; rw [if_pos c_1, bndM_r w_2, bndM_r w_3, bndM_r w_4, bndM_n z]))) hP hD hK hS hA hC hZ hnt hlocks L_1122 L_1123 L_90 L_1124 k_Mo_statement ⟨(by show _ ≤ fr0 + 9; omega), (by show _ ≤ lo0 + 145; omega)⟩ rfl rfl hl.1 (Nat.le_of_ble_eq_true rfl) d_Mo_with_42 rfl (fun q z => by unfold f_Mo_with; rw [if_pos c_1, bndM_r w_2, bndM_r w_3, bndM_r w_4, bndM_l z]) (fun r_5 mo_5 H locs w_5 hP hD hS => ?_)
    refine mr_Vv (g := (f_Mo_hang mo_5 r_2 r_5)) (As := [.int r_2, .int r_5]) (rest := []) ⟨hx, hb, hml, hown, hts0⟩ (m_Mo_hang l hlt dC dI cI cZ sa rk hm ma mo_5 _ r_2 r_5 (fun z => hg (by unfold f_Mo_with; rw [if_pos c_1, bndM_r w_2, bndM_r w_3, bndM_r w_4, bndM_r w_5, bndM_n z]))) hP hD hK hS hA hC hZ hnt hlocks L_1115 L_1117 L_69 L_90 L_1118 k_Mo_hang ⟨(by show _ ≤ fr0 + 9; omega), (by show _ ≤ lo0 + 145; omega)⟩ rfl rfl hl.1 (Nat.le_of_ble_eq_true rfl) d_Mo_with_45 rfl (fun q z => by unfold f_Mo_with; rw [if_pos c_1, bndM_r w_2, bndM_r w_3, bndM_r w_4, bndM_r w_5, bndM_l z]) (fun mo_6 H locs w_6 hP hD hS => ?_)
    refine lv_iload_n hx hb d_Mo_with_48 rfl (lv_at hl 0 rfl) ?_
    exact mr_iret (v := r_2) (mo := mo_6) hx hb hr hlocks hK hP hD hS (by unfold f_Mo_with; rw [if_pos c_1, bndM_r w_2, bndM_r w_3, bndM_r w_4, bndM_r w_5, bndM_r w_6]) d_Mo_with_49
  · refine lv_aload_n hx hb d_Mo_with_7 rfl (lv_at hl 0 rfl) ?_
    refine lv_aload_n hx hb d_Mo_with_8 rfl (lv_at hl 0 rfl) ?_
    refine va_get (D := (dC, dI)) (ci := 6) (v := .int (q_at mo)) (C := R_Mo) (T := T_Mo) (N := 31) hx hb hts u_Mo hown hK hP 0 rfl rfl 6 (by decide) (hts _ L_927) (fun _ h9 => h9) rfl d_Mo_with_9 ?_
    refine mr_Vv (g := (f_Mo_refuse mo (q_at mo))) (As := [.int (q_at mo)]) (rest := []) ⟨hx, hb, hml, hown, hts0⟩ (m_Mo_refuse l hlt dC dI cI cZ sa rk hm ma mo _ (q_at mo) ) hP hD hK hS hA hC hZ hnt hlocks L_1072 L_1074 L_64 L_90 L_1075 k_Mo_refuse ⟨(by show _ ≤ fr0 + 9; omega), (by show _ ≤ lo0 + 145; omega)⟩ rfl rfl hl.1 (Nat.le_of_ble_eq_true rfl) d_Mo_with_12 rfl (fun q z => by unfold f_Mo_with; rw [if_neg c_1, bndM_l z]) (fun mo_7 H locs w_7 hP hD hS => ?_)
    refine lv_aload_n hx hb d_Mo_with_15 rfl (lv_at hl 0 rfl) ?_
    refine lv_bipush (v := 14) hx hb d_Mo_with_16 (by decide) ?_
    refine mr_Vi (g := (f_Mo_plain mo_7 14)) (As := [.int 14]) (rest := []) ⟨hx, hb, hml, hown, hts0⟩ (m_Mo_plain l hlt dC dI cI cZ sa rk hm ma mo_7 _ 14 (fun z => hg (by unfold f_Mo_with; rw [if_neg c_1, bndM_r w_7, bndM_n z]))) hP hD hK hS hA hC hZ hnt hlocks L_1128 L_1130 L_70 L_90 L_1131 k_Mo_plain ⟨(by show _ ≤ fr0 + 9; omega), (by show _ ≤ lo0 + 145; omega)⟩ rfl rfl hl.1 (Nat.le_of_ble_eq_true rfl) d_Mo_with_18 rfl (fun q z => by unfold f_Mo_with; rw [if_neg c_1, bndM_r w_7, bndM_l z]) (fun r_8 mo_8 H locs w_8 hP hD hS => ?_)
    refine lv_istore_n (lv' := [(2, .int r_8), (0, .ref hm), (1, .int depth)]) hx hb d_Mo_with_21 rfl hl (by decide) rfl (fun ls hl => ?_)
    refine lv_aload_n hx hb d_Mo_with_22 rfl (lv_at hl 1 rfl) ?_
    refine lv_iload_n hx hb d_Mo_with_23 rfl (lv_at hl 0 rfl) ?_
    refine lv_aload_n hx hb d_Mo_with_24 rfl (lv_at hl 1 rfl) ?_
    refine lv_iload_n hx hb d_Mo_with_25 rfl (lv_at hl 2 rfl) ?_
    refine mr_Si (g := (f_Mo_head K mo_8 depth)) (As := [.ref hm, .int depth]) (rest := [.int r_8, .ref hm]) ⟨hx, hb, hml, hown, hts0⟩ (m_Mo_head l hlt dC dI cI cZ sa rk hm ma fr0 lo0 K hR0 hR1 hR2 hR3 hR4 hR5 hR6 hR7 mo_8 _ depth (fun z => hg (by unfold f_Mo_with; rw [if_neg c_1, bndM_r w_7, bndM_r w_8, bndM_n z]))) hP hD hK hS hA hC hZ hnt hlocks L_1225 L_1226 L_90 L_1227 k_Mo_head ⟨(by show _ ≤ fr0 + 9; omega), (by show _ ≤ lo0 + 145; omega)⟩ rfl rfl hl.1 (Nat.le_of_ble_eq_true rfl) d_Mo_with_26 rfl (fun q z => by unfold f_Mo_with; rw [if_neg c_1, bndM_r w_7, bndM_r w_8, bndM_l z]) (fun r_9 mo_9 H locs w_9 hP hD hS => ?_)
    refine mr_Vv (g := (f_Mo_hang mo_9 r_8 r_9)) (As := [.int r_8, .int r_9]) (rest := []) ⟨hx, hb, hml, hown, hts0⟩ (m_Mo_hang l hlt dC dI cI cZ sa rk hm ma mo_9 _ r_8 r_9 (fun z => hg (by unfold f_Mo_with; rw [if_neg c_1, bndM_r w_7, bndM_r w_8, bndM_r w_9, bndM_n z]))) hP hD hK hS hA hC hZ hnt hlocks L_1115 L_1117 L_69 L_90 L_1118 k_Mo_hang ⟨(by show _ ≤ fr0 + 9; omega), (by show _ ≤ lo0 + 145; omega)⟩ rfl rfl hl.1 (Nat.le_of_ble_eq_true rfl) d_Mo_with_29 rfl (fun q z => by unfold f_Mo_with; rw [if_neg c_1, bndM_r w_7, bndM_r w_8, bndM_r w_9, bndM_l z]) (fun mo_10 H locs w_10 hP hD hS => ?_)
    refine lv_aload_n hx hb d_Mo_with_32 rfl (lv_at hl 1 rfl) ?_
    refine lv_iload_n hx hb d_Mo_with_33 rfl (lv_at hl 0 rfl) ?_
    refine lv_aload_n hx hb d_Mo_with_34 rfl (lv_at hl 1 rfl) ?_
    refine lv_iload_n hx hb d_Mo_with_35 rfl (lv_at hl 2 rfl) ?_
    refine lv_iconst (v := 1) hx hb d_Mo_with_36 (by decide) ?_
    refine lv_iadd hx hb d_Mo_with_37 ?_
    refine lv_aload_n hx hb d_Mo_with_38 rfl (lv_at hl 1 rfl) ?_
    refine va_get (D := (dC, dI)) (ci := 6) (v := .int (q_labels mo_10)) (C := R_Mo) (T := T_Mo) (N := 31) hx hb hts u_Mo hown hK hP 0 rfl rfl 22 (by decide) (hts _ L_943) (fun _ h9 => h9) rfl d_Mo_with_39 ?_
    refine mr_Si (g := (K 5 [(depth + 1), (q_labels mo_10)] mo_10)) (As := [.ref hm, .int (depth + 1), .int (q_labels mo_10)]) (rest := [.int r_8, .ref hm]) ⟨hx, hb, hml, hown, hts0⟩ (hR5 mo_10 _ (depth + 1) (q_labels mo_10) (fun z => hg (by unfold f_Mo_with; rw [if_neg c_1, bndM_r w_7, bndM_r w_8, bndM_r w_9, bndM_r w_10, bndM_n z]))) hP hD hK hS hA hC hZ hnt hlocks L_1122 L_1123 L_90 L_1124 k_Mo_statement ⟨(by show _ ≤ fr0 + 9; omega), (by show _ ≤ lo0 + 145; omega)⟩ rfl rfl hl.1 (Nat.le_of_ble_eq_true rfl) d_Mo_with_42 rfl (fun q z => by unfold f_Mo_with; rw [if_neg c_1, bndM_r w_7, bndM_r w_8, bndM_r w_9, bndM_r w_10, bndM_l z]) (fun r_11 mo_11 H locs w_11 hP hD hS => ?_)
    refine mr_Vv (g := (f_Mo_hang mo_11 r_8 r_11)) (As := [.int r_8, .int r_11]) (rest := []) ⟨hx, hb, hml, hown, hts0⟩ (m_Mo_hang l hlt dC dI cI cZ sa rk hm ma mo_11 _ r_8 r_11 (fun z => hg (by unfold f_Mo_with; rw [if_neg c_1, bndM_r w_7, bndM_r w_8, bndM_r w_9, bndM_r w_10, bndM_r w_11, bndM_n z]))) hP hD hK hS hA hC hZ hnt hlocks L_1115 L_1117 L_69 L_90 L_1118 k_Mo_hang ⟨(by show _ ≤ fr0 + 9; omega), (by show _ ≤ lo0 + 145; omega)⟩ rfl rfl hl.1 (Nat.le_of_ble_eq_true rfl) d_Mo_with_45 rfl (fun q z => by unfold f_Mo_with; rw [if_neg c_1, bndM_r w_7, bndM_r w_8, bndM_r w_9, bndM_r w_10, bndM_r w_11, bndM_l z]) (fun mo_12 H locs w_12 hP hD hS => ?_)
    refine lv_iload_n hx hb d_Mo_with_48 rfl (lv_at hl 0 rfl) ?_
    exact mr_iret (v := r_8) (mo := mo_12) hx hb hr hlocks hK hP hD hS (by unfold f_Mo_with; rw [if_neg c_1, bndM_r w_7, bndM_r w_8, bndM_r w_9, bndM_r w_10, bndM_r w_11, bndM_r w_12]) d_Mo_with_49
def f_Mo_choice_L134 (K : Nat → List Int32 → MO → Rm) (depth : Int32) (e5 : Int32) : Nat → MO → Rm
  | 0, _ => none
  | fu_15 + 1, sx_15 => (bndM (f_Mo_isSign sx_15 65) (fun r_16 mo_16 => (if r_16 = 0 then (bndM (f_Mo_isWord mo_16 1) (fun r_19 mo_19 => (if r_19 = 0 then (bndM (f_Mo_isWord mo_19 5) (fun r_22 mo_22 => (if r_22 = 0 then (bndM (K 5 [(depth + 1), (q_labels mo_22)] mo_22) (fun r_25 mo_25 => (bndM (f_Mo_hang mo_25 e5 r_25) (fun _ mo_26 => (f_Mo_choice_L134 K depth e5 fu_15  mo_26))))) else (some (.inr (0, mo_22)))))) else (some (.inr (0, mo_19)))))) else (some (.inr (0, mo_16))))))
def f_Mo_choice_L35 (K : Nat → List Int32 → MO → Rm) (depth : Int32) (e2 : Int32) : Nat → Int32 → MO → Rm
  | 0, _, _ => none
  | fu_5 + 1, x3, sx_5 => (bndM (f_Mo_isSign sx_5 65) (fun r_6 mo_6 => (if r_6 = 0 then (bndM (f_Mo_isWord mo_6 1) (fun r_8 mo_8 => (if r_8 = 0 then (bndM (f_Mo_isWord mo_8 5) (fun r_43 mo_43 => (if r_43 = 0 then (bndM (f_Mo_refuse mo_43 (q_at mo_43)) (fun _ mo_45 => (if x3 = 0 then (bndM (f_Mo_plain mo_45 17) (fun r_61 mo_61 => (bndM (f_Mo_expect mo_61 70) (fun _ mo_62 => (bndM (f_Mo_choice_L134 K depth r_61 5000  mo_62) (fun _ se_63 => (bndM (f_Mo_hang se_63 e2 r_61) (fun _ mo_66 => (f_Mo_choice_L35 K depth e2 fu_5 1 mo_66))))))))) else (bndM (f_Mo_plain mo_45 17) (fun r_47 mo_47 => (bndM (f_Mo_expect mo_47 70) (fun _ mo_48 => (bndM (f_Mo_choice_L134 K depth r_47 5000  mo_48) (fun _ se_49 => (bndM (f_Mo_hang se_49 e2 r_47) (fun _ mo_52 => (f_Mo_choice_L35 K depth e2 fu_5 1 mo_52)))))))))))) else (if x3 = 0 then (bndM (f_Mo_plain mo_43 17) (fun r_76 mo_76 => (bndM (f_Mo_expect mo_76 70) (fun _ mo_77 => (bndM (f_Mo_choice_L134 K depth r_76 5000  mo_77) (fun _ se_78 => (bndM (f_Mo_hang se_78 e2 r_76) (fun _ mo_81 => (f_Mo_choice_L35 K depth e2 fu_5 1 mo_81))))))))) else (bndM (f_Mo_refuse mo_43 (q_at mo_43)) (fun _ mo_90 => (bndM (f_Mo_plain mo_90 17) (fun r_91 mo_91 => (bndM (f_Mo_expect mo_91 70) (fun _ mo_92 => (bndM (f_Mo_choice_L134 K depth r_91 5000  mo_92) (fun _ se_93 => (bndM (f_Mo_hang se_93 e2 r_91) (fun _ mo_96 => (f_Mo_choice_L35 K depth e2 fu_5 1 mo_96))))))))))))))) else (if x3 = 0 then (bndM (f_Mo_plain mo_8 16) (fun r_27 mo_27 => (bndM (K 0 [(depth + 1), 1] mo_27) (fun r_28 mo_28 => (bndM (f_Mo_hang mo_28 r_27 r_28) (fun _ mo_29 => (bndM (f_Mo_expect mo_29 70) (fun _ mo_30 => (bndM (f_Mo_choice_L134 K depth r_27 5000  mo_30) (fun _ se_31 => (bndM (f_Mo_hang se_31 e2 r_27) (fun _ mo_34 => (f_Mo_choice_L35 K depth e2 fu_5 0 mo_34))))))))))))) else (bndM (f_Mo_plain mo_8 16) (fun r_11 mo_11 => (bndM (K 0 [(depth + 1), 1] mo_11) (fun r_12 mo_12 => (bndM (f_Mo_hang mo_12 r_11 r_12) (fun _ mo_13 => (bndM (f_Mo_expect mo_13 70) (fun _ mo_14 => (bndM (f_Mo_choice_L134 K depth r_11 5000  mo_14) (fun _ se_15 => (bndM (f_Mo_hang se_15 e2 r_11) (fun _ mo_18 => (f_Mo_choice_L35 K depth e2 fu_5 1 mo_18))))))))))))))))) else (some (.inr (0, mo_6))))))
def f_Mo_choice (K : Nat → List Int32 → MO → Rm) (mo : MO) (depth : Int32) : Rm := (bndM (f_Mo_plain mo 15) (fun r_1 mo_1 => (bndM (f_Mo_head K mo_1 depth) (fun r_2 mo_2 => (bndM (f_Mo_hang mo_2 r_1 r_2) (fun _ mo_3 => (bndM (f_Mo_expect mo_3 64) (fun _ mo_4 => (bndM (f_Mo_choice_L35 K depth r_1 5000 0 (s_breakables mo_4 ((q_breakables mo_4) + 1))) (fun _ se_5 => (some (.inr (r_1, (s_at (s_breakables se_5 ((q_breakables se_5) - 1)) ((q_at se_5) + 1)))))))))))))))
set_option maxRecDepth 100000 in
set_option maxHeartbeats 4000000 in
theorem m_Mo_choice (l : Launch) (hlt : l.stackTraces = false) (dC : Nat → ClassId) (dI : Nat → Nat → Nat) (cI cZ : ClassId) (sa rk hm : Nat) (ma : Nat → Nat) (fr0 lo0 : Nat) (K : Nat → List Int32 → MO → Rm) (hR0 : ∀ (mo : MO) (sz : Nat) (p0 p1 : Int32), K 0 [p0, p1] mo ≠ none → cXi l y_Mo_expression c_Mo_expression 5 .int fr0 lo0 (dC, dI) cI cZ sa rk hm ma mo sz [.ref hm, .int p0, .int p1] (K 0 [p0, p1] mo)) (hR1 : ∀ (mo : MO) (sz : Nat) (p0 p1 : Int32), K 1 [p0, p1] mo ≠ none → cXi l y_Mo_assignment c_Mo_assignment 5 .int fr0 lo0 (dC, dI) cI cZ sa rk hm ma mo sz [.ref hm, .int p0, .int p1] (K 1 [p0, p1] mo)) (hR2 : ∀ (mo : MO) (sz : Nat) (p0 p1 p2 : Int32), K 2 [p0, p1, p2] mo ≠ none → cXi l y_Mo_binary c_Mo_binary 7 .int fr0 lo0 (dC, dI) cI cZ sa rk hm ma mo sz [.ref hm, .int p0, .int p1, .int p2] (K 2 [p0, p1, p2] mo)) (hR3 : ∀ (mo : MO) (sz : Nat) (p0 : Int32), K 3 [p0] mo ≠ none → cXi l y_Mo_unary c_Mo_unary 5 .int fr0 lo0 (dC, dI) cI cZ sa rk hm ma mo sz [.ref hm, .int p0] (K 3 [p0] mo)) (hR4 : ∀ (mo : MO) (sz : Nat) (p0 p1 : Int32), K 4 [p0, p1] mo ≠ none → cXi l y_Mo_member c_Mo_member 6 .int fr0 lo0 (dC, dI) cI cZ sa rk hm ma mo sz [.ref hm, .int p0, .int p1] (K 4 [p0, p1] mo)) (hR5 : ∀ (mo : MO) (sz : Nat) (p0 p1 : Int32), K 5 [p0, p1] mo ≠ none → cXi l y_Mo_statement c_Mo_statement 3 .int fr0 lo0 (dC, dI) cI cZ sa rk hm ma mo sz [.ref hm, .int p0, .int p1] (K 5 [p0, p1] mo)) (hR6 : ∀ (mo : MO) (sz : Nat) (p0 p1 p2 : Int32), K 6 [p0, p1, p2] mo ≠ none → cXv l y_Mo_statements c_Mo_statements 8 fr0 lo0 (dC, dI) cI cZ sa rk hm ma mo sz [.ref hm, .int p0, .int p1, .int p2] (K 6 [p0, p1, p2] mo)) (hR7 : ∀ (mo : MO) (sz : Nat) (p0 : Int32), K 7 [p0] mo ≠ none → cXi l y_Mo_block c_Mo_block 4 .int fr0 lo0 (dC, dI) cI cZ sa rk hm ma mo sz [.ref hm, .int p0] (K 7 [p0] mo)) (mo : MO) (sz : Nat) (depth : Int32) (hg : (f_Mo_choice K mo depth) ≠ none) : cXi l y_Mo_choice c_Mo_choice 6 .int (fr0 + 9) (lo0 + 145) (dC, dI) cI cZ sa rk hm ma mo sz [.ref hm, .int depth] (f_Mo_choice K mo depth) := by
  refine vx_ofW (cc := c_Mo_choice) (maxL := 6) (ret := (some .int)) (by decide) rfl ?_
  intro p e s m args below meth c s₁ B hml hnt hv
  obtain ⟨rfl, hsz, hP, hK, hD0, hC, hZ⟩ := hv
  have hx := B.exec
  have hb := B.bytes
  have hr := B.returns
  have hts0 := atoms_spec (ws := wy y_Mo_choice c_Mo_choice 6 (some .int)) B.pre
  have hts := htsL hts0
  have hown : s.vm.findClass R_Mo = some m.cls := findClass_of_methodNamed B.named
  have hlocks := B.notSynchronized
  subst hsz
  have hD := hD0.self (sz := s.heap.size)
  generalize hAe : va_A (wM cI cZ hm ma mo) s.heap.size = A at hD hZ ⊢
  have hA : ∀ q : Nat, s.heap.size ≤ q → A q := fun q h => by rw [← hAe]; exact Or.inr h
  have hS : va_S A s.heap s.heap [] := va_S.rf
  have hl := lv_entry ([.ref hm, .int depth]) (n := 6) (Nat.le_of_ble_eq_true rfl)
  rw [lg_entry_eq]
  generalize (lg_sl ([.ref hm, .int depth]) ++ List.replicate (6 - (lg_sl ([.ref hm, .int depth])).length) Slot.unset).toArray = ls at hl ⊢
  have hl : lv_has ls 6 [(0, .ref hm), (1, .int depth)] := hl
  refine lv_aload_n hx hb d_Mo_choice_0 rfl (lv_at hl 0 rfl) ?_
  refine lv_bipush (v := 15) hx hb d_Mo_choice_1 (by decide) ?_
  refine mr_Vi (g := (f_Mo_plain mo 15)) (As := [.int 15]) (rest := []) ⟨hx, hb, hml, hown, hts0⟩ (m_Mo_plain l hlt dC dI cI cZ sa rk hm ma mo _ 15 (fun z => hg (by unfold f_Mo_choice; rw [bndM_n z]))) hP hD hK hS hA hC hZ hnt hlocks L_1128 L_1130 L_70 L_90 L_1131 k_Mo_plain ⟨(by show _ ≤ fr0 + 9; omega), (by show _ ≤ lo0 + 145; omega)⟩ rfl rfl hl.1 (Nat.le_of_ble_eq_true rfl) d_Mo_choice_3 rfl (fun q z => by unfold f_Mo_choice; rw [bndM_l z]) (fun r_1 mo_1 H locs w_1 hP hD hS => ?_)
  refine lv_istore_n (lv' := [(2, .int r_1), (0, .ref hm), (1, .int depth)]) hx hb d_Mo_choice_6 rfl hl (by decide) rfl (fun ls hl => ?_)
  refine lv_aload_n hx hb d_Mo_choice_7 rfl (lv_at hl 1 rfl) ?_
  refine lv_iload_n hx hb d_Mo_choice_8 rfl (lv_at hl 0 rfl) ?_
  refine lv_aload_n hx hb d_Mo_choice_9 rfl (lv_at hl 1 rfl) ?_
  refine lv_iload_n hx hb d_Mo_choice_10 rfl (lv_at hl 2 rfl) ?_
  refine mr_Si (g := (f_Mo_head K mo_1 depth)) (As := [.ref hm, .int depth]) (rest := [.int r_1, .ref hm]) ⟨hx, hb, hml, hown, hts0⟩ (m_Mo_head l hlt dC dI cI cZ sa rk hm ma fr0 lo0 K hR0 hR1 hR2 hR3 hR4 hR5 hR6 hR7 mo_1 _ depth (fun z => hg (by unfold f_Mo_choice; rw [bndM_r w_1, bndM_n z]))) hP hD hK hS hA hC hZ hnt hlocks L_1225 L_1226 L_90 L_1227 k_Mo_head ⟨(by show _ ≤ fr0 + 9; omega), (by show _ ≤ lo0 + 145; omega)⟩ rfl rfl hl.1 (Nat.le_of_ble_eq_true rfl) d_Mo_choice_11 rfl (fun q z => by unfold f_Mo_choice; rw [bndM_r w_1, bndM_l z]) (fun r_2 mo_2 H locs w_2 hP hD hS => ?_)
  refine mr_Vv (g := (f_Mo_hang mo_2 r_1 r_2)) (As := [.int r_1, .int r_2]) (rest := []) ⟨hx, hb, hml, hown, hts0⟩ (m_Mo_hang l hlt dC dI cI cZ sa rk hm ma mo_2 _ r_1 r_2 (fun z => hg (by unfold f_Mo_choice; rw [bndM_r w_1, bndM_r w_2, bndM_n z]))) hP hD hK hS hA hC hZ hnt hlocks L_1115 L_1117 L_69 L_90 L_1118 k_Mo_hang ⟨(by show _ ≤ fr0 + 9; omega), (by show _ ≤ lo0 + 145; omega)⟩ rfl rfl hl.1 (Nat.le_of_ble_eq_true rfl) d_Mo_choice_14 rfl (fun q z => by unfold f_Mo_choice; rw [bndM_r w_1, bndM_r w_2, bndM_l z]) (fun mo_3 H locs w_3 hP hD hS => ?_)
  refine lv_aload_n hx hb d_Mo_choice_17 rfl (lv_at hl 1 rfl) ?_
  refine lv_bipush (v := 64) hx hb d_Mo_choice_18 (by decide) ?_
  refine mr_Vv (g := (f_Mo_expect mo_3 64)) (As := [.int 64]) (rest := []) ⟨hx, hb, hml, hown, hts0⟩ (m_Mo_expect l hlt dC dI cI cZ sa rk hm ma mo_3 _ 64 (fun z => hg (by unfold f_Mo_choice; rw [bndM_r w_1, bndM_r w_2, bndM_r w_3, bndM_n z]))) hP hD hK hS hA hC hZ hnt hlocks L_1111 L_1113 L_68 L_90 L_1114 k_Mo_expect ⟨(by show _ ≤ fr0 + 9; omega), (by show _ ≤ lo0 + 145; omega)⟩ rfl rfl hl.1 (Nat.le_of_ble_eq_true rfl) d_Mo_choice_20 rfl (fun q z => by unfold f_Mo_choice; rw [bndM_r w_1, bndM_r w_2, bndM_r w_3, bndM_l z]) (fun mo_4 H locs w_4 hP hD hS => ?_)
  refine lv_aload_n hx hb d_Mo_choice_23 rfl (lv_at hl 1 rfl) ?_
  refine lv_dup hx hb d_Mo_choice_24 rfl ?_
  refine va_get (D := (dC, dI)) (ci := 6) (v := .int (q_breakables mo_4)) (C := R_Mo) (T := T_Mo) (N := 31) hx hb hts u_Mo hown hK hP 0 rfl rfl 27 (by decide) (hts _ L_948) (fun _ h9 => h9) rfl d_Mo_choice_25 ?_
  refine lv_iconst (v := 1) hx hb d_Mo_choice_28 (by decide) ?_
  refine lv_iadd hx hb d_Mo_choice_29 ?_
  refine va_put (D := (dC, dI)) (ci := 6) (v := .int ((q_breakables mo_4) + 1)) (ty := .int) (C := R_Mo) (T := T_Mo) (N := 31) hx hb hts u_Mo ty_Mo tk_Mo nm_Mo hown hK hP hD hS 0 rfl rfl 27 (by decide) (hts _ L_948) (fun _ h9 => h9) rfl (by decide +kernel) rfl rfl (Nat.le_of_ble_eq_true rfl) d_Mo_choice_30 (fun H locs hP hD hS => ?_)
  have hP : va_P (dC, dI) cls (wM cI cZ hm ma (s_breakables mo_4 ((q_breakables mo_4) + 1))) H := hP
  have hD : va_D A (wM cI cZ hm ma (s_breakables mo_4 ((q_breakables mo_4) + 1))) := hD
  refine lv_iconst (v := 0) hx hb d_Mo_choice_33 (by decide) ?_
  refine lv_istore_n (lv' := [(3, .int 0), (2, .int r_1), (0, .ref hm), (1, .int depth)]) hx hb d_Mo_choice_34 rfl hl (by decide) rfl (fun ls hl => ?_)
  obtain ⟨x_5, hx_5⟩ : ∃ z, f_Mo_choice_L35 K depth r_1 5000 0 (s_breakables mo_4 ((q_breakables mo_4) + 1)) = z := ⟨_, rfl⟩
  have hn_5 : x_5 ≠ none := (fun z => hg (by unfold f_Mo_choice; rw [bndM_r w_1, bndM_r w_2, bndM_r w_3, bndM_r w_4, bndM_n (hx_5.trans z)]))
  have hX_5 : ∀ q, x_5 = some (.inl q) → (f_Mo_choice K mo depth) = some (.inl q) := (fun q z => by unfold f_Mo_choice; rw [bndM_r w_1, bndM_r w_2, bndM_r w_3, bndM_r w_4, bndM_l (hx_5.trans z)])
  have lp_5 : ∀ (fu : Nat) (x3 : Int32) (sx_5 : MO) (H : Heap) (locs : List Loc) (ls : Array Slot), va_P (dC, dI) cls (wM cI cZ hm ma sx_5) H → va_D A (wM cI cZ hm ma sx_5) → va_S A s.heap H locs → lv_has ls 6 [(0, .ref hm), (1, .int depth), (2, .int r_1), (3, .int x3)] → x_5 = f_Mo_choice_L35 K depth r_1 fu x3 sx_5 → W p l e (headSpec (wy y_Mo_choice c_Mo_choice 6 (some .int)) { frames := (fr0 + 9), cells := 1, slots := 6, locals := (lo0 + 145) }).room s m [.ref hm, .int depth].toArray below meth c H locs 0 0 (vx_MQ below (va_Qi (fun r (u : MO) => (f_Mo_choice K mo depth) = some (.inr (r, u))) (wB (dC, dI) cI cZ A (wM cI cZ hm ma)) A) (xM (dC, dI) cI cZ hm ma (f_Mo_choice K mo depth) A) [.ref hm, .int depth].toArray s (mcM (f_Mo_choice K mo depth)) (msM (f_Mo_choice K mo depth)) A) (F0 m 35 ls []) := by
    intro fu
    induction fu with
    | zero => intro x3 sx_5 H locs ls hP hD hS hl hL_5; exact absurd (hL_5.trans rfl) hn_5
    | succ fu_5 ih_5 =>
      intro x3 sx_5 H locs ls hP hD hS hl hL_5
      rw [f_Mo_choice_L35] at hL_5
      refine lv_aload_n hx hb d_Mo_choice_35 rfl (lv_at hl 0 rfl) ?_
      refine lv_bipush (v := 65) hx hb d_Mo_choice_36 (by decide) ?_
      refine mr_Vi (g := (f_Mo_isSign sx_5 65)) (As := [.int 65]) (rest := []) ⟨hx, hb, hml, hown, hts0⟩ (m_Mo_isSign l hlt dC dI cI cZ sa rk hm ma sx_5 _ 65 (fun z => hn_5 (hL_5.trans (bndM_n z)))) hP hD hK hS hA hC hZ hnt hlocks L_1053 L_1055 L_60 L_90 L_1056 k_Mo_isSign ⟨(by show _ ≤ fr0 + 9; omega), (by show _ ≤ lo0 + 145; omega)⟩ rfl rfl hl.1 (Nat.le_of_ble_eq_true rfl) d_Mo_choice_38 rfl (fun q z => hX_5 q (hL_5.trans (bndM_l z))) (fun r_6 mo_6 H locs w_6 hP hD hS => ?_)
      rw [bndM_r w_6] at hL_5
      refine lv_if_ne (tgt := 189) hx hb d_Mo_choice_41 (by decide) (fun c_7 => ?_) (fun c_7 => ?_)
      · rw [if_neg c_7] at hL_5
        obtain ⟨se_5, hse_5⟩ : ∃ z : MO, z = mo_6 := ⟨_, rfl⟩
        have hP : va_P (dC, dI) cls (wM cI cZ hm ma se_5) H := by rw [hse_5]; exact hP
        have hD : va_D A (wM cI cZ hm ma se_5) := by rw [hse_5]; exact hD
        have we_5 : f_Mo_choice_L35 K depth r_1 5000 0 (s_breakables mo_4 ((q_breakables mo_4) + 1)) = some (.inr (0, se_5)) := by rw [hse_5]; exact hx_5.trans hL_5
        have hl := lv_sub hl (l' := [(0, .ref hm), (1, .int depth), (2, .int r_1)]) [0, 1, 2] rfl
        refine lv_aload_n hx hb d_Mo_choice_189 rfl (lv_at hl 0 rfl) ?_
        refine lv_dup hx hb d_Mo_choice_190 rfl ?_
        refine va_get (D := (dC, dI)) (ci := 6) (v := .int (q_breakables se_5)) (C := R_Mo) (T := T_Mo) (N := 31) hx hb hts u_Mo hown hK hP 0 rfl rfl 27 (by decide) (hts _ L_948) (fun _ h9 => h9) rfl d_Mo_choice_191 ?_
        refine lv_iconst (v := 1) hx hb d_Mo_choice_194 (by decide) ?_
        refine lv_isub hx hb d_Mo_choice_195 ?_
        refine va_put (D := (dC, dI)) (ci := 6) (v := .int ((q_breakables se_5) - 1)) (ty := .int) (C := R_Mo) (T := T_Mo) (N := 31) hx hb hts u_Mo ty_Mo tk_Mo nm_Mo hown hK hP hD hS 0 rfl rfl 27 (by decide) (hts _ L_948) (fun _ h9 => h9) rfl (by decide +kernel) rfl rfl (Nat.le_of_ble_eq_true rfl) d_Mo_choice_196 (fun H locs hP hD hS => ?_)
        have hP : va_P (dC, dI) cls (wM cI cZ hm ma (s_breakables se_5 ((q_breakables se_5) - 1))) H := hP
        have hD : va_D A (wM cI cZ hm ma (s_breakables se_5 ((q_breakables se_5) - 1))) := hD
        refine lv_aload_n hx hb d_Mo_choice_199 rfl (lv_at hl 0 rfl) ?_
        refine lv_dup hx hb d_Mo_choice_200 rfl ?_
        refine va_get (D := (dC, dI)) (ci := 6) (v := .int (q_at se_5)) (C := R_Mo) (T := T_Mo) (N := 31) hx hb hts u_Mo hown hK hP 0 rfl rfl 6 (by decide) (hts _ L_927) (fun _ h9 => h9) rfl d_Mo_choice_201 ?_
        refine lv_iconst (v := 1) hx hb d_Mo_choice_204 (by decide) ?_
        refine lv_iadd hx hb d_Mo_choice_205 ?_
        refine va_put (D := (dC, dI)) (ci := 6) (v := .int ((q_at se_5) + 1)) (ty := .int) (C := R_Mo) (T := T_Mo) (N := 31) hx hb hts u_Mo ty_Mo tk_Mo nm_Mo hown hK hP hD hS 0 rfl rfl 6 (by decide) (hts _ L_927) (fun _ h9 => h9) rfl (by decide +kernel) rfl rfl (Nat.le_of_ble_eq_true rfl) d_Mo_choice_206 (fun H locs hP hD hS => ?_)
        have hP : va_P (dC, dI) cls (wM cI cZ hm ma (s_at (s_breakables se_5 ((q_breakables se_5) - 1)) ((q_at se_5) + 1))) H := hP
        have hD : va_D A (wM cI cZ hm ma (s_at (s_breakables se_5 ((q_breakables se_5) - 1)) ((q_at se_5) + 1))) := hD
        refine lv_iload_n hx hb d_Mo_choice_209 rfl (lv_at hl 2 rfl) ?_
        exact mr_iret (v := r_1) (mo := (s_at (s_breakables se_5 ((q_breakables se_5) - 1)) ((q_at se_5) + 1))) hx hb hr hlocks hK hP hD hS (by unfold f_Mo_choice; rw [bndM_r w_1, bndM_r w_2, bndM_r w_3, bndM_r w_4, bndM_r we_5]) d_Mo_choice_210
      · rw [if_pos c_7] at hL_5
        refine lv_aload_n hx hb d_Mo_choice_44 rfl (lv_at hl 0 rfl) ?_
        refine lv_iconst (v := 1) hx hb d_Mo_choice_45 (by decide) ?_
        refine mr_Vi (g := (f_Mo_isWord mo_6 1)) (As := [.int 1]) (rest := []) ⟨hx, hb, hml, hown, hts0⟩ (m_Mo_isWord l hlt dC dI cI cZ sa rk hm ma mo_6 _ 1 (fun z => hn_5 (hL_5.trans (bndM_n z)))) hP hD hK hS hA hC hZ hnt hlocks L_1061 L_1063 L_62 L_90 L_1064 k_Mo_isWord ⟨(by show _ ≤ fr0 + 9; omega), (by show _ ≤ lo0 + 145; omega)⟩ rfl rfl hl.1 (Nat.le_of_ble_eq_true rfl) d_Mo_choice_46 rfl (fun q z => hX_5 q (hL_5.trans (bndM_l z))) (fun r_8 mo_8 H locs w_8 hP hD hS => ?_)
        rw [bndM_r w_8] at hL_5
        refine lv_istore (lv' := [(4, .int r_8), (0, .ref hm), (1, .int depth), (2, .int r_1), (3, .int x3)]) hx hb d_Mo_choice_49 hl (by decide) rfl (fun ls hl => ?_)
        refine lv_iload hx hb d_Mo_choice_51 (lv_at hl 0 rfl) ?_
        refine lv_if_ne (tgt := 76) hx hb d_Mo_choice_53 (by decide) (fun c_9 => ?_) (fun c_9 => ?_)
        · rw [if_neg c_9] at hL_5
          refine lv_iload_n hx hb d_Mo_choice_76 rfl (lv_at hl 4 rfl) ?_
          refine lv_if_ne (tgt := 85) hx hb d_Mo_choice_77 (by decide) (fun c_10 => ?_) (fun c_10 => ?_)
          · rw [if_neg c_10] at hL_5
            refine lv_iconst (v := 1) hx hb d_Mo_choice_85 (by decide) ?_
            refine lv_goto (tgt := 90) hx hb d_Mo_choice_86 (by decide) ?_
            refine lv_istore_n (lv' := [(3, .int 1), (4, .int r_8), (0, .ref hm), (1, .int depth), (2, .int r_1)]) hx hb d_Mo_choice_90 rfl hl (by decide) rfl (fun ls hl => ?_)
            refine lv_aload_n hx hb d_Mo_choice_91 rfl (lv_at hl 2 rfl) ?_
            refine lv_iload hx hb d_Mo_choice_92 (lv_at hl 1 rfl) ?_
            refine lv_if_eq (tgt := 102) hx hb d_Mo_choice_94 (by decide) (fun q9 => absurd q9 c_9) (fun _ => ?_)
            refine lv_bipush (v := 16) hx hb d_Mo_choice_97 (by decide) ?_
            refine lv_goto (tgt := 104) hx hb d_Mo_choice_99 (by decide) ?_
            refine mr_Vi (g := (f_Mo_plain mo_8 16)) (As := [.int 16]) (rest := []) ⟨hx, hb, hml, hown, hts0⟩ (m_Mo_plain l hlt dC dI cI cZ sa rk hm ma mo_8 _ 16 (fun z => hn_5 (hL_5.trans (bndM_n z)))) hP hD hK hS hA hC hZ hnt hlocks L_1128 L_1130 L_70 L_90 L_1131 k_Mo_plain ⟨(by show _ ≤ fr0 + 9; omega), (by show _ ≤ lo0 + 145; omega)⟩ rfl rfl hl.1 (Nat.le_of_ble_eq_true rfl) d_Mo_choice_104 rfl (fun q z => hX_5 q (hL_5.trans (bndM_l z))) (fun r_11 mo_11 H locs w_11 hP hD hS => ?_)
            rw [bndM_r w_11] at hL_5
            refine lv_istore (lv' := [(5, .int r_11), (3, .int 1), (4, .int r_8), (0, .ref hm), (1, .int depth), (2, .int r_1)]) hx hb d_Mo_choice_107 hl (by decide) rfl (fun ls hl => ?_)
            refine lv_iload hx hb d_Mo_choice_109 (lv_at hl 2 rfl) ?_
            refine lv_if_eq (tgt := 128) hx hb d_Mo_choice_111 (by decide) (fun q9 => absurd q9 c_9) (fun _ => ?_)
            refine lv_aload_n hx hb d_Mo_choice_114 rfl (lv_at hl 3 rfl) ?_
            refine lv_iload hx hb d_Mo_choice_115 (lv_at hl 0 rfl) ?_
            refine lv_aload_n hx hb d_Mo_choice_117 rfl (lv_at hl 3 rfl) ?_
            refine lv_iload_n hx hb d_Mo_choice_118 rfl (lv_at hl 4 rfl) ?_
            refine lv_iconst (v := 1) hx hb d_Mo_choice_119 (by decide) ?_
            refine lv_iadd hx hb d_Mo_choice_120 ?_
            refine lv_iconst (v := 1) hx hb d_Mo_choice_121 (by decide) ?_
            refine mr_Si (g := (K 0 [(depth + 1), 1] mo_11)) (As := [.ref hm, .int (depth + 1), .int 1]) (rest := [.int r_11, .ref hm]) ⟨hx, hb, hml, hown, hts0⟩ (hR0 mo_11 _ (depth + 1) 1 (fun z => hn_5 (hL_5.trans (bndM_n z)))) hP hD hK hS hA hC hZ hnt hlocks L_1135 L_1136 L_90 L_1137 k_Mo_expression ⟨(by show _ ≤ fr0 + 9; omega), (by show _ ≤ lo0 + 145; omega)⟩ rfl rfl hl.1 (Nat.le_of_ble_eq_true rfl) d_Mo_choice_122 rfl (fun q z => hX_5 q (hL_5.trans (bndM_l z))) (fun r_12 mo_12 H locs w_12 hP hD hS => ?_)
            rw [bndM_r w_12] at hL_5
            refine mr_Vv (g := (f_Mo_hang mo_12 r_11 r_12)) (As := [.int r_11, .int r_12]) (rest := []) ⟨hx, hb, hml, hown, hts0⟩ (m_Mo_hang l hlt dC dI cI cZ sa rk hm ma mo_12 _ r_11 r_12 (fun z => hn_5 (hL_5.trans (bndM_n z)))) hP hD hK hS hA hC hZ hnt hlocks L_1115 L_1117 L_69 L_90 L_1118 k_Mo_hang ⟨(by show _ ≤ fr0 + 9; omega), (by show _ ≤ lo0 + 145; omega)⟩ rfl rfl hl.1 (Nat.le_of_ble_eq_true rfl) d_Mo_choice_125 rfl (fun q z => hX_5 q (hL_5.trans (bndM_l z))) (fun mo_13 H locs w_13 hP hD hS => ?_)
            rw [bndM_r w_13] at hL_5
            refine lv_aload_n hx hb d_Mo_choice_128 rfl (lv_at hl 3 rfl) ?_
            refine lv_bipush (v := 70) hx hb d_Mo_choice_129 (by decide) ?_
            refine mr_Vv (g := (f_Mo_expect mo_13 70)) (As := [.int 70]) (rest := []) ⟨hx, hb, hml, hown, hts0⟩ (m_Mo_expect l hlt dC dI cI cZ sa rk hm ma mo_13 _ 70 (fun z => hn_5 (hL_5.trans (bndM_n z)))) hP hD hK hS hA hC hZ hnt hlocks L_1111 L_1113 L_68 L_90 L_1114 k_Mo_expect ⟨(by show _ ≤ fr0 + 9; omega), (by show _ ≤ lo0 + 145; omega)⟩ rfl rfl hl.1 (Nat.le_of_ble_eq_true rfl) d_Mo_choice_131 rfl (fun q z => hX_5 q (hL_5.trans (bndM_l z))) (fun mo_14 H locs w_14 hP hD hS => ?_)
            rw [bndM_r w_14] at hL_5
            obtain ⟨x_15, hx_15⟩ : ∃ z, f_Mo_choice_L134 K depth r_11 5000  mo_14 = z := ⟨_, rfl⟩
            have hn_15 : x_15 ≠ none := (fun z => hn_5 (hL_5.trans (bndM_n (hx_15.trans z))))
            have hX_15 : ∀ q, x_15 = some (.inl q) → (f_Mo_choice K mo depth) = some (.inl q) := (fun q z => hX_5 q (hL_5.trans (bndM_l (hx_15.trans z))))
            have lp_15 : ∀ (fu : Nat) (sx_15 : MO) (H : Heap) (locs : List Loc) (ls : Array Slot), va_P (dC, dI) cls (wM cI cZ hm ma sx_15) H → va_D A (wM cI cZ hm ma sx_15) → va_S A s.heap H locs → lv_has ls 6 [(0, .ref hm), (1, .int depth), (2, .int r_1), (3, .int 1), (4, .int r_8), (5, .int r_11)] → x_15 = f_Mo_choice_L134 K depth r_11 fu  sx_15 → W p l e (headSpec (wy y_Mo_choice c_Mo_choice 6 (some .int)) { frames := (fr0 + 9), cells := 1, slots := 6, locals := (lo0 + 145) }).room s m [.ref hm, .int depth].toArray below meth c H locs 0 0 (vx_MQ below (va_Qi (fun r (u : MO) => (f_Mo_choice K mo depth) = some (.inr (r, u))) (wB (dC, dI) cI cZ A (wM cI cZ hm ma)) A) (xM (dC, dI) cI cZ hm ma (f_Mo_choice K mo depth) A) [.ref hm, .int depth].toArray s (mcM (f_Mo_choice K mo depth)) (msM (f_Mo_choice K mo depth)) A) (F0 m 134 ls []) := by
              intro fu
              induction fu with
              | zero => intro  sx_15 H locs ls hP hD hS hl hL_15; exact absurd (hL_15.trans rfl) hn_15
              | succ fu_15 ih_15 =>
                intro  sx_15 H locs ls hP hD hS hl hL_15
                rw [f_Mo_choice_L134] at hL_15
                refine lv_aload_n hx hb d_Mo_choice_134 rfl (lv_at hl 0 rfl) ?_
                refine lv_bipush (v := 65) hx hb d_Mo_choice_135 (by decide) ?_
                refine mr_Vi (g := (f_Mo_isSign sx_15 65)) (As := [.int 65]) (rest := []) ⟨hx, hb, hml, hown, hts0⟩ (m_Mo_isSign l hlt dC dI cI cZ sa rk hm ma sx_15 _ 65 (fun z => hn_15 (hL_15.trans (bndM_n z)))) hP hD hK hS hA hC hZ hnt hlocks L_1053 L_1055 L_60 L_90 L_1056 k_Mo_isSign ⟨(by show _ ≤ fr0 + 9; omega), (by show _ ≤ lo0 + 145; omega)⟩ rfl rfl hl.1 (Nat.le_of_ble_eq_true rfl) d_Mo_choice_137 rfl (fun q z => hX_15 q (hL_15.trans (bndM_l z))) (fun r_16 mo_16 H locs w_16 hP hD hS => ?_)
                rw [bndM_r w_16] at hL_15
                refine lv_if_ne (tgt := 179) hx hb d_Mo_choice_140 (by decide) (fun c_17 => ?_) (fun c_17 => ?_)
                · rw [if_neg c_17] at hL_15
                  obtain ⟨se_15, hse_15⟩ : ∃ z : MO, z = mo_16 := ⟨_, rfl⟩
                  have hP : va_P (dC, dI) cls (wM cI cZ hm ma se_15) H := by rw [hse_15]; exact hP
                  have hD : va_D A (wM cI cZ hm ma se_15) := by rw [hse_15]; exact hD
                  have we_15 : f_Mo_choice_L134 K depth r_11 5000  mo_14 = some (.inr (0, se_15)) := by rw [hse_15]; exact hx_15.trans hL_15
                  have hl := lv_sub hl (l' := [(0, .ref hm), (1, .int depth), (2, .int r_1), (3, .int 1), (4, .int r_8), (5, .int r_11)]) [0, 1, 2, 3, 4, 5] rfl
                  rw [bndM_r we_15] at hL_5
                  refine lv_aload_n hx hb d_Mo_choice_179 rfl (lv_at hl 0 rfl) ?_
                  refine lv_iload_n hx hb d_Mo_choice_180 rfl (lv_at hl 2 rfl) ?_
                  refine lv_iload hx hb d_Mo_choice_181 (lv_at hl 5 rfl) ?_
                  refine mr_Vv (g := (f_Mo_hang se_15 r_1 r_11)) (As := [.int r_1, .int r_11]) (rest := []) ⟨hx, hb, hml, hown, hts0⟩ (m_Mo_hang l hlt dC dI cI cZ sa rk hm ma se_15 _ r_1 r_11 (fun z => hn_5 (hL_5.trans (bndM_n z)))) hP hD hK hS hA hC hZ hnt hlocks L_1115 L_1117 L_69 L_90 L_1118 k_Mo_hang ⟨(by show _ ≤ fr0 + 9; omega), (by show _ ≤ lo0 + 145; omega)⟩ rfl rfl hl.1 (Nat.le_of_ble_eq_true rfl) d_Mo_choice_183 rfl (fun q z => hX_5 q (hL_5.trans (bndM_l z))) (fun mo_18 H locs w_18 hP hD hS => ?_)
                  rw [bndM_r w_18] at hL_5
                  refine lv_goto (tgt := 35) hx hb d_Mo_choice_186 (by decide) ?_
                  exact ih_5 1 mo_18 _ _ ls hP hD hS (lv_sub hl [0, 1, 2, 3] rfl) hL_5
                · rw [if_pos c_17] at hL_15
                  refine lv_aload_n hx hb d_Mo_choice_143 rfl (lv_at hl 0 rfl) ?_
                  refine lv_iconst (v := 1) hx hb d_Mo_choice_144 (by decide) ?_
                  refine mr_Vi (g := (f_Mo_isWord mo_16 1)) (As := [.int 1]) (rest := []) ⟨hx, hb, hml, hown, hts0⟩ (m_Mo_isWord l hlt dC dI cI cZ sa rk hm ma mo_16 _ 1 (fun z => hn_15 (hL_15.trans (bndM_n z)))) hP hD hK hS hA hC hZ hnt hlocks L_1061 L_1063 L_62 L_90 L_1064 k_Mo_isWord ⟨(by show _ ≤ fr0 + 9; omega), (by show _ ≤ lo0 + 145; omega)⟩ rfl rfl hl.1 (Nat.le_of_ble_eq_true rfl) d_Mo_choice_145 rfl (fun q z => hX_15 q (hL_15.trans (bndM_l z))) (fun r_19 mo_19 H locs w_19 hP hD hS => ?_)
                  rw [bndM_r w_19] at hL_15
                  refine lv_if_ne (tgt := 179) hx hb d_Mo_choice_148 (by decide) (fun c_20 => ?_) (fun c_20 => ?_)
                  · rw [if_neg c_20] at hL_15
                    obtain ⟨se_15, hse_15⟩ : ∃ z : MO, z = mo_19 := ⟨_, rfl⟩
                    have hP : va_P (dC, dI) cls (wM cI cZ hm ma se_15) H := by rw [hse_15]; exact hP
                    have hD : va_D A (wM cI cZ hm ma se_15) := by rw [hse_15]; exact hD
                    have we_15 : f_Mo_choice_L134 K depth r_11 5000  mo_14 = some (.inr (0, se_15)) := by rw [hse_15]; exact hx_15.trans hL_15
                    have hl := lv_sub hl (l' := [(0, .ref hm), (1, .int depth), (2, .int r_1), (3, .int 1), (4, .int r_8), (5, .int r_11)]) [0, 1, 2, 3, 4, 5] rfl
                    rw [bndM_r we_15] at hL_5
                    refine lv_aload_n hx hb d_Mo_choice_179 rfl (lv_at hl 0 rfl) ?_
                    refine lv_iload_n hx hb d_Mo_choice_180 rfl (lv_at hl 2 rfl) ?_
                    refine lv_iload hx hb d_Mo_choice_181 (lv_at hl 5 rfl) ?_
                    refine mr_Vv (g := (f_Mo_hang se_15 r_1 r_11)) (As := [.int r_1, .int r_11]) (rest := []) ⟨hx, hb, hml, hown, hts0⟩ (m_Mo_hang l hlt dC dI cI cZ sa rk hm ma se_15 _ r_1 r_11 (fun z => hn_5 (hL_5.trans (bndM_n z)))) hP hD hK hS hA hC hZ hnt hlocks L_1115 L_1117 L_69 L_90 L_1118 k_Mo_hang ⟨(by show _ ≤ fr0 + 9; omega), (by show _ ≤ lo0 + 145; omega)⟩ rfl rfl hl.1 (Nat.le_of_ble_eq_true rfl) d_Mo_choice_183 rfl (fun q z => hX_5 q (hL_5.trans (bndM_l z))) (fun mo_21 H locs w_21 hP hD hS => ?_)
                    rw [bndM_r w_21] at hL_5
                    refine lv_goto (tgt := 35) hx hb d_Mo_choice_186 (by decide) ?_
                    exact ih_5 1 mo_21 _ _ ls hP hD hS (lv_sub hl [0, 1, 2, 3] rfl) hL_5
                  · rw [if_pos c_20] at hL_15
                    refine lv_aload_n hx hb d_Mo_choice_151 rfl (lv_at hl 0 rfl) ?_
                    refine lv_iconst (v := 5) hx hb d_Mo_choice_152 (by decide) ?_
                    refine mr_Vi (g := (f_Mo_isWord mo_19 5)) (As := [.int 5]) (rest := []) ⟨hx, hb, hml, hown, hts0⟩ (m_Mo_isWord l hlt dC dI cI cZ sa rk hm ma mo_19 _ 5 (fun z => hn_15 (hL_15.trans (bndM_n z)))) hP hD hK hS hA hC hZ hnt hlocks L_1061 L_1063 L_62 L_90 L_1064 k_Mo_isWord ⟨(by show _ ≤ fr0 + 9; omega), (by show _ ≤ lo0 + 145; omega)⟩ rfl rfl hl.1 (Nat.le_of_ble_eq_true rfl) d_Mo_choice_153 rfl (fun q z => hX_15 q (hL_15.trans (bndM_l z))) (fun r_22 mo_22 H locs w_22 hP hD hS => ?_)
                    rw [bndM_r w_22] at hL_15
                    refine lv_if_ne (tgt := 179) hx hb d_Mo_choice_156 (by decide) (fun c_23 => ?_) (fun c_23 => ?_)
                    · rw [if_neg c_23] at hL_15
                      obtain ⟨se_15, hse_15⟩ : ∃ z : MO, z = mo_22 := ⟨_, rfl⟩
                      have hP : va_P (dC, dI) cls (wM cI cZ hm ma se_15) H := by rw [hse_15]; exact hP
                      have hD : va_D A (wM cI cZ hm ma se_15) := by rw [hse_15]; exact hD
                      have we_15 : f_Mo_choice_L134 K depth r_11 5000  mo_14 = some (.inr (0, se_15)) := by rw [hse_15]; exact hx_15.trans hL_15
                      have hl := lv_sub hl (l' := [(0, .ref hm), (1, .int depth), (2, .int r_1), (3, .int 1), (4, .int r_8), (5, .int r_11)]) [0, 1, 2, 3, 4, 5] rfl
                      rw [bndM_r we_15] at hL_5
                      refine lv_aload_n hx hb d_Mo_choice_179 rfl (lv_at hl 0 rfl) ?_
                      refine lv_iload_n hx hb d_Mo_choice_180 rfl (lv_at hl 2 rfl) ?_
                      refine lv_iload hx hb d_Mo_choice_181 (lv_at hl 5 rfl) ?_
                      refine mr_Vv (g := (f_Mo_hang se_15 r_1 r_11)) (As := [.int r_1, .int r_11]) (rest := []) ⟨hx, hb, hml, hown, hts0⟩ (m_Mo_hang l hlt dC dI cI cZ sa rk hm ma se_15 _ r_1 r_11 (fun z => hn_5 (hL_5.trans (bndM_n z)))) hP hD hK hS hA hC hZ hnt hlocks L_1115 L_1117 L_69 L_90 L_1118 k_Mo_hang ⟨(by show _ ≤ fr0 + 9; omega), (by show _ ≤ lo0 + 145; omega)⟩ rfl rfl hl.1 (Nat.le_of_ble_eq_true rfl) d_Mo_choice_183 rfl (fun q z => hX_5 q (hL_5.trans (bndM_l z))) (fun mo_24 H locs w_24 hP hD hS => ?_)
                      rw [bndM_r w_24] at hL_5
                      refine lv_goto (tgt := 35) hx hb d_Mo_choice_186 (by decide) ?_
                      exact ih_5 1 mo_24 _ _ ls hP hD hS (lv_sub hl [0, 1, 2, 3] rfl) hL_5
                    · rw [if_pos c_23] at hL_15
                      refine lv_aload_n hx hb d_Mo_choice_159 rfl (lv_at hl 0 rfl) ?_
                      refine lv_iload hx hb d_Mo_choice_160 (lv_at hl 5 rfl) ?_
                      refine lv_aload_n hx hb d_Mo_choice_162 rfl (lv_at hl 0 rfl) ?_
                      refine lv_iload_n hx hb d_Mo_choice_163 rfl (lv_at hl 1 rfl) ?_
                      refine lv_iconst (v := 1) hx hb d_Mo_choice_164 (by decide) ?_
                      refine lv_iadd hx hb d_Mo_choice_165 ?_
                      refine lv_aload_n hx hb d_Mo_choice_166 rfl (lv_at hl 0 rfl) ?_
                      refine va_get (D := (dC, dI)) (ci := 6) (v := .int (q_labels mo_22)) (C := R_Mo) (T := T_Mo) (N := 31) hx hb hts u_Mo hown hK hP 0 rfl rfl 22 (by decide) (hts _ L_943) (fun _ h9 => h9) rfl d_Mo_choice_167 ?_
                      refine mr_Si (g := (K 5 [(depth + 1), (q_labels mo_22)] mo_22)) (As := [.ref hm, .int (depth + 1), .int (q_labels mo_22)]) (rest := [.int r_11, .ref hm]) ⟨hx, hb, hml, hown, hts0⟩ (hR5 mo_22 _ (depth + 1) (q_labels mo_22) (fun z => hn_15 (hL_15.trans (bndM_n z)))) hP hD hK hS hA hC hZ hnt hlocks L_1122 L_1123 L_90 L_1124 k_Mo_statement ⟨(by show _ ≤ fr0 + 9; omega), (by show _ ≤ lo0 + 145; omega)⟩ rfl rfl hl.1 (Nat.le_of_ble_eq_true rfl) d_Mo_choice_170 rfl (fun q z => hX_15 q (hL_15.trans (bndM_l z))) (fun r_25 mo_25 H locs w_25 hP hD hS => ?_)
                      rw [bndM_r w_25] at hL_15
                      refine mr_Vv (g := (f_Mo_hang mo_25 r_11 r_25)) (As := [.int r_11, .int r_25]) (rest := []) ⟨hx, hb, hml, hown, hts0⟩ (m_Mo_hang l hlt dC dI cI cZ sa rk hm ma mo_25 _ r_11 r_25 (fun z => hn_15 (hL_15.trans (bndM_n z)))) hP hD hK hS hA hC hZ hnt hlocks L_1115 L_1117 L_69 L_90 L_1118 k_Mo_hang ⟨(by show _ ≤ fr0 + 9; omega), (by show _ ≤ lo0 + 145; omega)⟩ rfl rfl hl.1 (Nat.le_of_ble_eq_true rfl) d_Mo_choice_173 rfl (fun q z => hX_15 q (hL_15.trans (bndM_l z))) (fun mo_26 H locs w_26 hP hD hS => ?_)
                      rw [bndM_r w_26] at hL_15
                      refine lv_goto (tgt := 134) hx hb d_Mo_choice_176 (by decide) ?_
                      exact ih_15  mo_26 _ _ ls hP hD hS (lv_sub hl [0, 1, 2, 3, 4, 5] rfl) hL_15
            exact lp_15 5000  mo_14 _ _ ls hP hD hS (lv_sub hl [3, 4, 5, 1, 2, 0] rfl) hx_15.symm
          · rw [if_pos c_10] at hL_5
            refine lv_iload hx hb d_Mo_choice_80 (lv_at hl 0 rfl) ?_
            refine lv_if_ne (tgt := 89) hx hb d_Mo_choice_82 (by decide) (fun _ => ?_) (fun q9 => absurd q9 c_9)
            refine lv_iconst (v := 0) hx hb d_Mo_choice_89 (by decide) ?_
            refine lv_istore_n (lv' := [(3, .int 0), (4, .int r_8), (0, .ref hm), (1, .int depth), (2, .int r_1)]) hx hb d_Mo_choice_90 rfl hl (by decide) rfl (fun ls hl => ?_)
            refine lv_aload_n hx hb d_Mo_choice_91 rfl (lv_at hl 2 rfl) ?_
            refine lv_iload hx hb d_Mo_choice_92 (lv_at hl 1 rfl) ?_
            refine lv_if_eq (tgt := 102) hx hb d_Mo_choice_94 (by decide) (fun q9 => absurd q9 c_9) (fun _ => ?_)
            refine lv_bipush (v := 16) hx hb d_Mo_choice_97 (by decide) ?_
            refine lv_goto (tgt := 104) hx hb d_Mo_choice_99 (by decide) ?_
            refine mr_Vi (g := (f_Mo_plain mo_8 16)) (As := [.int 16]) (rest := []) ⟨hx, hb, hml, hown, hts0⟩ (m_Mo_plain l hlt dC dI cI cZ sa rk hm ma mo_8 _ 16 (fun z => hn_5 (hL_5.trans (bndM_n z)))) hP hD hK hS hA hC hZ hnt hlocks L_1128 L_1130 L_70 L_90 L_1131 k_Mo_plain ⟨(by show _ ≤ fr0 + 9; omega), (by show _ ≤ lo0 + 145; omega)⟩ rfl rfl hl.1 (Nat.le_of_ble_eq_true rfl) d_Mo_choice_104 rfl (fun q z => hX_5 q (hL_5.trans (bndM_l z))) (fun r_27 mo_27 H locs w_27 hP hD hS => ?_)
            rw [bndM_r w_27] at hL_5
            refine lv_istore (lv' := [(5, .int r_27), (3, .int 0), (4, .int r_8), (0, .ref hm), (1, .int depth), (2, .int r_1)]) hx hb d_Mo_choice_107 hl (by decide) rfl (fun ls hl => ?_)
            refine lv_iload hx hb d_Mo_choice_109 (lv_at hl 2 rfl) ?_
            refine lv_if_eq (tgt := 128) hx hb d_Mo_choice_111 (by decide) (fun q9 => absurd q9 c_9) (fun _ => ?_)
            refine lv_aload_n hx hb d_Mo_choice_114 rfl (lv_at hl 3 rfl) ?_
            refine lv_iload hx hb d_Mo_choice_115 (lv_at hl 0 rfl) ?_
            refine lv_aload_n hx hb d_Mo_choice_117 rfl (lv_at hl 3 rfl) ?_
            refine lv_iload_n hx hb d_Mo_choice_118 rfl (lv_at hl 4 rfl) ?_
            refine lv_iconst (v := 1) hx hb d_Mo_choice_119 (by decide) ?_
            refine lv_iadd hx hb d_Mo_choice_120 ?_
            refine lv_iconst (v := 1) hx hb d_Mo_choice_121 (by decide) ?_
            refine mr_Si (g := (K 0 [(depth + 1), 1] mo_27)) (As := [.ref hm, .int (depth + 1), .int 1]) (rest := [.int r_27, .ref hm]) ⟨hx, hb, hml, hown, hts0⟩ (hR0 mo_27 _ (depth + 1) 1 (fun z => hn_5 (hL_5.trans (bndM_n z)))) hP hD hK hS hA hC hZ hnt hlocks L_1135 L_1136 L_90 L_1137 k_Mo_expression ⟨(by show _ ≤ fr0 + 9; omega), (by show _ ≤ lo0 + 145; omega)⟩ rfl rfl hl.1 (Nat.le_of_ble_eq_true rfl) d_Mo_choice_122 rfl (fun q z => hX_5 q (hL_5.trans (bndM_l z))) (fun r_28 mo_28 H locs w_28 hP hD hS => ?_)
            rw [bndM_r w_28] at hL_5
            refine mr_Vv (g := (f_Mo_hang mo_28 r_27 r_28)) (As := [.int r_27, .int r_28]) (rest := []) ⟨hx, hb, hml, hown, hts0⟩ (m_Mo_hang l hlt dC dI cI cZ sa rk hm ma mo_28 _ r_27 r_28 (fun z => hn_5 (hL_5.trans (bndM_n z)))) hP hD hK hS hA hC hZ hnt hlocks L_1115 L_1117 L_69 L_90 L_1118 k_Mo_hang ⟨(by show _ ≤ fr0 + 9; omega), (by show _ ≤ lo0 + 145; omega)⟩ rfl rfl hl.1 (Nat.le_of_ble_eq_true rfl) d_Mo_choice_125 rfl (fun q z => hX_5 q (hL_5.trans (bndM_l z))) (fun mo_29 H locs w_29 hP hD hS => ?_)
            rw [bndM_r w_29] at hL_5
            refine lv_aload_n hx hb d_Mo_choice_128 rfl (lv_at hl 3 rfl) ?_
            refine lv_bipush (v := 70) hx hb d_Mo_choice_129 (by decide) ?_
            refine mr_Vv (g := (f_Mo_expect mo_29 70)) (As := [.int 70]) (rest := []) ⟨hx, hb, hml, hown, hts0⟩ (m_Mo_expect l hlt dC dI cI cZ sa rk hm ma mo_29 _ 70 (fun z => hn_5 (hL_5.trans (bndM_n z)))) hP hD hK hS hA hC hZ hnt hlocks L_1111 L_1113 L_68 L_90 L_1114 k_Mo_expect ⟨(by show _ ≤ fr0 + 9; omega), (by show _ ≤ lo0 + 145; omega)⟩ rfl rfl hl.1 (Nat.le_of_ble_eq_true rfl) d_Mo_choice_131 rfl (fun q z => hX_5 q (hL_5.trans (bndM_l z))) (fun mo_30 H locs w_30 hP hD hS => ?_)
            rw [bndM_r w_30] at hL_5
            obtain ⟨x_31, hx_31⟩ : ∃ z, f_Mo_choice_L134 K depth r_27 5000  mo_30 = z := ⟨_, rfl⟩
            have hn_31 : x_31 ≠ none := (fun z => hn_5 (hL_5.trans (bndM_n (hx_31.trans z))))
            have hX_31 : ∀ q, x_31 = some (.inl q) → (f_Mo_choice K mo depth) = some (.inl q) := (fun q z => hX_5 q (hL_5.trans (bndM_l (hx_31.trans z))))
            have lp_31 : ∀ (fu : Nat) (sx_31 : MO) (H : Heap) (locs : List Loc) (ls : Array Slot), va_P (dC, dI) cls (wM cI cZ hm ma sx_31) H → va_D A (wM cI cZ hm ma sx_31) → va_S A s.heap H locs → lv_has ls 6 [(0, .ref hm), (1, .int depth), (2, .int r_1), (3, .int 0), (4, .int r_8), (5, .int r_27)] → x_31 = f_Mo_choice_L134 K depth r_27 fu  sx_31 → W p l e (headSpec (wy y_Mo_choice c_Mo_choice 6 (some .int)) { frames := (fr0 + 9), cells := 1, slots := 6, locals := (lo0 + 145) }).room s m [.ref hm, .int depth].toArray below meth c H locs 0 0 (vx_MQ below (va_Qi (fun r (u : MO) => (f_Mo_choice K mo depth) = some (.inr (r, u))) (wB (dC, dI) cI cZ A (wM cI cZ hm ma)) A) (xM (dC, dI) cI cZ hm ma (f_Mo_choice K mo depth) A) [.ref hm, .int depth].toArray s (mcM (f_Mo_choice K mo depth)) (msM (f_Mo_choice K mo depth)) A) (F0 m 134 ls []) := by
              intro fu
              induction fu with
              | zero => intro  sx_31 H locs ls hP hD hS hl hL_31; exact absurd (hL_31.trans rfl) hn_31
              | succ fu_31 ih_31 =>
                intro  sx_31 H locs ls hP hD hS hl hL_31
                rw [f_Mo_choice_L134] at hL_31
                refine lv_aload_n hx hb d_Mo_choice_134 rfl (lv_at hl 0 rfl) ?_
                refine lv_bipush (v := 65) hx hb d_Mo_choice_135 (by decide) ?_
                refine mr_Vi (g := (f_Mo_isSign sx_31 65)) (As := [.int 65]) (rest := []) ⟨hx, hb, hml, hown, hts0⟩ (m_Mo_isSign l hlt dC dI cI cZ sa rk hm ma sx_31 _ 65 (fun z => hn_31 (hL_31.trans (bndM_n z)))) hP hD hK hS hA hC hZ hnt hlocks L_1053 L_1055 L_60 L_90 L_1056 k_Mo_isSign ⟨(by show _ ≤ fr0 + 9; omega), (by show _ ≤ lo0 + 145; omega)⟩ rfl rfl hl.1 (Nat.le_of_ble_eq_true rfl) d_Mo_choice_137 rfl (fun q z => hX_31 q (hL_31.trans (bndM_l z))) (fun r_32 mo_32 H locs w_32 hP hD hS => ?_)
                rw [bndM_r w_32] at hL_31
                refine lv_if_ne (tgt := 179) hx hb d_Mo_choice_140 (by decide) (fun c_33 => ?_) (fun c_33 => ?_)
                · rw [if_neg c_33] at hL_31
                  obtain ⟨se_31, hse_31⟩ : ∃ z : MO, z = mo_32 := ⟨_, rfl⟩
                  have hP : va_P (dC, dI) cls (wM cI cZ hm ma se_31) H := by rw [hse_31]; exact hP
                  have hD : va_D A (wM cI cZ hm ma se_31) := by rw [hse_31]; exact hD
                  have we_31 : f_Mo_choice_L134 K depth r_27 5000  mo_30 = some (.inr (0, se_31)) := by rw [hse_31]; exact hx_31.trans hL_31
                  have hl := lv_sub hl (l' := [(0, .ref hm), (1, .int depth), (2, .int r_1), (3, .int 0), (4, .int r_8), (5, .int r_27)]) [0, 1, 2, 3, 4, 5] rfl
                  rw [bndM_r we_31] at hL_5
                  refine lv_aload_n hx hb d_Mo_choice_179 rfl (lv_at hl 0 rfl) ?_
                  refine lv_iload_n hx hb d_Mo_choice_180 rfl (lv_at hl 2 rfl) ?_
                  refine lv_iload hx hb d_Mo_choice_181 (lv_at hl 5 rfl) ?_
                  refine mr_Vv (g := (f_Mo_hang se_31 r_1 r_27)) (As := [.int r_1, .int r_27]) (rest := []) ⟨hx, hb, hml, hown, hts0⟩ (m_Mo_hang l hlt dC dI cI cZ sa rk hm ma se_31 _ r_1 r_27 (fun z => hn_5 (hL_5.trans (bndM_n z)))) hP hD hK hS hA hC hZ hnt hlocks L_1115 L_1117 L_69 L_90 L_1118 k_Mo_hang ⟨(by show _ ≤ fr0 + 9; omega), (by show _ ≤ lo0 + 145; omega)⟩ rfl rfl hl.1 (Nat.le_of_ble_eq_true rfl) d_Mo_choice_183 rfl (fun q z => hX_5 q (hL_5.trans (bndM_l z))) (fun mo_34 H locs w_34 hP hD hS => ?_)
                  rw [bndM_r w_34] at hL_5
                  refine lv_goto (tgt := 35) hx hb d_Mo_choice_186 (by decide) ?_
                  exact ih_5 0 mo_34 _ _ ls hP hD hS (lv_sub hl [0, 1, 2, 3] rfl) hL_5
                · rw [if_pos c_33] at hL_31
                  refine lv_aload_n hx hb d_Mo_choice_143 rfl (lv_at hl 0 rfl) ?_
                  refine lv_iconst (v := 1) hx hb d_Mo_choice_144 (by decide) ?_
                  refine mr_Vi (g := (f_Mo_isWord mo_32 1)) (As := [.int 1]) (rest := []) ⟨hx, hb, hml, hown, hts0⟩ (m_Mo_isWord l hlt dC dI cI cZ sa rk hm ma mo_32 _ 1 (fun z => hn_31 (hL_31.trans (bndM_n z)))) hP hD hK hS hA hC hZ hnt hlocks L_1061 L_1063 L_62 L_90 L_1064 k_Mo_isWord ⟨(by show _ ≤ fr0 + 9; omega), (by show _ ≤ lo0 + 145; omega)⟩ rfl rfl hl.1 (Nat.le_of_ble_eq_true rfl) d_Mo_choice_145 rfl (fun q z => hX_31 q (hL_31.trans (bndM_l z))) (fun r_35 mo_35 H locs w_35 hP hD hS => ?_)
                  rw [bndM_r w_35] at hL_31
                  refine lv_if_ne (tgt := 179) hx hb d_Mo_choice_148 (by decide) (fun c_36 => ?_) (fun c_36 => ?_)
                  · rw [if_neg c_36] at hL_31
                    obtain ⟨se_31, hse_31⟩ : ∃ z : MO, z = mo_35 := ⟨_, rfl⟩
                    have hP : va_P (dC, dI) cls (wM cI cZ hm ma se_31) H := by rw [hse_31]; exact hP
                    have hD : va_D A (wM cI cZ hm ma se_31) := by rw [hse_31]; exact hD
                    have we_31 : f_Mo_choice_L134 K depth r_27 5000  mo_30 = some (.inr (0, se_31)) := by rw [hse_31]; exact hx_31.trans hL_31
                    have hl := lv_sub hl (l' := [(0, .ref hm), (1, .int depth), (2, .int r_1), (3, .int 0), (4, .int r_8), (5, .int r_27)]) [0, 1, 2, 3, 4, 5] rfl
                    rw [bndM_r we_31] at hL_5
                    refine lv_aload_n hx hb d_Mo_choice_179 rfl (lv_at hl 0 rfl) ?_
                    refine lv_iload_n hx hb d_Mo_choice_180 rfl (lv_at hl 2 rfl) ?_
                    refine lv_iload hx hb d_Mo_choice_181 (lv_at hl 5 rfl) ?_
                    refine mr_Vv (g := (f_Mo_hang se_31 r_1 r_27)) (As := [.int r_1, .int r_27]) (rest := []) ⟨hx, hb, hml, hown, hts0⟩ (m_Mo_hang l hlt dC dI cI cZ sa rk hm ma se_31 _ r_1 r_27 (fun z => hn_5 (hL_5.trans (bndM_n z)))) hP hD hK hS hA hC hZ hnt hlocks L_1115 L_1117 L_69 L_90 L_1118 k_Mo_hang ⟨(by show _ ≤ fr0 + 9; omega), (by show _ ≤ lo0 + 145; omega)⟩ rfl rfl hl.1 (Nat.le_of_ble_eq_true rfl) d_Mo_choice_183 rfl (fun q z => hX_5 q (hL_5.trans (bndM_l z))) (fun mo_37 H locs w_37 hP hD hS => ?_)
                    rw [bndM_r w_37] at hL_5
                    refine lv_goto (tgt := 35) hx hb d_Mo_choice_186 (by decide) ?_
                    exact ih_5 0 mo_37 _ _ ls hP hD hS (lv_sub hl [0, 1, 2, 3] rfl) hL_5
                  · rw [if_pos c_36] at hL_31
                    refine lv_aload_n hx hb d_Mo_choice_151 rfl (lv_at hl 0 rfl) ?_
                    refine lv_iconst (v := 5) hx hb d_Mo_choice_152 (by decide) ?_
                    refine mr_Vi (g := (f_Mo_isWord mo_35 5)) (As := [.int 5]) (rest := []) ⟨hx, hb, hml, hown, hts0⟩ (m_Mo_isWord l hlt dC dI cI cZ sa rk hm ma mo_35 _ 5 (fun z => hn_31 (hL_31.trans (bndM_n z)))) hP hD hK hS hA hC hZ hnt hlocks L_1061 L_1063 L_62 L_90 L_1064 k_Mo_isWord ⟨(by show _ ≤ fr0 + 9; omega), (by show _ ≤ lo0 + 145; omega)⟩ rfl rfl hl.1 (Nat.le_of_ble_eq_true rfl) d_Mo_choice_153 rfl (fun q z => hX_31 q (hL_31.trans (bndM_l z))) (fun r_38 mo_38 H locs w_38 hP hD hS => ?_)
                    rw [bndM_r w_38] at hL_31
                    refine lv_if_ne (tgt := 179) hx hb d_Mo_choice_156 (by decide) (fun c_39 => ?_) (fun c_39 => ?_)
                    · rw [if_neg c_39] at hL_31
                      obtain ⟨se_31, hse_31⟩ : ∃ z : MO, z = mo_38 := ⟨_, rfl⟩
                      have hP : va_P (dC, dI) cls (wM cI cZ hm ma se_31) H := by rw [hse_31]; exact hP
                      have hD : va_D A (wM cI cZ hm ma se_31) := by rw [hse_31]; exact hD
                      have we_31 : f_Mo_choice_L134 K depth r_27 5000  mo_30 = some (.inr (0, se_31)) := by rw [hse_31]; exact hx_31.trans hL_31
                      have hl := lv_sub hl (l' := [(0, .ref hm), (1, .int depth), (2, .int r_1), (3, .int 0), (4, .int r_8), (5, .int r_27)]) [0, 1, 2, 3, 4, 5] rfl
                      rw [bndM_r we_31] at hL_5
                      refine lv_aload_n hx hb d_Mo_choice_179 rfl (lv_at hl 0 rfl) ?_
                      refine lv_iload_n hx hb d_Mo_choice_180 rfl (lv_at hl 2 rfl) ?_
                      refine lv_iload hx hb d_Mo_choice_181 (lv_at hl 5 rfl) ?_
                      refine mr_Vv (g := (f_Mo_hang se_31 r_1 r_27)) (As := [.int r_1, .int r_27]) (rest := []) ⟨hx, hb, hml, hown, hts0⟩ (m_Mo_hang l hlt dC dI cI cZ sa rk hm ma se_31 _ r_1 r_27 (fun z => hn_5 (hL_5.trans (bndM_n z)))) hP hD hK hS hA hC hZ hnt hlocks L_1115 L_1117 L_69 L_90 L_1118 k_Mo_hang ⟨(by show _ ≤ fr0 + 9; omega), (by show _ ≤ lo0 + 145; omega)⟩ rfl rfl hl.1 (Nat.le_of_ble_eq_true rfl) d_Mo_choice_183 rfl (fun q z => hX_5 q (hL_5.trans (bndM_l z))) (fun mo_40 H locs w_40 hP hD hS => ?_)
                      rw [bndM_r w_40] at hL_5
                      refine lv_goto (tgt := 35) hx hb d_Mo_choice_186 (by decide) ?_
                      exact ih_5 0 mo_40 _ _ ls hP hD hS (lv_sub hl [0, 1, 2, 3] rfl) hL_5
                    · rw [if_pos c_39] at hL_31
                      refine lv_aload_n hx hb d_Mo_choice_159 rfl (lv_at hl 0 rfl) ?_
                      refine lv_iload hx hb d_Mo_choice_160 (lv_at hl 5 rfl) ?_
                      refine lv_aload_n hx hb d_Mo_choice_162 rfl (lv_at hl 0 rfl) ?_
                      refine lv_iload_n hx hb d_Mo_choice_163 rfl (lv_at hl 1 rfl) ?_
                      refine lv_iconst (v := 1) hx hb d_Mo_choice_164 (by decide) ?_
                      refine lv_iadd hx hb d_Mo_choice_165 ?_
                      refine lv_aload_n hx hb d_Mo_choice_166 rfl (lv_at hl 0 rfl) ?_
                      refine va_get (D := (dC, dI)) (ci := 6) (v := .int (q_labels mo_38)) (C := R_Mo) (T := T_Mo) (N := 31) hx hb hts u_Mo hown hK hP 0 rfl rfl 22 (by decide) (hts _ L_943) (fun _ h9 => h9) rfl d_Mo_choice_167 ?_
                      refine mr_Si (g := (K 5 [(depth + 1), (q_labels mo_38)] mo_38)) (As := [.ref hm, .int (depth + 1), .int (q_labels mo_38)]) (rest := [.int r_27, .ref hm]) ⟨hx, hb, hml, hown, hts0⟩ (hR5 mo_38 _ (depth + 1) (q_labels mo_38) (fun z => hn_31 (hL_31.trans (bndM_n z)))) hP hD hK hS hA hC hZ hnt hlocks L_1122 L_1123 L_90 L_1124 k_Mo_statement ⟨(by show _ ≤ fr0 + 9; omega), (by show _ ≤ lo0 + 145; omega)⟩ rfl rfl hl.1 (Nat.le_of_ble_eq_true rfl) d_Mo_choice_170 rfl (fun q z => hX_31 q (hL_31.trans (bndM_l z))) (fun r_41 mo_41 H locs w_41 hP hD hS => ?_)
                      rw [bndM_r w_41] at hL_31
                      refine mr_Vv (g := (f_Mo_hang mo_41 r_27 r_41)) (As := [.int r_27, .int r_41]) (rest := []) ⟨hx, hb, hml, hown, hts0⟩ (m_Mo_hang l hlt dC dI cI cZ sa rk hm ma mo_41 _ r_27 r_41 (fun z => hn_31 (hL_31.trans (bndM_n z)))) hP hD hK hS hA hC hZ hnt hlocks L_1115 L_1117 L_69 L_90 L_1118 k_Mo_hang ⟨(by show _ ≤ fr0 + 9; omega), (by show _ ≤ lo0 + 145; omega)⟩ rfl rfl hl.1 (Nat.le_of_ble_eq_true rfl) d_Mo_choice_173 rfl (fun q z => hX_31 q (hL_31.trans (bndM_l z))) (fun mo_42 H locs w_42 hP hD hS => ?_)
                      rw [bndM_r w_42] at hL_31
                      refine lv_goto (tgt := 134) hx hb d_Mo_choice_176 (by decide) ?_
                      exact ih_31  mo_42 _ _ ls hP hD hS (lv_sub hl [0, 1, 2, 3, 4, 5] rfl) hL_31
            exact lp_31 5000  mo_30 _ _ ls hP hD hS (lv_sub hl [3, 4, 5, 1, 2, 0] rfl) hx_31.symm
        · rw [if_pos c_9] at hL_5
          refine lv_aload_n hx hb d_Mo_choice_56 rfl (lv_at hl 1 rfl) ?_
          refine lv_iconst (v := 5) hx hb d_Mo_choice_57 (by decide) ?_
          refine mr_Vi (g := (f_Mo_isWord mo_8 5)) (As := [.int 5]) (rest := []) ⟨hx, hb, hml, hown, hts0⟩ (m_Mo_isWord l hlt dC dI cI cZ sa rk hm ma mo_8 _ 5 (fun z => hn_5 (hL_5.trans (bndM_n z)))) hP hD hK hS hA hC hZ hnt hlocks L_1061 L_1063 L_62 L_90 L_1064 k_Mo_isWord ⟨(by show _ ≤ fr0 + 9; omega), (by show _ ≤ lo0 + 145; omega)⟩ rfl rfl hl.1 (Nat.le_of_ble_eq_true rfl) d_Mo_choice_58 rfl (fun q z => hX_5 q (hL_5.trans (bndM_l z))) (fun r_43 mo_43 H locs w_43 hP hD hS => ?_)
          rw [bndM_r w_43] at hL_5
          refine lv_if_eq (tgt := 68) hx hb d_Mo_choice_61 (by decide) (fun c_44 => ?_) (fun c_44 => ?_)
          · rw [if_pos c_44] at hL_5
            refine lv_aload_n hx hb d_Mo_choice_68 rfl (lv_at hl 1 rfl) ?_
            refine lv_aload_n hx hb d_Mo_choice_69 rfl (lv_at hl 1 rfl) ?_
            refine va_get (D := (dC, dI)) (ci := 6) (v := .int (q_at mo_43)) (C := R_Mo) (T := T_Mo) (N := 31) hx hb hts u_Mo hown hK hP 0 rfl rfl 6 (by decide) (hts _ L_927) (fun _ h9 => h9) rfl d_Mo_choice_70 ?_
            refine mr_Vv (g := (f_Mo_refuse mo_43 (q_at mo_43))) (As := [.int (q_at mo_43)]) (rest := []) ⟨hx, hb, hml, hown, hts0⟩ (m_Mo_refuse l hlt dC dI cI cZ sa rk hm ma mo_43 _ (q_at mo_43) ) hP hD hK hS hA hC hZ hnt hlocks L_1072 L_1074 L_64 L_90 L_1075 k_Mo_refuse ⟨(by show _ ≤ fr0 + 9; omega), (by show _ ≤ lo0 + 145; omega)⟩ rfl rfl hl.1 (Nat.le_of_ble_eq_true rfl) d_Mo_choice_73 rfl (fun q z => hX_5 q (hL_5.trans (bndM_l z))) (fun mo_45 H locs w_45 hP hD hS => ?_)
            rw [bndM_r w_45] at hL_5
            refine lv_iload_n hx hb d_Mo_choice_76 rfl (lv_at hl 4 rfl) ?_
            refine lv_if_ne (tgt := 85) hx hb d_Mo_choice_77 (by decide) (fun c_46 => ?_) (fun c_46 => ?_)
            · rw [if_neg c_46] at hL_5
              refine lv_iconst (v := 1) hx hb d_Mo_choice_85 (by decide) ?_
              refine lv_goto (tgt := 90) hx hb d_Mo_choice_86 (by decide) ?_
              refine lv_istore_n (lv' := [(3, .int 1), (4, .int r_8), (0, .ref hm), (1, .int depth), (2, .int r_1)]) hx hb d_Mo_choice_90 rfl hl (by decide) rfl (fun ls hl => ?_)
              refine lv_aload_n hx hb d_Mo_choice_91 rfl (lv_at hl 2 rfl) ?_
              refine lv_iload hx hb d_Mo_choice_92 (lv_at hl 1 rfl) ?_
              refine lv_if_eq (tgt := 102) hx hb d_Mo_choice_94 (by decide) (fun _ => ?_) (fun q9 => absurd c_9 q9)
              refine lv_bipush (v := 17) hx hb d_Mo_choice_102 (by decide) ?_
              refine mr_Vi (g := (f_Mo_plain mo_45 17)) (As := [.int 17]) (rest := []) ⟨hx, hb, hml, hown, hts0⟩ (m_Mo_plain l hlt dC dI cI cZ sa rk hm ma mo_45 _ 17 (fun z => hn_5 (hL_5.trans (bndM_n z)))) hP hD hK hS hA hC hZ hnt hlocks L_1128 L_1130 L_70 L_90 L_1131 k_Mo_plain ⟨(by show _ ≤ fr0 + 9; omega), (by show _ ≤ lo0 + 145; omega)⟩ rfl rfl hl.1 (Nat.le_of_ble_eq_true rfl) d_Mo_choice_104 rfl (fun q z => hX_5 q (hL_5.trans (bndM_l z))) (fun r_47 mo_47 H locs w_47 hP hD hS => ?_)
              rw [bndM_r w_47] at hL_5
              refine lv_istore (lv' := [(5, .int r_47), (3, .int 1), (4, .int r_8), (0, .ref hm), (1, .int depth), (2, .int r_1)]) hx hb d_Mo_choice_107 hl (by decide) rfl (fun ls hl => ?_)
              refine lv_iload hx hb d_Mo_choice_109 (lv_at hl 2 rfl) ?_
              refine lv_if_eq (tgt := 128) hx hb d_Mo_choice_111 (by decide) (fun _ => ?_) (fun q9 => absurd c_9 q9)
              refine lv_aload_n hx hb d_Mo_choice_128 rfl (lv_at hl 3 rfl) ?_
              refine lv_bipush (v := 70) hx hb d_Mo_choice_129 (by decide) ?_
              refine mr_Vv (g := (f_Mo_expect mo_47 70)) (As := [.int 70]) (rest := []) ⟨hx, hb, hml, hown, hts0⟩ (m_Mo_expect l hlt dC dI cI cZ sa rk hm ma mo_47 _ 70 (fun z => hn_5 (hL_5.trans (bndM_n z)))) hP hD hK hS hA hC hZ hnt hlocks L_1111 L_1113 L_68 L_90 L_1114 k_Mo_expect ⟨(by show _ ≤ fr0 + 9; omega), (by show _ ≤ lo0 + 145; omega)⟩ rfl rfl hl.1 (Nat.le_of_ble_eq_true rfl) d_Mo_choice_131 rfl (fun q z => hX_5 q (hL_5.trans (bndM_l z))) (fun mo_48 H locs w_48 hP hD hS => ?_)
              rw [bndM_r w_48] at hL_5
              obtain ⟨x_49, hx_49⟩ : ∃ z, f_Mo_choice_L134 K depth r_47 5000  mo_48 = z := ⟨_, rfl⟩
              have hn_49 : x_49 ≠ none := (fun z => hn_5 (hL_5.trans (bndM_n (hx_49.trans z))))
              have hX_49 : ∀ q, x_49 = some (.inl q) → (f_Mo_choice K mo depth) = some (.inl q) := (fun q z => hX_5 q (hL_5.trans (bndM_l (hx_49.trans z))))
              have lp_49 : ∀ (fu : Nat) (sx_49 : MO) (H : Heap) (locs : List Loc) (ls : Array Slot), va_P (dC, dI) cls (wM cI cZ hm ma sx_49) H → va_D A (wM cI cZ hm ma sx_49) → va_S A s.heap H locs → lv_has ls 6 [(0, .ref hm), (1, .int depth), (2, .int r_1), (3, .int 1), (4, .int r_8), (5, .int r_47)] → x_49 = f_Mo_choice_L134 K depth r_47 fu  sx_49 → W p l e (headSpec (wy y_Mo_choice c_Mo_choice 6 (some .int)) { frames := (fr0 + 9), cells := 1, slots := 6, locals := (lo0 + 145) }).room s m [.ref hm, .int depth].toArray below meth c H locs 0 0 (vx_MQ below (va_Qi (fun r (u : MO) => (f_Mo_choice K mo depth) = some (.inr (r, u))) (wB (dC, dI) cI cZ A (wM cI cZ hm ma)) A) (xM (dC, dI) cI cZ hm ma (f_Mo_choice K mo depth) A) [.ref hm, .int depth].toArray s (mcM (f_Mo_choice K mo depth)) (msM (f_Mo_choice K mo depth)) A) (F0 m 134 ls []) := by
                intro fu
                induction fu with
                | zero => intro  sx_49 H locs ls hP hD hS hl hL_49; exact absurd (hL_49.trans rfl) hn_49
                | succ fu_49 ih_49 =>
                  intro  sx_49 H locs ls hP hD hS hl hL_49
                  rw [f_Mo_choice_L134] at hL_49
                  refine lv_aload_n hx hb d_Mo_choice_134 rfl (lv_at hl 0 rfl) ?_
                  refine lv_bipush (v := 65) hx hb d_Mo_choice_135 (by decide) ?_
                  refine mr_Vi (g := (f_Mo_isSign sx_49 65)) (As := [.int 65]) (rest := []) ⟨hx, hb, hml, hown, hts0⟩ (m_Mo_isSign l hlt dC dI cI cZ sa rk hm ma sx_49 _ 65 (fun z => hn_49 (hL_49.trans (bndM_n z)))) hP hD hK hS hA hC hZ hnt hlocks L_1053 L_1055 L_60 L_90 L_1056 k_Mo_isSign ⟨(by show _ ≤ fr0 + 9; omega), (by show _ ≤ lo0 + 145; omega)⟩ rfl rfl hl.1 (Nat.le_of_ble_eq_true rfl) d_Mo_choice_137 rfl (fun q z => hX_49 q (hL_49.trans (bndM_l z))) (fun r_50 mo_50 H locs w_50 hP hD hS => ?_)
                  rw [bndM_r w_50] at hL_49
                  refine lv_if_ne (tgt := 179) hx hb d_Mo_choice_140 (by decide) (fun c_51 => ?_) (fun c_51 => ?_)
                  · rw [if_neg c_51] at hL_49
                    obtain ⟨se_49, hse_49⟩ : ∃ z : MO, z = mo_50 := ⟨_, rfl⟩
                    have hP : va_P (dC, dI) cls (wM cI cZ hm ma se_49) H := by rw [hse_49]; exact hP
                    have hD : va_D A (wM cI cZ hm ma se_49) := by rw [hse_49]; exact hD
                    have we_49 : f_Mo_choice_L134 K depth r_47 5000  mo_48 = some (.inr (0, se_49)) := by rw [hse_49]; exact hx_49.trans hL_49
                    have hl := lv_sub hl (l' := [(0, .ref hm), (1, .int depth), (2, .int r_1), (3, .int 1), (4, .int r_8), (5, .int r_47)]) [0, 1, 2, 3, 4, 5] rfl
                    rw [bndM_r we_49] at hL_5
                    refine lv_aload_n hx hb d_Mo_choice_179 rfl (lv_at hl 0 rfl) ?_
                    refine lv_iload_n hx hb d_Mo_choice_180 rfl (lv_at hl 2 rfl) ?_
                    refine lv_iload hx hb d_Mo_choice_181 (lv_at hl 5 rfl) ?_
                    refine mr_Vv (g := (f_Mo_hang se_49 r_1 r_47)) (As := [.int r_1, .int r_47]) (rest := []) ⟨hx, hb, hml, hown, hts0⟩ (m_Mo_hang l hlt dC dI cI cZ sa rk hm ma se_49 _ r_1 r_47 (fun z => hn_5 (hL_5.trans (bndM_n z)))) hP hD hK hS hA hC hZ hnt hlocks L_1115 L_1117 L_69 L_90 L_1118 k_Mo_hang ⟨(by show _ ≤ fr0 + 9; omega), (by show _ ≤ lo0 + 145; omega)⟩ rfl rfl hl.1 (Nat.le_of_ble_eq_true rfl) d_Mo_choice_183 rfl (fun q z => hX_5 q (hL_5.trans (bndM_l z))) (fun mo_52 H locs w_52 hP hD hS => ?_)
                    rw [bndM_r w_52] at hL_5
                    refine lv_goto (tgt := 35) hx hb d_Mo_choice_186 (by decide) ?_
                    exact ih_5 1 mo_52 _ _ ls hP hD hS (lv_sub hl [0, 1, 2, 3] rfl) hL_5
                  · rw [if_pos c_51] at hL_49
                    refine lv_aload_n hx hb d_Mo_choice_143 rfl (lv_at hl 0 rfl) ?_
                    refine lv_iconst (v := 1) hx hb d_Mo_choice_144 (by decide) ?_
                    refine mr_Vi (g := (f_Mo_isWord mo_50 1)) (As := [.int 1]) (rest := []) ⟨hx, hb, hml, hown, hts0⟩ (m_Mo_isWord l hlt dC dI cI cZ sa rk hm ma mo_50 _ 1 (fun z => hn_49 (hL_49.trans (bndM_n z)))) hP hD hK hS hA hC hZ hnt hlocks L_1061 L_1063 L_62 L_90 L_1064 k_Mo_isWord ⟨(by show _ ≤ fr0 + 9; omega), (by show _ ≤ lo0 + 145; omega)⟩ rfl rfl hl.1 (Nat.le_of_ble_eq_true rfl) d_Mo_choice_145 rfl (fun q z => hX_49 q (hL_49.trans (bndM_l z))) (fun r_53 mo_53 H locs w_53 hP hD hS => ?_)
                    rw [bndM_r w_53] at hL_49
                    refine lv_if_ne (tgt := 179) hx hb d_Mo_choice_148 (by decide) (fun c_54 => ?_) (fun c_54 => ?_)
                    · rw [if_neg c_54] at hL_49
                      obtain ⟨se_49, hse_49⟩ : ∃ z : MO, z = mo_53 := ⟨_, rfl⟩
                      have hP : va_P (dC, dI) cls (wM cI cZ hm ma se_49) H := by rw [hse_49]; exact hP
                      have hD : va_D A (wM cI cZ hm ma se_49) := by rw [hse_49]; exact hD
                      have we_49 : f_Mo_choice_L134 K depth r_47 5000  mo_48 = some (.inr (0, se_49)) := by rw [hse_49]; exact hx_49.trans hL_49
                      have hl := lv_sub hl (l' := [(0, .ref hm), (1, .int depth), (2, .int r_1), (3, .int 1), (4, .int r_8), (5, .int r_47)]) [0, 1, 2, 3, 4, 5] rfl
                      rw [bndM_r we_49] at hL_5
                      refine lv_aload_n hx hb d_Mo_choice_179 rfl (lv_at hl 0 rfl) ?_
                      refine lv_iload_n hx hb d_Mo_choice_180 rfl (lv_at hl 2 rfl) ?_
                      refine lv_iload hx hb d_Mo_choice_181 (lv_at hl 5 rfl) ?_
                      refine mr_Vv (g := (f_Mo_hang se_49 r_1 r_47)) (As := [.int r_1, .int r_47]) (rest := []) ⟨hx, hb, hml, hown, hts0⟩ (m_Mo_hang l hlt dC dI cI cZ sa rk hm ma se_49 _ r_1 r_47 (fun z => hn_5 (hL_5.trans (bndM_n z)))) hP hD hK hS hA hC hZ hnt hlocks L_1115 L_1117 L_69 L_90 L_1118 k_Mo_hang ⟨(by show _ ≤ fr0 + 9; omega), (by show _ ≤ lo0 + 145; omega)⟩ rfl rfl hl.1 (Nat.le_of_ble_eq_true rfl) d_Mo_choice_183 rfl (fun q z => hX_5 q (hL_5.trans (bndM_l z))) (fun mo_55 H locs w_55 hP hD hS => ?_)
                      rw [bndM_r w_55] at hL_5
                      refine lv_goto (tgt := 35) hx hb d_Mo_choice_186 (by decide) ?_
                      exact ih_5 1 mo_55 _ _ ls hP hD hS (lv_sub hl [0, 1, 2, 3] rfl) hL_5
                    · rw [if_pos c_54] at hL_49
                      refine lv_aload_n hx hb d_Mo_choice_151 rfl (lv_at hl 0 rfl) ?_
                      refine lv_iconst (v := 5) hx hb d_Mo_choice_152 (by decide) ?_
                      refine mr_Vi (g := (f_Mo_isWord mo_53 5)) (As := [.int 5]) (rest := []) ⟨hx, hb, hml, hown, hts0⟩ (m_Mo_isWord l hlt dC dI cI cZ sa rk hm ma mo_53 _ 5 (fun z => hn_49 (hL_49.trans (bndM_n z)))) hP hD hK hS hA hC hZ hnt hlocks L_1061 L_1063 L_62 L_90 L_1064 k_Mo_isWord ⟨(by show _ ≤ fr0 + 9; omega), (by show _ ≤ lo0 + 145; omega)⟩ rfl rfl hl.1 (Nat.le_of_ble_eq_true rfl) d_Mo_choice_153 rfl (fun q z => hX_49 q (hL_49.trans (bndM_l z))) (fun r_56 mo_56 H locs w_56 hP hD hS => ?_)
                      rw [bndM_r w_56] at hL_49
                      refine lv_if_ne (tgt := 179) hx hb d_Mo_choice_156 (by decide) (fun c_57 => ?_) (fun c_57 => ?_)
                      · rw [if_neg c_57] at hL_49
                        obtain ⟨se_49, hse_49⟩ : ∃ z : MO, z = mo_56 := ⟨_, rfl⟩
                        have hP : va_P (dC, dI) cls (wM cI cZ hm ma se_49) H := by rw [hse_49]; exact hP
                        have hD : va_D A (wM cI cZ hm ma se_49) := by rw [hse_49]; exact hD
                        have we_49 : f_Mo_choice_L134 K depth r_47 5000  mo_48 = some (.inr (0, se_49)) := by rw [hse_49]; exact hx_49.trans hL_49
                        have hl := lv_sub hl (l' := [(0, .ref hm), (1, .int depth), (2, .int r_1), (3, .int 1), (4, .int r_8), (5, .int r_47)]) [0, 1, 2, 3, 4, 5] rfl
                        rw [bndM_r we_49] at hL_5
                        refine lv_aload_n hx hb d_Mo_choice_179 rfl (lv_at hl 0 rfl) ?_
                        refine lv_iload_n hx hb d_Mo_choice_180 rfl (lv_at hl 2 rfl) ?_
                        refine lv_iload hx hb d_Mo_choice_181 (lv_at hl 5 rfl) ?_
                        refine mr_Vv (g := (f_Mo_hang se_49 r_1 r_47)) (As := [.int r_1, .int r_47]) (rest := []) ⟨hx, hb, hml, hown, hts0⟩ (m_Mo_hang l hlt dC dI cI cZ sa rk hm ma se_49 _ r_1 r_47 (fun z => hn_5 (hL_5.trans (bndM_n z)))) hP hD hK hS hA hC hZ hnt hlocks L_1115 L_1117 L_69 L_90 L_1118 k_Mo_hang ⟨(by show _ ≤ fr0 + 9; omega), (by show _ ≤ lo0 + 145; omega)⟩ rfl rfl hl.1 (Nat.le_of_ble_eq_true rfl) d_Mo_choice_183 rfl (fun q z => hX_5 q (hL_5.trans (bndM_l z))) (fun mo_58 H locs w_58 hP hD hS => ?_)
                        rw [bndM_r w_58] at hL_5
                        refine lv_goto (tgt := 35) hx hb d_Mo_choice_186 (by decide) ?_
                        exact ih_5 1 mo_58 _ _ ls hP hD hS (lv_sub hl [0, 1, 2, 3] rfl) hL_5
                      · rw [if_pos c_57] at hL_49
                        refine lv_aload_n hx hb d_Mo_choice_159 rfl (lv_at hl 0 rfl) ?_
                        refine lv_iload hx hb d_Mo_choice_160 (lv_at hl 5 rfl) ?_
                        refine lv_aload_n hx hb d_Mo_choice_162 rfl (lv_at hl 0 rfl) ?_
                        refine lv_iload_n hx hb d_Mo_choice_163 rfl (lv_at hl 1 rfl) ?_
                        refine lv_iconst (v := 1) hx hb d_Mo_choice_164 (by decide) ?_
                        refine lv_iadd hx hb d_Mo_choice_165 ?_
                        refine lv_aload_n hx hb d_Mo_choice_166 rfl (lv_at hl 0 rfl) ?_
                        refine va_get (D := (dC, dI)) (ci := 6) (v := .int (q_labels mo_56)) (C := R_Mo) (T := T_Mo) (N := 31) hx hb hts u_Mo hown hK hP 0 rfl rfl 22 (by decide) (hts _ L_943) (fun _ h9 => h9) rfl d_Mo_choice_167 ?_
                        refine mr_Si (g := (K 5 [(depth + 1), (q_labels mo_56)] mo_56)) (As := [.ref hm, .int (depth + 1), .int (q_labels mo_56)]) (rest := [.int r_47, .ref hm]) ⟨hx, hb, hml, hown, hts0⟩ (hR5 mo_56 _ (depth + 1) (q_labels mo_56) (fun z => hn_49 (hL_49.trans (bndM_n z)))) hP hD hK hS hA hC hZ hnt hlocks L_1122 L_1123 L_90 L_1124 k_Mo_statement ⟨(by show _ ≤ fr0 + 9; omega), (by show _ ≤ lo0 + 145; omega)⟩ rfl rfl hl.1 (Nat.le_of_ble_eq_true rfl) d_Mo_choice_170 rfl (fun q z => hX_49 q (hL_49.trans (bndM_l z))) (fun r_59 mo_59 H locs w_59 hP hD hS => ?_)
                        rw [bndM_r w_59] at hL_49
                        refine mr_Vv (g := (f_Mo_hang mo_59 r_47 r_59)) (As := [.int r_47, .int r_59]) (rest := []) ⟨hx, hb, hml, hown, hts0⟩ (m_Mo_hang l hlt dC dI cI cZ sa rk hm ma mo_59 _ r_47 r_59 (fun z => hn_49 (hL_49.trans (bndM_n z)))) hP hD hK hS hA hC hZ hnt hlocks L_1115 L_1117 L_69 L_90 L_1118 k_Mo_hang ⟨(by show _ ≤ fr0 + 9; omega), (by show _ ≤ lo0 + 145; omega)⟩ rfl rfl hl.1 (Nat.le_of_ble_eq_true rfl) d_Mo_choice_173 rfl (fun q z => hX_49 q (hL_49.trans (bndM_l z))) (fun mo_60 H locs w_60 hP hD hS => ?_)
                        rw [bndM_r w_60] at hL_49
                        refine lv_goto (tgt := 134) hx hb d_Mo_choice_176 (by decide) ?_
                        exact ih_49  mo_60 _ _ ls hP hD hS (lv_sub hl [0, 1, 2, 3, 4, 5] rfl) hL_49
              exact lp_49 5000  mo_48 _ _ ls hP hD hS (lv_sub hl [3, 4, 5, 1, 2, 0] rfl) hx_49.symm
            · rw [if_pos c_46] at hL_5
              refine lv_iload hx hb d_Mo_choice_80 (lv_at hl 0 rfl) ?_
              refine lv_if_ne (tgt := 89) hx hb d_Mo_choice_82 (by decide) (fun q9 => absurd c_9 q9) (fun _ => ?_)
              refine lv_iconst (v := 1) hx hb d_Mo_choice_85 (by decide) ?_
              refine lv_goto (tgt := 90) hx hb d_Mo_choice_86 (by decide) ?_
              refine lv_istore_n (lv' := [(3, .int 1), (4, .int r_8), (0, .ref hm), (1, .int depth), (2, .int r_1)]) hx hb d_Mo_choice_90 rfl hl (by decide) rfl (fun ls hl => ?_)
              refine lv_aload_n hx hb d_Mo_choice_91 rfl (lv_at hl 2 rfl) ?_
              refine lv_iload hx hb d_Mo_choice_92 (lv_at hl 1 rfl) ?_
              refine lv_if_eq (tgt := 102) hx hb d_Mo_choice_94 (by decide) (fun _ => ?_) (fun q9 => absurd c_9 q9)
              refine lv_bipush (v := 17) hx hb d_Mo_choice_102 (by decide) ?_
              refine mr_Vi (g := (f_Mo_plain mo_45 17)) (As := [.int 17]) (rest := []) ⟨hx, hb, hml, hown, hts0⟩ (m_Mo_plain l hlt dC dI cI cZ sa rk hm ma mo_45 _ 17 (fun z => hn_5 (hL_5.trans (bndM_n z)))) hP hD hK hS hA hC hZ hnt hlocks L_1128 L_1130 L_70 L_90 L_1131 k_Mo_plain ⟨(by show _ ≤ fr0 + 9; omega), (by show _ ≤ lo0 + 145; omega)⟩ rfl rfl hl.1 (Nat.le_of_ble_eq_true rfl) d_Mo_choice_104 rfl (fun q z => hX_5 q (hL_5.trans (bndM_l z))) (fun r_61 mo_61 H locs w_61 hP hD hS => ?_)
              rw [bndM_r w_61] at hL_5
              refine lv_istore (lv' := [(5, .int r_61), (3, .int 1), (4, .int r_8), (0, .ref hm), (1, .int depth), (2, .int r_1)]) hx hb d_Mo_choice_107 hl (by decide) rfl (fun ls hl => ?_)
              refine lv_iload hx hb d_Mo_choice_109 (lv_at hl 2 rfl) ?_
              refine lv_if_eq (tgt := 128) hx hb d_Mo_choice_111 (by decide) (fun _ => ?_) (fun q9 => absurd c_9 q9)
              refine lv_aload_n hx hb d_Mo_choice_128 rfl (lv_at hl 3 rfl) ?_
              refine lv_bipush (v := 70) hx hb d_Mo_choice_129 (by decide) ?_
              refine mr_Vv (g := (f_Mo_expect mo_61 70)) (As := [.int 70]) (rest := []) ⟨hx, hb, hml, hown, hts0⟩ (m_Mo_expect l hlt dC dI cI cZ sa rk hm ma mo_61 _ 70 (fun z => hn_5 (hL_5.trans (bndM_n z)))) hP hD hK hS hA hC hZ hnt hlocks L_1111 L_1113 L_68 L_90 L_1114 k_Mo_expect ⟨(by show _ ≤ fr0 + 9; omega), (by show _ ≤ lo0 + 145; omega)⟩ rfl rfl hl.1 (Nat.le_of_ble_eq_true rfl) d_Mo_choice_131 rfl (fun q z => hX_5 q (hL_5.trans (bndM_l z))) (fun mo_62 H locs w_62 hP hD hS => ?_)
              rw [bndM_r w_62] at hL_5
              obtain ⟨x_63, hx_63⟩ : ∃ z, f_Mo_choice_L134 K depth r_61 5000  mo_62 = z := ⟨_, rfl⟩
              have hn_63 : x_63 ≠ none := (fun z => hn_5 (hL_5.trans (bndM_n (hx_63.trans z))))
              have hX_63 : ∀ q, x_63 = some (.inl q) → (f_Mo_choice K mo depth) = some (.inl q) := (fun q z => hX_5 q (hL_5.trans (bndM_l (hx_63.trans z))))
              have lp_63 : ∀ (fu : Nat) (sx_63 : MO) (H : Heap) (locs : List Loc) (ls : Array Slot), va_P (dC, dI) cls (wM cI cZ hm ma sx_63) H → va_D A (wM cI cZ hm ma sx_63) → va_S A s.heap H locs → lv_has ls 6 [(0, .ref hm), (1, .int depth), (2, .int r_1), (3, .int 1), (4, .int r_8), (5, .int r_61)] → x_63 = f_Mo_choice_L134 K depth r_61 fu  sx_63 → W p l e (headSpec (wy y_Mo_choice c_Mo_choice 6 (some .int)) { frames := (fr0 + 9), cells := 1, slots := 6, locals := (lo0 + 145) }).room s m [.ref hm, .int depth].toArray below meth c H locs 0 0 (vx_MQ below (va_Qi (fun r (u : MO) => (f_Mo_choice K mo depth) = some (.inr (r, u))) (wB (dC, dI) cI cZ A (wM cI cZ hm ma)) A) (xM (dC, dI) cI cZ hm ma (f_Mo_choice K mo depth) A) [.ref hm, .int depth].toArray s (mcM (f_Mo_choice K mo depth)) (msM (f_Mo_choice K mo depth)) A) (F0 m 134 ls []) := by
                intro fu
                induction fu with
                | zero => intro  sx_63 H locs ls hP hD hS hl hL_63; exact absurd (hL_63.trans rfl) hn_63
                | succ fu_63 ih_63 =>
                  intro  sx_63 H locs ls hP hD hS hl hL_63
                  rw [f_Mo_choice_L134] at hL_63
                  refine lv_aload_n hx hb d_Mo_choice_134 rfl (lv_at hl 0 rfl) ?_
                  refine lv_bipush (v := 65) hx hb d_Mo_choice_135 (by decide) ?_
                  refine mr_Vi (g := (f_Mo_isSign sx_63 65)) (As := [.int 65]) (rest := []) ⟨hx, hb, hml, hown, hts0⟩ (m_Mo_isSign l hlt dC dI cI cZ sa rk hm ma sx_63 _ 65 (fun z => hn_63 (hL_63.trans (bndM_n z)))) hP hD hK hS hA hC hZ hnt hlocks L_1053 L_1055 L_60 L_90 L_1056 k_Mo_isSign ⟨(by show _ ≤ fr0 + 9; omega), (by show _ ≤ lo0 + 145; omega)⟩ rfl rfl hl.1 (Nat.le_of_ble_eq_true rfl) d_Mo_choice_137 rfl (fun q z => hX_63 q (hL_63.trans (bndM_l z))) (fun r_64 mo_64 H locs w_64 hP hD hS => ?_)
                  rw [bndM_r w_64] at hL_63
                  refine lv_if_ne (tgt := 179) hx hb d_Mo_choice_140 (by decide) (fun c_65 => ?_) (fun c_65 => ?_)
                  · rw [if_neg c_65] at hL_63
                    obtain ⟨se_63, hse_63⟩ : ∃ z : MO, z = mo_64 := ⟨_, rfl⟩
                    have hP : va_P (dC, dI) cls (wM cI cZ hm ma se_63) H := by rw [hse_63]; exact hP
                    have hD : va_D A (wM cI cZ hm ma se_63) := by rw [hse_63]; exact hD
                    have we_63 : f_Mo_choice_L134 K depth r_61 5000  mo_62 = some (.inr (0, se_63)) := by rw [hse_63]; exact hx_63.trans hL_63
                    have hl := lv_sub hl (l' := [(0, .ref hm), (1, .int depth), (2, .int r_1), (3, .int 1), (4, .int r_8), (5, .int r_61)]) [0, 1, 2, 3, 4, 5] rfl
                    rw [bndM_r we_63] at hL_5
                    refine lv_aload_n hx hb d_Mo_choice_179 rfl (lv_at hl 0 rfl) ?_
                    refine lv_iload_n hx hb d_Mo_choice_180 rfl (lv_at hl 2 rfl) ?_
                    refine lv_iload hx hb d_Mo_choice_181 (lv_at hl 5 rfl) ?_
                    refine mr_Vv (g := (f_Mo_hang se_63 r_1 r_61)) (As := [.int r_1, .int r_61]) (rest := []) ⟨hx, hb, hml, hown, hts0⟩ (m_Mo_hang l hlt dC dI cI cZ sa rk hm ma se_63 _ r_1 r_61 (fun z => hn_5 (hL_5.trans (bndM_n z)))) hP hD hK hS hA hC hZ hnt hlocks L_1115 L_1117 L_69 L_90 L_1118 k_Mo_hang ⟨(by show _ ≤ fr0 + 9; omega), (by show _ ≤ lo0 + 145; omega)⟩ rfl rfl hl.1 (Nat.le_of_ble_eq_true rfl) d_Mo_choice_183 rfl (fun q z => hX_5 q (hL_5.trans (bndM_l z))) (fun mo_66 H locs w_66 hP hD hS => ?_)
                    rw [bndM_r w_66] at hL_5
                    refine lv_goto (tgt := 35) hx hb d_Mo_choice_186 (by decide) ?_
                    exact ih_5 1 mo_66 _ _ ls hP hD hS (lv_sub hl [0, 1, 2, 3] rfl) hL_5
                  · rw [if_pos c_65] at hL_63
                    refine lv_aload_n hx hb d_Mo_choice_143 rfl (lv_at hl 0 rfl) ?_
                    refine lv_iconst (v := 1) hx hb d_Mo_choice_144 (by decide) ?_
                    refine mr_Vi (g := (f_Mo_isWord mo_64 1)) (As := [.int 1]) (rest := []) ⟨hx, hb, hml, hown, hts0⟩ (m_Mo_isWord l hlt dC dI cI cZ sa rk hm ma mo_64 _ 1 (fun z => hn_63 (hL_63.trans (bndM_n z)))) hP hD hK hS hA hC hZ hnt hlocks L_1061 L_1063 L_62 L_90 L_1064 k_Mo_isWord ⟨(by show _ ≤ fr0 + 9; omega), (by show _ ≤ lo0 + 145; omega)⟩ rfl rfl hl.1 (Nat.le_of_ble_eq_true rfl) d_Mo_choice_145 rfl (fun q z => hX_63 q (hL_63.trans (bndM_l z))) (fun r_67 mo_67 H locs w_67 hP hD hS => ?_)
                    rw [bndM_r w_67] at hL_63
                    refine lv_if_ne (tgt := 179) hx hb d_Mo_choice_148 (by decide) (fun c_68 => ?_) (fun c_68 => ?_)
                    · rw [if_neg c_68] at hL_63
                      obtain ⟨se_63, hse_63⟩ : ∃ z : MO, z = mo_67 := ⟨_, rfl⟩
                      have hP : va_P (dC, dI) cls (wM cI cZ hm ma se_63) H := by rw [hse_63]; exact hP
                      have hD : va_D A (wM cI cZ hm ma se_63) := by rw [hse_63]; exact hD
                      have we_63 : f_Mo_choice_L134 K depth r_61 5000  mo_62 = some (.inr (0, se_63)) := by rw [hse_63]; exact hx_63.trans hL_63
                      have hl := lv_sub hl (l' := [(0, .ref hm), (1, .int depth), (2, .int r_1), (3, .int 1), (4, .int r_8), (5, .int r_61)]) [0, 1, 2, 3, 4, 5] rfl
                      rw [bndM_r we_63] at hL_5
                      refine lv_aload_n hx hb d_Mo_choice_179 rfl (lv_at hl 0 rfl) ?_
                      refine lv_iload_n hx hb d_Mo_choice_180 rfl (lv_at hl 2 rfl) ?_
                      refine lv_iload hx hb d_Mo_choice_181 (lv_at hl 5 rfl) ?_
                      refine mr_Vv (g := (f_Mo_hang se_63 r_1 r_61)) (As := [.int r_1, .int r_61]) (rest := []) ⟨hx, hb, hml, hown, hts0⟩ (m_Mo_hang l hlt dC dI cI cZ sa rk hm ma se_63 _ r_1 r_61 (fun z => hn_5 (hL_5.trans (bndM_n z)))) hP hD hK hS hA hC hZ hnt hlocks L_1115 L_1117 L_69 L_90 L_1118 k_Mo_hang ⟨(by show _ ≤ fr0 + 9; omega), (by show _ ≤ lo0 + 145; omega)⟩ rfl rfl hl.1 (Nat.le_of_ble_eq_true rfl) d_Mo_choice_183 rfl (fun q z => hX_5 q (hL_5.trans (bndM_l z))) (fun mo_69 H locs w_69 hP hD hS => ?_)
                      rw [bndM_r w_69] at hL_5
                      refine lv_goto (tgt := 35) hx hb d_Mo_choice_186 (by decide) ?_
                      exact ih_5 1 mo_69 _ _ ls hP hD hS (lv_sub hl [0, 1, 2, 3] rfl) hL_5
                    · rw [if_pos c_68] at hL_63
                      refine lv_aload_n hx hb d_Mo_choice_151 rfl (lv_at hl 0 rfl) ?_
                      refine lv_iconst (v := 5) hx hb d_Mo_choice_152 (by decide) ?_
                      refine mr_Vi (g := (f_Mo_isWord mo_67 5)) (As := [.int 5]) (rest := []) ⟨hx, hb, hml, hown, hts0⟩ (m_Mo_isWord l hlt dC dI cI cZ sa rk hm ma mo_67 _ 5 (fun z => hn_63 (hL_63.trans (bndM_n z)))) hP hD hK hS hA hC hZ hnt hlocks L_1061 L_1063 L_62 L_90 L_1064 k_Mo_isWord ⟨(by show _ ≤ fr0 + 9; omega), (by show _ ≤ lo0 + 145; omega)⟩ rfl rfl hl.1 (Nat.le_of_ble_eq_true rfl) d_Mo_choice_153 rfl (fun q z => hX_63 q (hL_63.trans (bndM_l z))) (fun r_70 mo_70 H locs w_70 hP hD hS => ?_)
                      rw [bndM_r w_70] at hL_63
                      refine lv_if_ne (tgt := 179) hx hb d_Mo_choice_156 (by decide) (fun c_71 => ?_) (fun c_71 => ?_)
                      · rw [if_neg c_71] at hL_63
                        obtain ⟨se_63, hse_63⟩ : ∃ z : MO, z = mo_70 := ⟨_, rfl⟩
                        have hP : va_P (dC, dI) cls (wM cI cZ hm ma se_63) H := by rw [hse_63]; exact hP
                        have hD : va_D A (wM cI cZ hm ma se_63) := by rw [hse_63]; exact hD
                        have we_63 : f_Mo_choice_L134 K depth r_61 5000  mo_62 = some (.inr (0, se_63)) := by rw [hse_63]; exact hx_63.trans hL_63
                        have hl := lv_sub hl (l' := [(0, .ref hm), (1, .int depth), (2, .int r_1), (3, .int 1), (4, .int r_8), (5, .int r_61)]) [0, 1, 2, 3, 4, 5] rfl
                        rw [bndM_r we_63] at hL_5
                        refine lv_aload_n hx hb d_Mo_choice_179 rfl (lv_at hl 0 rfl) ?_
                        refine lv_iload_n hx hb d_Mo_choice_180 rfl (lv_at hl 2 rfl) ?_
                        refine lv_iload hx hb d_Mo_choice_181 (lv_at hl 5 rfl) ?_
                        refine mr_Vv (g := (f_Mo_hang se_63 r_1 r_61)) (As := [.int r_1, .int r_61]) (rest := []) ⟨hx, hb, hml, hown, hts0⟩ (m_Mo_hang l hlt dC dI cI cZ sa rk hm ma se_63 _ r_1 r_61 (fun z => hn_5 (hL_5.trans (bndM_n z)))) hP hD hK hS hA hC hZ hnt hlocks L_1115 L_1117 L_69 L_90 L_1118 k_Mo_hang ⟨(by show _ ≤ fr0 + 9; omega), (by show _ ≤ lo0 + 145; omega)⟩ rfl rfl hl.1 (Nat.le_of_ble_eq_true rfl) d_Mo_choice_183 rfl (fun q z => hX_5 q (hL_5.trans (bndM_l z))) (fun mo_72 H locs w_72 hP hD hS => ?_)
                        rw [bndM_r w_72] at hL_5
                        refine lv_goto (tgt := 35) hx hb d_Mo_choice_186 (by decide) ?_
                        exact ih_5 1 mo_72 _ _ ls hP hD hS (lv_sub hl [0, 1, 2, 3] rfl) hL_5
                      · rw [if_pos c_71] at hL_63
                        refine lv_aload_n hx hb d_Mo_choice_159 rfl (lv_at hl 0 rfl) ?_
                        refine lv_iload hx hb d_Mo_choice_160 (lv_at hl 5 rfl) ?_
                        refine lv_aload_n hx hb d_Mo_choice_162 rfl (lv_at hl 0 rfl) ?_
                        refine lv_iload_n hx hb d_Mo_choice_163 rfl (lv_at hl 1 rfl) ?_
                        refine lv_iconst (v := 1) hx hb d_Mo_choice_164 (by decide) ?_
                        refine lv_iadd hx hb d_Mo_choice_165 ?_
                        refine lv_aload_n hx hb d_Mo_choice_166 rfl (lv_at hl 0 rfl) ?_
                        refine va_get (D := (dC, dI)) (ci := 6) (v := .int (q_labels mo_70)) (C := R_Mo) (T := T_Mo) (N := 31) hx hb hts u_Mo hown hK hP 0 rfl rfl 22 (by decide) (hts _ L_943) (fun _ h9 => h9) rfl d_Mo_choice_167 ?_
                        refine mr_Si (g := (K 5 [(depth + 1), (q_labels mo_70)] mo_70)) (As := [.ref hm, .int (depth + 1), .int (q_labels mo_70)]) (rest := [.int r_61, .ref hm]) ⟨hx, hb, hml, hown, hts0⟩ (hR5 mo_70 _ (depth + 1) (q_labels mo_70) (fun z => hn_63 (hL_63.trans (bndM_n z)))) hP hD hK hS hA hC hZ hnt hlocks L_1122 L_1123 L_90 L_1124 k_Mo_statement ⟨(by show _ ≤ fr0 + 9; omega), (by show _ ≤ lo0 + 145; omega)⟩ rfl rfl hl.1 (Nat.le_of_ble_eq_true rfl) d_Mo_choice_170 rfl (fun q z => hX_63 q (hL_63.trans (bndM_l z))) (fun r_73 mo_73 H locs w_73 hP hD hS => ?_)
                        rw [bndM_r w_73] at hL_63
                        refine mr_Vv (g := (f_Mo_hang mo_73 r_61 r_73)) (As := [.int r_61, .int r_73]) (rest := []) ⟨hx, hb, hml, hown, hts0⟩ (m_Mo_hang l hlt dC dI cI cZ sa rk hm ma mo_73 _ r_61 r_73 (fun z => hn_63 (hL_63.trans (bndM_n z)))) hP hD hK hS hA hC hZ hnt hlocks L_1115 L_1117 L_69 L_90 L_1118 k_Mo_hang ⟨(by show _ ≤ fr0 + 9; omega), (by show _ ≤ lo0 + 145; omega)⟩ rfl rfl hl.1 (Nat.le_of_ble_eq_true rfl) d_Mo_choice_173 rfl (fun q z => hX_63 q (hL_63.trans (bndM_l z))) (fun mo_74 H locs w_74 hP hD hS => ?_)
                        rw [bndM_r w_74] at hL_63
                        refine lv_goto (tgt := 134) hx hb d_Mo_choice_176 (by decide) ?_
                        exact ih_63  mo_74 _ _ ls hP hD hS (lv_sub hl [0, 1, 2, 3, 4, 5] rfl) hL_63
              exact lp_63 5000  mo_62 _ _ ls hP hD hS (lv_sub hl [3, 4, 5, 1, 2, 0] rfl) hx_63.symm
          · rw [if_neg c_44] at hL_5
            refine lv_iload_n hx hb d_Mo_choice_64 rfl (lv_at hl 4 rfl) ?_
            refine lv_if_eq (tgt := 76) hx hb d_Mo_choice_65 (by decide) (fun c_75 => ?_) (fun c_75 => ?_)
            · rw [if_pos c_75] at hL_5
              refine lv_iload_n hx hb d_Mo_choice_76 rfl (lv_at hl 4 rfl) ?_
              refine lv_if_ne (tgt := 85) hx hb d_Mo_choice_77 (by decide) (fun q9 => absurd c_75 q9) (fun _ => ?_)
              refine lv_iload hx hb d_Mo_choice_80 (lv_at hl 0 rfl) ?_
              refine lv_if_ne (tgt := 89) hx hb d_Mo_choice_82 (by decide) (fun q9 => absurd c_9 q9) (fun _ => ?_)
              refine lv_iconst (v := 1) hx hb d_Mo_choice_85 (by decide) ?_
              refine lv_goto (tgt := 90) hx hb d_Mo_choice_86 (by decide) ?_
              refine lv_istore_n (lv' := [(3, .int 1), (4, .int r_8), (0, .ref hm), (1, .int depth), (2, .int r_1)]) hx hb d_Mo_choice_90 rfl hl (by decide) rfl (fun ls hl => ?_)
              refine lv_aload_n hx hb d_Mo_choice_91 rfl (lv_at hl 2 rfl) ?_
              refine lv_iload hx hb d_Mo_choice_92 (lv_at hl 1 rfl) ?_
              refine lv_if_eq (tgt := 102) hx hb d_Mo_choice_94 (by decide) (fun _ => ?_) (fun q9 => absurd c_9 q9)
              refine lv_bipush (v := 17) hx hb d_Mo_choice_102 (by decide) ?_
              refine mr_Vi (g := (f_Mo_plain mo_43 17)) (As := [.int 17]) (rest := []) ⟨hx, hb, hml, hown, hts0⟩ (m_Mo_plain l hlt dC dI cI cZ sa rk hm ma mo_43 _ 17 (fun z => hn_5 (hL_5.trans (bndM_n z)))) hP hD hK hS hA hC hZ hnt hlocks L_1128 L_1130 L_70 L_90 L_1131 k_Mo_plain ⟨(by show _ ≤ fr0 + 9; omega), (by show _ ≤ lo0 + 145; omega)⟩ rfl rfl hl.1 (Nat.le_of_ble_eq_true rfl) d_Mo_choice_104 rfl (fun q z => hX_5 q (hL_5.trans (bndM_l z))) (fun r_76 mo_76 H locs w_76 hP hD hS => ?_)
              rw [bndM_r w_76] at hL_5
              refine lv_istore (lv' := [(5, .int r_76), (3, .int 1), (4, .int r_8), (0, .ref hm), (1, .int depth), (2, .int r_1)]) hx hb d_Mo_choice_107 hl (by decide) rfl (fun ls hl => ?_)
              refine lv_iload hx hb d_Mo_choice_109 (lv_at hl 2 rfl) ?_
              refine lv_if_eq (tgt := 128) hx hb d_Mo_choice_111 (by decide) (fun _ => ?_) (fun q9 => absurd c_9 q9)
              refine lv_aload_n hx hb d_Mo_choice_128 rfl (lv_at hl 3 rfl) ?_
              refine lv_bipush (v := 70) hx hb d_Mo_choice_129 (by decide) ?_
              refine mr_Vv (g := (f_Mo_expect mo_76 70)) (As := [.int 70]) (rest := []) ⟨hx, hb, hml, hown, hts0⟩ (m_Mo_expect l hlt dC dI cI cZ sa rk hm ma mo_76 _ 70 (fun z => hn_5 (hL_5.trans (bndM_n z)))) hP hD hK hS hA hC hZ hnt hlocks L_1111 L_1113 L_68 L_90 L_1114 k_Mo_expect ⟨(by show _ ≤ fr0 + 9; omega), (by show _ ≤ lo0 + 145; omega)⟩ rfl rfl hl.1 (Nat.le_of_ble_eq_true rfl) d_Mo_choice_131 rfl (fun q z => hX_5 q (hL_5.trans (bndM_l z))) (fun mo_77 H locs w_77 hP hD hS => ?_)
              rw [bndM_r w_77] at hL_5
              obtain ⟨x_78, hx_78⟩ : ∃ z, f_Mo_choice_L134 K depth r_76 5000  mo_77 = z := ⟨_, rfl⟩
              have hn_78 : x_78 ≠ none := (fun z => hn_5 (hL_5.trans (bndM_n (hx_78.trans z))))
              have hX_78 : ∀ q, x_78 = some (.inl q) → (f_Mo_choice K mo depth) = some (.inl q) := (fun q z => hX_5 q (hL_5.trans (bndM_l (hx_78.trans z))))
              have lp_78 : ∀ (fu : Nat) (sx_78 : MO) (H : Heap) (locs : List Loc) (ls : Array Slot), va_P (dC, dI) cls (wM cI cZ hm ma sx_78) H → va_D A (wM cI cZ hm ma sx_78) → va_S A s.heap H locs → lv_has ls 6 [(0, .ref hm), (1, .int depth), (2, .int r_1), (3, .int 1), (4, .int r_8), (5, .int r_76)] → x_78 = f_Mo_choice_L134 K depth r_76 fu  sx_78 → W p l e (headSpec (wy y_Mo_choice c_Mo_choice 6 (some .int)) { frames := (fr0 + 9), cells := 1, slots := 6, locals := (lo0 + 145) }).room s m [.ref hm, .int depth].toArray below meth c H locs 0 0 (vx_MQ below (va_Qi (fun r (u : MO) => (f_Mo_choice K mo depth) = some (.inr (r, u))) (wB (dC, dI) cI cZ A (wM cI cZ hm ma)) A) (xM (dC, dI) cI cZ hm ma (f_Mo_choice K mo depth) A) [.ref hm, .int depth].toArray s (mcM (f_Mo_choice K mo depth)) (msM (f_Mo_choice K mo depth)) A) (F0 m 134 ls []) := by
                intro fu
                induction fu with
                | zero => intro  sx_78 H locs ls hP hD hS hl hL_78; exact absurd (hL_78.trans rfl) hn_78
                | succ fu_78 ih_78 =>
                  intro  sx_78 H locs ls hP hD hS hl hL_78
                  rw [f_Mo_choice_L134] at hL_78
                  refine lv_aload_n hx hb d_Mo_choice_134 rfl (lv_at hl 0 rfl) ?_
                  refine lv_bipush (v := 65) hx hb d_Mo_choice_135 (by decide) ?_
                  refine mr_Vi (g := (f_Mo_isSign sx_78 65)) (As := [.int 65]) (rest := []) ⟨hx, hb, hml, hown, hts0⟩ (m_Mo_isSign l hlt dC dI cI cZ sa rk hm ma sx_78 _ 65 (fun z => hn_78 (hL_78.trans (bndM_n z)))) hP hD hK hS hA hC hZ hnt hlocks L_1053 L_1055 L_60 L_90 L_1056 k_Mo_isSign ⟨(by show _ ≤ fr0 + 9; omega), (by show _ ≤ lo0 + 145; omega)⟩ rfl rfl hl.1 (Nat.le_of_ble_eq_true rfl) d_Mo_choice_137 rfl (fun q z => hX_78 q (hL_78.trans (bndM_l z))) (fun r_79 mo_79 H locs w_79 hP hD hS => ?_)
                  rw [bndM_r w_79] at hL_78
                  refine lv_if_ne (tgt := 179) hx hb d_Mo_choice_140 (by decide) (fun c_80 => ?_) (fun c_80 => ?_)
                  · rw [if_neg c_80] at hL_78
                    obtain ⟨se_78, hse_78⟩ : ∃ z : MO, z = mo_79 := ⟨_, rfl⟩
                    have hP : va_P (dC, dI) cls (wM cI cZ hm ma se_78) H := by rw [hse_78]; exact hP
                    have hD : va_D A (wM cI cZ hm ma se_78) := by rw [hse_78]; exact hD
                    have we_78 : f_Mo_choice_L134 K depth r_76 5000  mo_77 = some (.inr (0, se_78)) := by rw [hse_78]; exact hx_78.trans hL_78
                    have hl := lv_sub hl (l' := [(0, .ref hm), (1, .int depth), (2, .int r_1), (3, .int 1), (4, .int r_8), (5, .int r_76)]) [0, 1, 2, 3, 4, 5] rfl
                    rw [bndM_r we_78] at hL_5
                    refine lv_aload_n hx hb d_Mo_choice_179 rfl (lv_at hl 0 rfl) ?_
                    refine lv_iload_n hx hb d_Mo_choice_180 rfl (lv_at hl 2 rfl) ?_
                    refine lv_iload hx hb d_Mo_choice_181 (lv_at hl 5 rfl) ?_
                    refine mr_Vv (g := (f_Mo_hang se_78 r_1 r_76)) (As := [.int r_1, .int r_76]) (rest := []) ⟨hx, hb, hml, hown, hts0⟩ (m_Mo_hang l hlt dC dI cI cZ sa rk hm ma se_78 _ r_1 r_76 (fun z => hn_5 (hL_5.trans (bndM_n z)))) hP hD hK hS hA hC hZ hnt hlocks L_1115 L_1117 L_69 L_90 L_1118 k_Mo_hang ⟨(by show _ ≤ fr0 + 9; omega), (by show _ ≤ lo0 + 145; omega)⟩ rfl rfl hl.1 (Nat.le_of_ble_eq_true rfl) d_Mo_choice_183 rfl (fun q z => hX_5 q (hL_5.trans (bndM_l z))) (fun mo_81 H locs w_81 hP hD hS => ?_)
                    rw [bndM_r w_81] at hL_5
                    refine lv_goto (tgt := 35) hx hb d_Mo_choice_186 (by decide) ?_
                    exact ih_5 1 mo_81 _ _ ls hP hD hS (lv_sub hl [0, 1, 2, 3] rfl) hL_5
                  · rw [if_pos c_80] at hL_78
                    refine lv_aload_n hx hb d_Mo_choice_143 rfl (lv_at hl 0 rfl) ?_
                    refine lv_iconst (v := 1) hx hb d_Mo_choice_144 (by decide) ?_
                    refine mr_Vi (g := (f_Mo_isWord mo_79 1)) (As := [.int 1]) (rest := []) ⟨hx, hb, hml, hown, hts0⟩ (m_Mo_isWord l hlt dC dI cI cZ sa rk hm ma mo_79 _ 1 (fun z => hn_78 (hL_78.trans (bndM_n z)))) hP hD hK hS hA hC hZ hnt hlocks L_1061 L_1063 L_62 L_90 L_1064 k_Mo_isWord ⟨(by show _ ≤ fr0 + 9; omega), (by show _ ≤ lo0 + 145; omega)⟩ rfl rfl hl.1 (Nat.le_of_ble_eq_true rfl) d_Mo_choice_145 rfl (fun q z => hX_78 q (hL_78.trans (bndM_l z))) (fun r_82 mo_82 H locs w_82 hP hD hS => ?_)
                    rw [bndM_r w_82] at hL_78
                    refine lv_if_ne (tgt := 179) hx hb d_Mo_choice_148 (by decide) (fun c_83 => ?_) (fun c_83 => ?_)
                    · rw [if_neg c_83] at hL_78
                      obtain ⟨se_78, hse_78⟩ : ∃ z : MO, z = mo_82 := ⟨_, rfl⟩
                      have hP : va_P (dC, dI) cls (wM cI cZ hm ma se_78) H := by rw [hse_78]; exact hP
                      have hD : va_D A (wM cI cZ hm ma se_78) := by rw [hse_78]; exact hD
                      have we_78 : f_Mo_choice_L134 K depth r_76 5000  mo_77 = some (.inr (0, se_78)) := by rw [hse_78]; exact hx_78.trans hL_78
                      have hl := lv_sub hl (l' := [(0, .ref hm), (1, .int depth), (2, .int r_1), (3, .int 1), (4, .int r_8), (5, .int r_76)]) [0, 1, 2, 3, 4, 5] rfl
                      rw [bndM_r we_78] at hL_5
                      refine lv_aload_n hx hb d_Mo_choice_179 rfl (lv_at hl 0 rfl) ?_
                      refine lv_iload_n hx hb d_Mo_choice_180 rfl (lv_at hl 2 rfl) ?_
                      refine lv_iload hx hb d_Mo_choice_181 (lv_at hl 5 rfl) ?_
                      refine mr_Vv (g := (f_Mo_hang se_78 r_1 r_76)) (As := [.int r_1, .int r_76]) (rest := []) ⟨hx, hb, hml, hown, hts0⟩ (m_Mo_hang l hlt dC dI cI cZ sa rk hm ma se_78 _ r_1 r_76 (fun z => hn_5 (hL_5.trans (bndM_n z)))) hP hD hK hS hA hC hZ hnt hlocks L_1115 L_1117 L_69 L_90 L_1118 k_Mo_hang ⟨(by show _ ≤ fr0 + 9; omega), (by show _ ≤ lo0 + 145; omega)⟩ rfl rfl hl.1 (Nat.le_of_ble_eq_true rfl) d_Mo_choice_183 rfl (fun q z => hX_5 q (hL_5.trans (bndM_l z))) (fun mo_84 H locs w_84 hP hD hS => ?_)
                      rw [bndM_r w_84] at hL_5
                      refine lv_goto (tgt := 35) hx hb d_Mo_choice_186 (by decide) ?_
                      exact ih_5 1 mo_84 _ _ ls hP hD hS (lv_sub hl [0, 1, 2, 3] rfl) hL_5
                    · rw [if_pos c_83] at hL_78
                      refine lv_aload_n hx hb d_Mo_choice_151 rfl (lv_at hl 0 rfl) ?_
                      refine lv_iconst (v := 5) hx hb d_Mo_choice_152 (by decide) ?_
                      refine mr_Vi (g := (f_Mo_isWord mo_82 5)) (As := [.int 5]) (rest := []) ⟨hx, hb, hml, hown, hts0⟩ (m_Mo_isWord l hlt dC dI cI cZ sa rk hm ma mo_82 _ 5 (fun z => hn_78 (hL_78.trans (bndM_n z)))) hP hD hK hS hA hC hZ hnt hlocks L_1061 L_1063 L_62 L_90 L_1064 k_Mo_isWord ⟨(by show _ ≤ fr0 + 9; omega), (by show _ ≤ lo0 + 145; omega)⟩ rfl rfl hl.1 (Nat.le_of_ble_eq_true rfl) d_Mo_choice_153 rfl (fun q z => hX_78 q (hL_78.trans (bndM_l z))) (fun r_85 mo_85 H locs w_85 hP hD hS => ?_)
                      rw [bndM_r w_85] at hL_78
                      refine lv_if_ne (tgt := 179) hx hb d_Mo_choice_156 (by decide) (fun c_86 => ?_) (fun c_86 => ?_)
                      · rw [if_neg c_86] at hL_78
                        obtain ⟨se_78, hse_78⟩ : ∃ z : MO, z = mo_85 := ⟨_, rfl⟩
                        have hP : va_P (dC, dI) cls (wM cI cZ hm ma se_78) H := by rw [hse_78]; exact hP
                        have hD : va_D A (wM cI cZ hm ma se_78) := by rw [hse_78]; exact hD
                        have we_78 : f_Mo_choice_L134 K depth r_76 5000  mo_77 = some (.inr (0, se_78)) := by rw [hse_78]; exact hx_78.trans hL_78
                        have hl := lv_sub hl (l' := [(0, .ref hm), (1, .int depth), (2, .int r_1), (3, .int 1), (4, .int r_8), (5, .int r_76)]) [0, 1, 2, 3, 4, 5] rfl
                        rw [bndM_r we_78] at hL_5
                        refine lv_aload_n hx hb d_Mo_choice_179 rfl (lv_at hl 0 rfl) ?_
                        refine lv_iload_n hx hb d_Mo_choice_180 rfl (lv_at hl 2 rfl) ?_
                        refine lv_iload hx hb d_Mo_choice_181 (lv_at hl 5 rfl) ?_
                        refine mr_Vv (g := (f_Mo_hang se_78 r_1 r_76)) (As := [.int r_1, .int r_76]) (rest := []) ⟨hx, hb, hml, hown, hts0⟩ (m_Mo_hang l hlt dC dI cI cZ sa rk hm ma se_78 _ r_1 r_76 (fun z => hn_5 (hL_5.trans (bndM_n z)))) hP hD hK hS hA hC hZ hnt hlocks L_1115 L_1117 L_69 L_90 L_1118 k_Mo_hang ⟨(by show _ ≤ fr0 + 9; omega), (by show _ ≤ lo0 + 145; omega)⟩ rfl rfl hl.1 (Nat.le_of_ble_eq_true rfl) d_Mo_choice_183 rfl (fun q z => hX_5 q (hL_5.trans (bndM_l z))) (fun mo_87 H locs w_87 hP hD hS => ?_)
                        rw [bndM_r w_87] at hL_5
                        refine lv_goto (tgt := 35) hx hb d_Mo_choice_186 (by decide) ?_
                        exact ih_5 1 mo_87 _ _ ls hP hD hS (lv_sub hl [0, 1, 2, 3] rfl) hL_5
                      · rw [if_pos c_86] at hL_78
                        refine lv_aload_n hx hb d_Mo_choice_159 rfl (lv_at hl 0 rfl) ?_
                        refine lv_iload hx hb d_Mo_choice_160 (lv_at hl 5 rfl) ?_
                        refine lv_aload_n hx hb d_Mo_choice_162 rfl (lv_at hl 0 rfl) ?_
                        refine lv_iload_n hx hb d_Mo_choice_163 rfl (lv_at hl 1 rfl) ?_
                        refine lv_iconst (v := 1) hx hb d_Mo_choice_164 (by decide) ?_
                        refine lv_iadd hx hb d_Mo_choice_165 ?_
                        refine lv_aload_n hx hb d_Mo_choice_166 rfl (lv_at hl 0 rfl) ?_
                        refine va_get (D := (dC, dI)) (ci := 6) (v := .int (q_labels mo_85)) (C := R_Mo) (T := T_Mo) (N := 31) hx hb hts u_Mo hown hK hP 0 rfl rfl 22 (by decide) (hts _ L_943) (fun _ h9 => h9) rfl d_Mo_choice_167 ?_
                        refine mr_Si (g := (K 5 [(depth + 1), (q_labels mo_85)] mo_85)) (As := [.ref hm, .int (depth + 1), .int (q_labels mo_85)]) (rest := [.int r_76, .ref hm]) ⟨hx, hb, hml, hown, hts0⟩ (hR5 mo_85 _ (depth + 1) (q_labels mo_85) (fun z => hn_78 (hL_78.trans (bndM_n z)))) hP hD hK hS hA hC hZ hnt hlocks L_1122 L_1123 L_90 L_1124 k_Mo_statement ⟨(by show _ ≤ fr0 + 9; omega), (by show _ ≤ lo0 + 145; omega)⟩ rfl rfl hl.1 (Nat.le_of_ble_eq_true rfl) d_Mo_choice_170 rfl (fun q z => hX_78 q (hL_78.trans (bndM_l z))) (fun r_88 mo_88 H locs w_88 hP hD hS => ?_)
                        rw [bndM_r w_88] at hL_78
                        refine mr_Vv (g := (f_Mo_hang mo_88 r_76 r_88)) (As := [.int r_76, .int r_88]) (rest := []) ⟨hx, hb, hml, hown, hts0⟩ (m_Mo_hang l hlt dC dI cI cZ sa rk hm ma mo_88 _ r_76 r_88 (fun z => hn_78 (hL_78.trans (bndM_n z)))) hP hD hK hS hA hC hZ hnt hlocks L_1115 L_1117 L_69 L_90 L_1118 k_Mo_hang ⟨(by show _ ≤ fr0 + 9; omega), (by show _ ≤ lo0 + 145; omega)⟩ rfl rfl hl.1 (Nat.le_of_ble_eq_true rfl) d_Mo_choice_173 rfl (fun q z => hX_78 q (hL_78.trans (bndM_l z))) (fun mo_89 H locs w_89 hP hD hS => ?_)
                        rw [bndM_r w_89] at hL_78
                        refine lv_goto (tgt := 134) hx hb d_Mo_choice_176 (by decide) ?_
                        exact ih_78  mo_89 _ _ ls hP hD hS (lv_sub hl [0, 1, 2, 3, 4, 5] rfl) hL_78
              exact lp_78 5000  mo_77 _ _ ls hP hD hS (lv_sub hl [3, 4, 5, 1, 2, 0] rfl) hx_78.symm
            · rw [if_neg c_75] at hL_5
              refine lv_aload_n hx hb d_Mo_choice_68 rfl (lv_at hl 1 rfl) ?_
              refine lv_aload_n hx hb d_Mo_choice_69 rfl (lv_at hl 1 rfl) ?_
              refine va_get (D := (dC, dI)) (ci := 6) (v := .int (q_at mo_43)) (C := R_Mo) (T := T_Mo) (N := 31) hx hb hts u_Mo hown hK hP 0 rfl rfl 6 (by decide) (hts _ L_927) (fun _ h9 => h9) rfl d_Mo_choice_70 ?_
              refine mr_Vv (g := (f_Mo_refuse mo_43 (q_at mo_43))) (As := [.int (q_at mo_43)]) (rest := []) ⟨hx, hb, hml, hown, hts0⟩ (m_Mo_refuse l hlt dC dI cI cZ sa rk hm ma mo_43 _ (q_at mo_43) ) hP hD hK hS hA hC hZ hnt hlocks L_1072 L_1074 L_64 L_90 L_1075 k_Mo_refuse ⟨(by show _ ≤ fr0 + 9; omega), (by show _ ≤ lo0 + 145; omega)⟩ rfl rfl hl.1 (Nat.le_of_ble_eq_true rfl) d_Mo_choice_73 rfl (fun q z => hX_5 q (hL_5.trans (bndM_l z))) (fun mo_90 H locs w_90 hP hD hS => ?_)
              rw [bndM_r w_90] at hL_5
              refine lv_iload_n hx hb d_Mo_choice_76 rfl (lv_at hl 4 rfl) ?_
              refine lv_if_ne (tgt := 85) hx hb d_Mo_choice_77 (by decide) (fun _ => ?_) (fun q9 => absurd q9 c_75)
              refine lv_iconst (v := 1) hx hb d_Mo_choice_85 (by decide) ?_
              refine lv_goto (tgt := 90) hx hb d_Mo_choice_86 (by decide) ?_
              refine lv_istore_n (lv' := [(3, .int 1), (4, .int r_8), (0, .ref hm), (1, .int depth), (2, .int r_1)]) hx hb d_Mo_choice_90 rfl hl (by decide) rfl (fun ls hl => ?_)
              refine lv_aload_n hx hb d_Mo_choice_91 rfl (lv_at hl 2 rfl) ?_
              refine lv_iload hx hb d_Mo_choice_92 (lv_at hl 1 rfl) ?_
              refine lv_if_eq (tgt := 102) hx hb d_Mo_choice_94 (by decide) (fun _ => ?_) (fun q9 => absurd c_9 q9)
              refine lv_bipush (v := 17) hx hb d_Mo_choice_102 (by decide) ?_
              refine mr_Vi (g := (f_Mo_plain mo_90 17)) (As := [.int 17]) (rest := []) ⟨hx, hb, hml, hown, hts0⟩ (m_Mo_plain l hlt dC dI cI cZ sa rk hm ma mo_90 _ 17 (fun z => hn_5 (hL_5.trans (bndM_n z)))) hP hD hK hS hA hC hZ hnt hlocks L_1128 L_1130 L_70 L_90 L_1131 k_Mo_plain ⟨(by show _ ≤ fr0 + 9; omega), (by show _ ≤ lo0 + 145; omega)⟩ rfl rfl hl.1 (Nat.le_of_ble_eq_true rfl) d_Mo_choice_104 rfl (fun q z => hX_5 q (hL_5.trans (bndM_l z))) (fun r_91 mo_91 H locs w_91 hP hD hS => ?_)
              rw [bndM_r w_91] at hL_5
              refine lv_istore (lv' := [(5, .int r_91), (3, .int 1), (4, .int r_8), (0, .ref hm), (1, .int depth), (2, .int r_1)]) hx hb d_Mo_choice_107 hl (by decide) rfl (fun ls hl => ?_)
              refine lv_iload hx hb d_Mo_choice_109 (lv_at hl 2 rfl) ?_
              refine lv_if_eq (tgt := 128) hx hb d_Mo_choice_111 (by decide) (fun _ => ?_) (fun q9 => absurd c_9 q9)
              refine lv_aload_n hx hb d_Mo_choice_128 rfl (lv_at hl 3 rfl) ?_
              refine lv_bipush (v := 70) hx hb d_Mo_choice_129 (by decide) ?_
              refine mr_Vv (g := (f_Mo_expect mo_91 70)) (As := [.int 70]) (rest := []) ⟨hx, hb, hml, hown, hts0⟩ (m_Mo_expect l hlt dC dI cI cZ sa rk hm ma mo_91 _ 70 (fun z => hn_5 (hL_5.trans (bndM_n z)))) hP hD hK hS hA hC hZ hnt hlocks L_1111 L_1113 L_68 L_90 L_1114 k_Mo_expect ⟨(by show _ ≤ fr0 + 9; omega), (by show _ ≤ lo0 + 145; omega)⟩ rfl rfl hl.1 (Nat.le_of_ble_eq_true rfl) d_Mo_choice_131 rfl (fun q z => hX_5 q (hL_5.trans (bndM_l z))) (fun mo_92 H locs w_92 hP hD hS => ?_)
              rw [bndM_r w_92] at hL_5
              obtain ⟨x_93, hx_93⟩ : ∃ z, f_Mo_choice_L134 K depth r_91 5000  mo_92 = z := ⟨_, rfl⟩
              have hn_93 : x_93 ≠ none := (fun z => hn_5 (hL_5.trans (bndM_n (hx_93.trans z))))
              have hX_93 : ∀ q, x_93 = some (.inl q) → (f_Mo_choice K mo depth) = some (.inl q) := (fun q z => hX_5 q (hL_5.trans (bndM_l (hx_93.trans z))))
              have lp_93 : ∀ (fu : Nat) (sx_93 : MO) (H : Heap) (locs : List Loc) (ls : Array Slot), va_P (dC, dI) cls (wM cI cZ hm ma sx_93) H → va_D A (wM cI cZ hm ma sx_93) → va_S A s.heap H locs → lv_has ls 6 [(0, .ref hm), (1, .int depth), (2, .int r_1), (3, .int 1), (4, .int r_8), (5, .int r_91)] → x_93 = f_Mo_choice_L134 K depth r_91 fu  sx_93 → W p l e (headSpec (wy y_Mo_choice c_Mo_choice 6 (some .int)) { frames := (fr0 + 9), cells := 1, slots := 6, locals := (lo0 + 145) }).room s m [.ref hm, .int depth].toArray below meth c H locs 0 0 (vx_MQ below (va_Qi (fun r (u : MO) => (f_Mo_choice K mo depth) = some (.inr (r, u))) (wB (dC, dI) cI cZ A (wM cI cZ hm ma)) A) (xM (dC, dI) cI cZ hm ma (f_Mo_choice K mo depth) A) [.ref hm, .int depth].toArray s (mcM (f_Mo_choice K mo depth)) (msM (f_Mo_choice K mo depth)) A) (F0 m 134 ls []) := by
                intro fu
                induction fu with
                | zero => intro  sx_93 H locs ls hP hD hS hl hL_93; exact absurd (hL_93.trans rfl) hn_93
                | succ fu_93 ih_93 =>
                  intro  sx_93 H locs ls hP hD hS hl hL_93
                  rw [f_Mo_choice_L134] at hL_93
                  refine lv_aload_n hx hb d_Mo_choice_134 rfl (lv_at hl 0 rfl) ?_
                  refine lv_bipush (v := 65) hx hb d_Mo_choice_135 (by decide) ?_
                  refine mr_Vi (g := (f_Mo_isSign sx_93 65)) (As := [.int 65]) (rest := []) ⟨hx, hb, hml, hown, hts0⟩ (m_Mo_isSign l hlt dC dI cI cZ sa rk hm ma sx_93 _ 65 (fun z => hn_93 (hL_93.trans (bndM_n z)))) hP hD hK hS hA hC hZ hnt hlocks L_1053 L_1055 L_60 L_90 L_1056 k_Mo_isSign ⟨(by show _ ≤ fr0 + 9; omega), (by show _ ≤ lo0 + 145; omega)⟩ rfl rfl hl.1 (Nat.le_of_ble_eq_true rfl) d_Mo_choice_137 rfl (fun q z => hX_93 q (hL_93.trans (bndM_l z))) (fun r_94 mo_94 H locs w_94 hP hD hS => ?_)
                  rw [bndM_r w_94] at hL_93
                  refine lv_if_ne (tgt := 179) hx hb d_Mo_choice_140 (by decide) (fun c_95 => ?_) (fun c_95 => ?_)
                  · rw [if_neg c_95] at hL_93
                    obtain ⟨se_93, hse_93⟩ : ∃ z : MO, z = mo_94 := ⟨_, rfl⟩
                    have hP : va_P (dC, dI) cls (wM cI cZ hm ma se_93) H := by rw [hse_93]; exact hP
                    have hD : va_D A (wM cI cZ hm ma se_93) := by rw [hse_93]; exact hD
                    have we_93 : f_Mo_choice_L134 K depth r_91 5000  mo_92 = some (.inr (0, se_93)) := by rw [hse_93]; exact hx_93.trans hL_93
                    have hl := lv_sub hl (l' := [(0, .ref hm), (1, .int depth), (2, .int r_1), (3, .int 1), (4, .int r_8), (5, .int r_91)]) [0, 1, 2, 3, 4, 5] rfl
                    rw [bndM_r we_93] at hL_5
                    refine lv_aload_n hx hb d_Mo_choice_179 rfl (lv_at hl 0 rfl) ?_
                    refine lv_iload_n hx hb d_Mo_choice_180 rfl (lv_at hl 2 rfl) ?_
                    refine lv_iload hx hb d_Mo_choice_181 (lv_at hl 5 rfl) ?_
                    refine mr_Vv (g := (f_Mo_hang se_93 r_1 r_91)) (As := [.int r_1, .int r_91]) (rest := []) ⟨hx, hb, hml, hown, hts0⟩ (m_Mo_hang l hlt dC dI cI cZ sa rk hm ma se_93 _ r_1 r_91 (fun z => hn_5 (hL_5.trans (bndM_n z)))) hP hD hK hS hA hC hZ hnt hlocks L_1115 L_1117 L_69 L_90 L_1118 k_Mo_hang ⟨(by show _ ≤ fr0 + 9; omega), (by show _ ≤ lo0 + 145; omega)⟩ rfl rfl hl.1 (Nat.le_of_ble_eq_true rfl) d_Mo_choice_183 rfl (fun q z => hX_5 q (hL_5.trans (bndM_l z))) (fun mo_96 H locs w_96 hP hD hS => ?_)
                    rw [bndM_r w_96] at hL_5
                    refine lv_goto (tgt := 35) hx hb d_Mo_choice_186 (by decide) ?_
                    exact ih_5 1 mo_96 _ _ ls hP hD hS (lv_sub hl [0, 1, 2, 3] rfl) hL_5
                  · rw [if_pos c_95] at hL_93
                    refine lv_aload_n hx hb d_Mo_choice_143 rfl (lv_at hl 0 rfl) ?_
                    refine lv_iconst (v := 1) hx hb d_Mo_choice_144 (by decide) ?_
                    refine mr_Vi (g := (f_Mo_isWord mo_94 1)) (As := [.int 1]) (rest := []) ⟨hx, hb, hml, hown, hts0⟩ (m_Mo_isWord l hlt dC dI cI cZ sa rk hm ma mo_94 _ 1 (fun z => hn_93 (hL_93.trans (bndM_n z)))) hP hD hK hS hA hC hZ hnt hlocks L_1061 L_1063 L_62 L_90 L_1064 k_Mo_isWord ⟨(by show _ ≤ fr0 + 9; omega), (by show _ ≤ lo0 + 145; omega)⟩ rfl rfl hl.1 (Nat.le_of_ble_eq_true rfl) d_Mo_choice_145 rfl (fun q z => hX_93 q (hL_93.trans (bndM_l z))) (fun r_97 mo_97 H locs w_97 hP hD hS => ?_)
                    rw [bndM_r w_97] at hL_93
                    refine lv_if_ne (tgt := 179) hx hb d_Mo_choice_148 (by decide) (fun c_98 => ?_) (fun c_98 => ?_)
                    · rw [if_neg c_98] at hL_93
                      obtain ⟨se_93, hse_93⟩ : ∃ z : MO, z = mo_97 := ⟨_, rfl⟩
                      have hP : va_P (dC, dI) cls (wM cI cZ hm ma se_93) H := by rw [hse_93]; exact hP
                      have hD : va_D A (wM cI cZ hm ma se_93) := by rw [hse_93]; exact hD
                      have we_93 : f_Mo_choice_L134 K depth r_91 5000  mo_92 = some (.inr (0, se_93)) := by rw [hse_93]; exact hx_93.trans hL_93
                      have hl := lv_sub hl (l' := [(0, .ref hm), (1, .int depth), (2, .int r_1), (3, .int 1), (4, .int r_8), (5, .int r_91)]) [0, 1, 2, 3, 4, 5] rfl
                      rw [bndM_r we_93] at hL_5
                      refine lv_aload_n hx hb d_Mo_choice_179 rfl (lv_at hl 0 rfl) ?_
                      refine lv_iload_n hx hb d_Mo_choice_180 rfl (lv_at hl 2 rfl) ?_
                      refine lv_iload hx hb d_Mo_choice_181 (lv_at hl 5 rfl) ?_
                      refine mr_Vv (g := (f_Mo_hang se_93 r_1 r_91)) (As := [.int r_1, .int r_91]) (rest := []) ⟨hx, hb, hml, hown, hts0⟩ (m_Mo_hang l hlt dC dI cI cZ sa rk hm ma se_93 _ r_1 r_91 (fun z => hn_5 (hL_5.trans (bndM_n z)))) hP hD hK hS hA hC hZ hnt hlocks L_1115 L_1117 L_69 L_90 L_1118 k_Mo_hang ⟨(by show _ ≤ fr0 + 9; omega), (by show _ ≤ lo0 + 145; omega)⟩ rfl rfl hl.1 (Nat.le_of_ble_eq_true rfl) d_Mo_choice_183 rfl (fun q z => hX_5 q (hL_5.trans (bndM_l z))) (fun mo_99 H locs w_99 hP hD hS => ?_)
                      rw [bndM_r w_99] at hL_5
                      refine lv_goto (tgt := 35) hx hb d_Mo_choice_186 (by decide) ?_
                      exact ih_5 1 mo_99 _ _ ls hP hD hS (lv_sub hl [0, 1, 2, 3] rfl) hL_5
                    · rw [if_pos c_98] at hL_93
                      refine lv_aload_n hx hb d_Mo_choice_151 rfl (lv_at hl 0 rfl) ?_
                      refine lv_iconst (v := 5) hx hb d_Mo_choice_152 (by decide) ?_
                      refine mr_Vi (g := (f_Mo_isWord mo_97 5)) (As := [.int 5]) (rest := []) ⟨hx, hb, hml, hown, hts0⟩ (m_Mo_isWord l hlt dC dI cI cZ sa rk hm ma mo_97 _ 5 (fun z => hn_93 (hL_93.trans (bndM_n z)))) hP hD hK hS hA hC hZ hnt hlocks L_1061 L_1063 L_62 L_90 L_1064 k_Mo_isWord ⟨(by show _ ≤ fr0 + 9; omega), (by show _ ≤ lo0 + 145; omega)⟩ rfl rfl hl.1 (Nat.le_of_ble_eq_true rfl) d_Mo_choice_153 rfl (fun q z => hX_93 q (hL_93.trans (bndM_l z))) (fun r_100 mo_100 H locs w_100 hP hD hS => ?_)
                      rw [bndM_r w_100] at hL_93
                      refine lv_if_ne (tgt := 179) hx hb d_Mo_choice_156 (by decide) (fun c_101 => ?_) (fun c_101 => ?_)
                      · rw [if_neg c_101] at hL_93
                        obtain ⟨se_93, hse_93⟩ : ∃ z : MO, z = mo_100 := ⟨_, rfl⟩
                        have hP : va_P (dC, dI) cls (wM cI cZ hm ma se_93) H := by rw [hse_93]; exact hP
                        have hD : va_D A (wM cI cZ hm ma se_93) := by rw [hse_93]; exact hD
                        have we_93 : f_Mo_choice_L134 K depth r_91 5000  mo_92 = some (.inr (0, se_93)) := by rw [hse_93]; exact hx_93.trans hL_93
                        have hl := lv_sub hl (l' := [(0, .ref hm), (1, .int depth), (2, .int r_1), (3, .int 1), (4, .int r_8), (5, .int r_91)]) [0, 1, 2, 3, 4, 5] rfl
                        rw [bndM_r we_93] at hL_5
                        refine lv_aload_n hx hb d_Mo_choice_179 rfl (lv_at hl 0 rfl) ?_
                        refine lv_iload_n hx hb d_Mo_choice_180 rfl (lv_at hl 2 rfl) ?_
                        refine lv_iload hx hb d_Mo_choice_181 (lv_at hl 5 rfl) ?_
                        refine mr_Vv (g := (f_Mo_hang se_93 r_1 r_91)) (As := [.int r_1, .int r_91]) (rest := []) ⟨hx, hb, hml, hown, hts0⟩ (m_Mo_hang l hlt dC dI cI cZ sa rk hm ma se_93 _ r_1 r_91 (fun z => hn_5 (hL_5.trans (bndM_n z)))) hP hD hK hS hA hC hZ hnt hlocks L_1115 L_1117 L_69 L_90 L_1118 k_Mo_hang ⟨(by show _ ≤ fr0 + 9; omega), (by show _ ≤ lo0 + 145; omega)⟩ rfl rfl hl.1 (Nat.le_of_ble_eq_true rfl) d_Mo_choice_183 rfl (fun q z => hX_5 q (hL_5.trans (bndM_l z))) (fun mo_102 H locs w_102 hP hD hS => ?_)
                        rw [bndM_r w_102] at hL_5
                        refine lv_goto (tgt := 35) hx hb d_Mo_choice_186 (by decide) ?_
                        exact ih_5 1 mo_102 _ _ ls hP hD hS (lv_sub hl [0, 1, 2, 3] rfl) hL_5
                      · rw [if_pos c_101] at hL_93
                        refine lv_aload_n hx hb d_Mo_choice_159 rfl (lv_at hl 0 rfl) ?_
                        refine lv_iload hx hb d_Mo_choice_160 (lv_at hl 5 rfl) ?_
                        refine lv_aload_n hx hb d_Mo_choice_162 rfl (lv_at hl 0 rfl) ?_
                        refine lv_iload_n hx hb d_Mo_choice_163 rfl (lv_at hl 1 rfl) ?_
                        refine lv_iconst (v := 1) hx hb d_Mo_choice_164 (by decide) ?_
                        refine lv_iadd hx hb d_Mo_choice_165 ?_
                        refine lv_aload_n hx hb d_Mo_choice_166 rfl (lv_at hl 0 rfl) ?_
                        refine va_get (D := (dC, dI)) (ci := 6) (v := .int (q_labels mo_100)) (C := R_Mo) (T := T_Mo) (N := 31) hx hb hts u_Mo hown hK hP 0 rfl rfl 22 (by decide) (hts _ L_943) (fun _ h9 => h9) rfl d_Mo_choice_167 ?_
                        refine mr_Si (g := (K 5 [(depth + 1), (q_labels mo_100)] mo_100)) (As := [.ref hm, .int (depth + 1), .int (q_labels mo_100)]) (rest := [.int r_91, .ref hm]) ⟨hx, hb, hml, hown, hts0⟩ (hR5 mo_100 _ (depth + 1) (q_labels mo_100) (fun z => hn_93 (hL_93.trans (bndM_n z)))) hP hD hK hS hA hC hZ hnt hlocks L_1122 L_1123 L_90 L_1124 k_Mo_statement ⟨(by show _ ≤ fr0 + 9; omega), (by show _ ≤ lo0 + 145; omega)⟩ rfl rfl hl.1 (Nat.le_of_ble_eq_true rfl) d_Mo_choice_170 rfl (fun q z => hX_93 q (hL_93.trans (bndM_l z))) (fun r_103 mo_103 H locs w_103 hP hD hS => ?_)
                        rw [bndM_r w_103] at hL_93
                        refine mr_Vv (g := (f_Mo_hang mo_103 r_91 r_103)) (As := [.int r_91, .int r_103]) (rest := []) ⟨hx, hb, hml, hown, hts0⟩ (m_Mo_hang l hlt dC dI cI cZ sa rk hm ma mo_103 _ r_91 r_103 (fun z => hn_93 (hL_93.trans (bndM_n z)))) hP hD hK hS hA hC hZ hnt hlocks L_1115 L_1117 L_69 L_90 L_1118 k_Mo_hang ⟨(by show _ ≤ fr0 + 9; omega), (by show _ ≤ lo0 + 145; omega)⟩ rfl rfl hl.1 (Nat.le_of_ble_eq_true rfl) d_Mo_choice_173 rfl (fun q z => hX_93 q (hL_93.trans (bndM_l z))) (fun mo_104 H locs w_104 hP hD hS => ?_)
                        rw [bndM_r w_104] at hL_93
                        refine lv_goto (tgt := 134) hx hb d_Mo_choice_176 (by decide) ?_
                        exact ih_93  mo_104 _ _ ls hP hD hS (lv_sub hl [0, 1, 2, 3, 4, 5] rfl) hL_93
              exact lp_93 5000  mo_92 _ _ ls hP hD hS (lv_sub hl [3, 4, 5, 1, 2, 0] rfl) hx_93.symm
  exact lp_5 5000 0 (s_breakables mo_4 ((q_breakables mo_4) + 1)) _ _ ls hP hD hS (lv_sub hl [2, 3, 1, 0] rfl) hx_5.symm
def f_Mo_thrower (K : Nat → List Int32 → MO → Rm) (mo : MO) (depth : Int32) : Rm := (bndM (f_Mo_plain mo 19) (fun r_1 mo_1 => (if (q_count mo_1) ≤ (q_at mo_1) then (bndM (K 0 [(depth + 1), 1] mo_1) (fun r_3 mo_3 => (bndM (f_Mo_hang mo_3 r_1 r_3) (fun _ mo_4 => (bndM (f_Mo_semicolon mo_4) (fun _ mo_5 => (some (.inr (r_1, mo_5))))))))) else (if inb (q_at mo_1) 1001 then (if ((q_lines mo_1) ((q_at mo_1) : Int32).toNatClampNeg) = 0 then (bndM (K 0 [(depth + 1), 1] mo_1) (fun r_8 mo_8 => (bndM (f_Mo_hang mo_8 r_1 r_8) (fun _ mo_9 => (bndM (f_Mo_semicolon mo_9) (fun _ mo_10 => (some (.inr (r_1, mo_10))))))))) else (bndM (f_Mo_refuse mo_1 (q_at mo_1)) (fun _ mo_11 => (bndM (K 0 [(depth + 1), 1] mo_11) (fun r_12 mo_12 => (bndM (f_Mo_hang mo_12 r_1 r_12) (fun _ mo_13 => (bndM (f_Mo_semicolon mo_13) (fun _ mo_14 => (some (.inr (r_1, mo_14)))))))))))) else none))))
set_option maxRecDepth 100000 in
set_option maxHeartbeats 4000000 in
theorem m_Mo_thrower (l : Launch) (hlt : l.stackTraces = false) (dC : Nat → ClassId) (dI : Nat → Nat → Nat) (cI cZ : ClassId) (sa rk hm : Nat) (ma : Nat → Nat) (fr0 lo0 : Nat) (K : Nat → List Int32 → MO → Rm) (hR0 : ∀ (mo : MO) (sz : Nat) (p0 p1 : Int32), K 0 [p0, p1] mo ≠ none → cXi l y_Mo_expression c_Mo_expression 5 .int fr0 lo0 (dC, dI) cI cZ sa rk hm ma mo sz [.ref hm, .int p0, .int p1] (K 0 [p0, p1] mo)) (hR1 : ∀ (mo : MO) (sz : Nat) (p0 p1 : Int32), K 1 [p0, p1] mo ≠ none → cXi l y_Mo_assignment c_Mo_assignment 5 .int fr0 lo0 (dC, dI) cI cZ sa rk hm ma mo sz [.ref hm, .int p0, .int p1] (K 1 [p0, p1] mo)) (hR2 : ∀ (mo : MO) (sz : Nat) (p0 p1 p2 : Int32), K 2 [p0, p1, p2] mo ≠ none → cXi l y_Mo_binary c_Mo_binary 7 .int fr0 lo0 (dC, dI) cI cZ sa rk hm ma mo sz [.ref hm, .int p0, .int p1, .int p2] (K 2 [p0, p1, p2] mo)) (hR3 : ∀ (mo : MO) (sz : Nat) (p0 : Int32), K 3 [p0] mo ≠ none → cXi l y_Mo_unary c_Mo_unary 5 .int fr0 lo0 (dC, dI) cI cZ sa rk hm ma mo sz [.ref hm, .int p0] (K 3 [p0] mo)) (hR4 : ∀ (mo : MO) (sz : Nat) (p0 p1 : Int32), K 4 [p0, p1] mo ≠ none → cXi l y_Mo_member c_Mo_member 6 .int fr0 lo0 (dC, dI) cI cZ sa rk hm ma mo sz [.ref hm, .int p0, .int p1] (K 4 [p0, p1] mo)) (hR5 : ∀ (mo : MO) (sz : Nat) (p0 p1 : Int32), K 5 [p0, p1] mo ≠ none → cXi l y_Mo_statement c_Mo_statement 3 .int fr0 lo0 (dC, dI) cI cZ sa rk hm ma mo sz [.ref hm, .int p0, .int p1] (K 5 [p0, p1] mo)) (hR6 : ∀ (mo : MO) (sz : Nat) (p0 p1 p2 : Int32), K 6 [p0, p1, p2] mo ≠ none → cXv l y_Mo_statements c_Mo_statements 8 fr0 lo0 (dC, dI) cI cZ sa rk hm ma mo sz [.ref hm, .int p0, .int p1, .int p2] (K 6 [p0, p1, p2] mo)) (hR7 : ∀ (mo : MO) (sz : Nat) (p0 : Int32), K 7 [p0] mo ≠ none → cXi l y_Mo_block c_Mo_block 4 .int fr0 lo0 (dC, dI) cI cZ sa rk hm ma mo sz [.ref hm, .int p0] (K 7 [p0] mo)) (mo : MO) (sz : Nat) (depth : Int32) (hg : (f_Mo_thrower K mo depth) ≠ none) : cXi l y_Mo_thrower c_Mo_thrower 3 .int (fr0 + 8) (lo0 + 122) (dC, dI) cI cZ sa rk hm ma mo sz [.ref hm, .int depth] (f_Mo_thrower K mo depth) := by
  refine vx_ofW (cc := c_Mo_thrower) (maxL := 3) (ret := (some .int)) (by decide) rfl ?_
  intro p e s m args below meth c s₁ B hml hnt hv
  obtain ⟨rfl, hsz, hP, hK, hD0, hC, hZ⟩ := hv
  have hx := B.exec
  have hb := B.bytes
  have hr := B.returns
  have hts0 := atoms_spec (ws := wy y_Mo_thrower c_Mo_thrower 3 (some .int)) B.pre
  have hts := htsL hts0
  have hown : s.vm.findClass R_Mo = some m.cls := findClass_of_methodNamed B.named
  have hlocks := B.notSynchronized
  subst hsz
  have hD := hD0.self (sz := s.heap.size)
  generalize hAe : va_A (wM cI cZ hm ma mo) s.heap.size = A at hD hZ ⊢
  have hA : ∀ q : Nat, s.heap.size ≤ q → A q := fun q h => by rw [← hAe]; exact Or.inr h
  have hS : va_S A s.heap s.heap [] := va_S.rf
  have hl := lv_entry ([.ref hm, .int depth]) (n := 3) (Nat.le_of_ble_eq_true rfl)
  rw [lg_entry_eq]
  generalize (lg_sl ([.ref hm, .int depth]) ++ List.replicate (3 - (lg_sl ([.ref hm, .int depth])).length) Slot.unset).toArray = ls at hl ⊢
  have hl : lv_has ls 3 [(0, .ref hm), (1, .int depth)] := hl
  refine lv_aload_n hx hb d_Mo_thrower_0 rfl (lv_at hl 0 rfl) ?_
  refine lv_bipush (v := 19) hx hb d_Mo_thrower_1 (by decide) ?_
  refine mr_Vi (g := (f_Mo_plain mo 19)) (As := [.int 19]) (rest := []) ⟨hx, hb, hml, hown, hts0⟩ (m_Mo_plain l hlt dC dI cI cZ sa rk hm ma mo _ 19 (fun z => hg (by unfold f_Mo_thrower; rw [bndM_n z]))) hP hD hK hS hA hC hZ hnt hlocks L_1128 L_1130 L_70 L_90 L_1131 k_Mo_plain ⟨(by show _ ≤ fr0 + 8; omega), (by show _ ≤ lo0 + 122; omega)⟩ rfl rfl hl.1 (Nat.le_of_ble_eq_true rfl) d_Mo_thrower_3 rfl (fun q z => by unfold f_Mo_thrower; rw [bndM_l z]) (fun r_1 mo_1 H locs w_1 hP hD hS => ?_)
  refine lv_istore_n (lv' := [(2, .int r_1), (0, .ref hm), (1, .int depth)]) hx hb d_Mo_thrower_6 rfl hl (by decide) rfl (fun ls hl => ?_)
  refine lv_aload_n hx hb d_Mo_thrower_7 rfl (lv_at hl 1 rfl) ?_
  refine va_get (D := (dC, dI)) (ci := 6) (v := .int (q_at mo_1)) (C := R_Mo) (T := T_Mo) (N := 31) hx hb hts u_Mo hown hK hP 0 rfl rfl 6 (by decide) (hts _ L_927) (fun _ h9 => h9) rfl d_Mo_thrower_8 ?_
  refine lv_aload_n hx hb d_Mo_thrower_11 rfl (lv_at hl 1 rfl) ?_
  refine va_get (D := (dC, dI)) (ci := 6) (v := .int (q_count mo_1)) (C := R_Mo) (T := T_Mo) (N := 31) hx hb hts u_Mo hown hK hP 0 rfl rfl 5 (by decide) (hts _ L_926) (fun _ h9 => h9) rfl d_Mo_thrower_12 ?_
  refine lv_icmp_ge (tgt := 38) hx hb d_Mo_thrower_15 (by decide) (fun c_2 => ?_) (fun c_2 => ?_)
  · refine lv_aload_n hx hb d_Mo_thrower_38 rfl (lv_at hl 1 rfl) ?_
    refine lv_iload_n hx hb d_Mo_thrower_39 rfl (lv_at hl 0 rfl) ?_
    refine lv_aload_n hx hb d_Mo_thrower_40 rfl (lv_at hl 1 rfl) ?_
    refine lv_iload_n hx hb d_Mo_thrower_41 rfl (lv_at hl 2 rfl) ?_
    refine lv_iconst (v := 1) hx hb d_Mo_thrower_42 (by decide) ?_
    refine lv_iadd hx hb d_Mo_thrower_43 ?_
    refine lv_iconst (v := 1) hx hb d_Mo_thrower_44 (by decide) ?_
    refine mr_Si (g := (K 0 [(depth + 1), 1] mo_1)) (As := [.ref hm, .int (depth + 1), .int 1]) (rest := [.int r_1, .ref hm]) ⟨hx, hb, hml, hown, hts0⟩ (hR0 mo_1 _ (depth + 1) 1 (fun z => hg (by unfold f_Mo_thrower; rw [bndM_r w_1, if_pos c_2, bndM_n z]))) hP hD hK hS hA hC hZ hnt hlocks L_1135 L_1136 L_90 L_1137 k_Mo_expression ⟨(by show _ ≤ fr0 + 8; omega), (by show _ ≤ lo0 + 122; omega)⟩ rfl rfl hl.1 (Nat.le_of_ble_eq_true rfl) d_Mo_thrower_45 rfl (fun q z => by unfold f_Mo_thrower; rw [bndM_r w_1, if_pos c_2, bndM_l z]) (fun r_3 mo_3 H locs w_3 hP hD hS => ?_)
    refine mr_Vv (g := (f_Mo_hang mo_3 r_1 r_3)) (As := [.int r_1, .int r_3]) (rest := []) ⟨hx, hb, hml, hown, hts0⟩ (m_Mo_hang l hlt dC dI cI cZ sa rk hm ma mo_3 _ r_1 r_3 (fun z => hg (by unfold f_Mo_thrower; rw [bndM_r w_1, if_pos c_2, bndM_r w_3, bndM_n z]))) hP hD hK hS hA hC hZ hnt hlocks L_1115 L_1117 L_69 L_90 L_1118 k_Mo_hang ⟨(by show _ ≤ fr0 + 8; omega), (by show _ ≤ lo0 + 122; omega)⟩ rfl rfl hl.1 (Nat.le_of_ble_eq_true rfl) d_Mo_thrower_48 rfl (fun q z => by unfold f_Mo_thrower; rw [bndM_r w_1, if_pos c_2, bndM_r w_3, bndM_l z]) (fun mo_4 H locs w_4 hP hD hS => ?_)
    refine lv_aload_n hx hb d_Mo_thrower_51 rfl (lv_at hl 1 rfl) ?_
    refine mr_Vv (g := (f_Mo_semicolon mo_4)) (As := []) (rest := []) ⟨hx, hb, hml, hown, hts0⟩ (m_Mo_semicolon l hlt dC dI cI cZ sa rk hm ma mo_4 _  (fun z => hg (by unfold f_Mo_thrower; rw [bndM_r w_1, if_pos c_2, bndM_r w_3, bndM_r w_4, bndM_n z]))) hP hD hK hS hA hC hZ hnt hlocks L_1209 L_1211 L_79 L_90 L_1212 k_Mo_semicolon ⟨(by show _ ≤ fr0 + 8; omega), (by show _ ≤ lo0 + 122; omega)⟩ rfl rfl hl.1 (Nat.le_of_ble_eq_true rfl) d_Mo_thrower_52 rfl (fun q z => by unfold f_Mo_thrower; rw [bndM_r w_1, if_pos c_2, bndM_r w_3, bndM_r w_4, bndM_l z]) (fun mo_5 H locs w_5 hP hD hS => ?_)
    refine lv_iload_n hx hb d_Mo_thrower_55 rfl (lv_at hl 0 rfl) ?_
    exact mr_iret (v := r_1) (mo := mo_5) hx hb hr hlocks hK hP hD hS (by unfold f_Mo_thrower; rw [bndM_r w_1, if_pos c_2, bndM_r w_3, bndM_r w_4, bndM_r w_5]) d_Mo_thrower_56
  · refine lv_aload_n hx hb d_Mo_thrower_18 rfl (lv_at hl 1 rfl) ?_
    refine va_get (D := (dC, dI)) (ci := 6) (v := .ref (ma 3)) (C := R_Mo) (T := T_Mo) (N := 31) hx hb hts u_Mo hown hK hP 0 rfl rfl 4 (by decide) (hts _ L_925) (fun _ h9 => h9) rfl d_Mo_thrower_19 ?_
    refine lv_aload_n hx hb d_Mo_thrower_22 rfl (lv_at hl 1 rfl) ?_
    refine va_get (D := (dC, dI)) (ci := 6) (v := .int (q_at mo_1)) (C := R_Mo) (T := T_Mo) (N := 31) hx hb hts u_Mo hown hK hP 0 rfl rfl 6 (by decide) (hts _ L_927) (fun _ h9 => h9) rfl d_Mo_thrower_23 ?_
    by_cases cb_6 : inb (q_at mo_1) 1001
    case neg => exact absurd (by unfold f_Mo_thrower; rw [bndM_r w_1, if_neg c_2, if_neg cb_6]) hg
    refine va_zald (D := (dC, dI)) hx hb hK hP 4 1 rfl rfl cb_6 d_Mo_thrower_26 ?_
    refine lv_if_eq (tgt := 38) hx hb d_Mo_thrower_27 (by decide) (fun c_7 => ?_) (fun c_7 => ?_)
    · refine lv_aload_n hx hb d_Mo_thrower_38 rfl (lv_at hl 1 rfl) ?_
      refine lv_iload_n hx hb d_Mo_thrower_39 rfl (lv_at hl 0 rfl) ?_
      refine lv_aload_n hx hb d_Mo_thrower_40 rfl (lv_at hl 1 rfl) ?_
      refine lv_iload_n hx hb d_Mo_thrower_41 rfl (lv_at hl 2 rfl) ?_
      refine lv_iconst (v := 1) hx hb d_Mo_thrower_42 (by decide) ?_
      refine lv_iadd hx hb d_Mo_thrower_43 ?_
      refine lv_iconst (v := 1) hx hb d_Mo_thrower_44 (by decide) ?_
      refine mr_Si (g := (K 0 [(depth + 1), 1] mo_1)) (As := [.ref hm, .int (depth + 1), .int 1]) (rest := [.int r_1, .ref hm]) ⟨hx, hb, hml, hown, hts0⟩ (hR0 mo_1 _ (depth + 1) 1 (fun z => hg (by unfold f_Mo_thrower; rw [bndM_r w_1, if_neg c_2, if_pos cb_6, if_pos c_7, bndM_n z]))) hP hD hK hS hA hC hZ hnt hlocks L_1135 L_1136 L_90 L_1137 k_Mo_expression ⟨(by show _ ≤ fr0 + 8; omega), (by show _ ≤ lo0 + 122; omega)⟩ rfl rfl hl.1 (Nat.le_of_ble_eq_true rfl) d_Mo_thrower_45 rfl (fun q z => by unfold f_Mo_thrower; rw [bndM_r w_1, if_neg c_2, if_pos cb_6, if_pos c_7, bndM_l z]) (fun r_8 mo_8 H locs w_8 hP hD hS => ?_)
      refine mr_Vv (g := (f_Mo_hang mo_8 r_1 r_8)) (As := [.int r_1, .int r_8]) (rest := []) ⟨hx, hb, hml, hown, hts0⟩ (m_Mo_hang l hlt dC dI cI cZ sa rk hm ma mo_8 _ r_1 r_8 (fun z => hg (by unfold f_Mo_thrower; rw [bndM_r w_1, if_neg c_2, if_pos cb_6, if_pos c_7, bndM_r w_8, bndM_n z]))) hP hD hK hS hA hC hZ hnt hlocks L_1115 L_1117 L_69 L_90 L_1118 k_Mo_hang ⟨(by show _ ≤ fr0 + 8; omega), (by show _ ≤ lo0 + 122; omega)⟩ rfl rfl hl.1 (Nat.le_of_ble_eq_true rfl) d_Mo_thrower_48 rfl (fun q z => by unfold f_Mo_thrower; rw [bndM_r w_1, if_neg c_2, if_pos cb_6, if_pos c_7, bndM_r w_8, bndM_l z]) (fun mo_9 H locs w_9 hP hD hS => ?_)
      refine lv_aload_n hx hb d_Mo_thrower_51 rfl (lv_at hl 1 rfl) ?_
      refine mr_Vv (g := (f_Mo_semicolon mo_9)) (As := []) (rest := []) ⟨hx, hb, hml, hown, hts0⟩ (m_Mo_semicolon l hlt dC dI cI cZ sa rk hm ma mo_9 _  (fun z => hg (by unfold f_Mo_thrower; rw [bndM_r w_1, if_neg c_2, if_pos cb_6, if_pos c_7, bndM_r w_8, bndM_r w_9, bndM_n z]))) hP hD hK hS hA hC hZ hnt hlocks L_1209 L_1211 L_79 L_90 L_1212 k_Mo_semicolon ⟨(by show _ ≤ fr0 + 8; omega), (by show _ ≤ lo0 + 122; omega)⟩ rfl rfl hl.1 (Nat.le_of_ble_eq_true rfl) d_Mo_thrower_52 rfl (fun q z => by unfold f_Mo_thrower; rw [bndM_r w_1, if_neg c_2, if_pos cb_6, if_pos c_7, bndM_r w_8, bndM_r w_9, bndM_l z]) (fun mo_10 H locs w_10 hP hD hS => ?_)
      refine lv_iload_n hx hb d_Mo_thrower_55 rfl (lv_at hl 0 rfl) ?_
      exact mr_iret (v := r_1) (mo := mo_10) hx hb hr hlocks hK hP hD hS (by unfold f_Mo_thrower; rw [bndM_r w_1, if_neg c_2, if_pos cb_6, if_pos c_7, bndM_r w_8, bndM_r w_9, bndM_r w_10]) d_Mo_thrower_56
    · refine lv_aload_n hx hb d_Mo_thrower_30 rfl (lv_at hl 1 rfl) ?_
      refine lv_aload_n hx hb d_Mo_thrower_31 rfl (lv_at hl 1 rfl) ?_
      refine va_get (D := (dC, dI)) (ci := 6) (v := .int (q_at mo_1)) (C := R_Mo) (T := T_Mo) (N := 31) hx hb hts u_Mo hown hK hP 0 rfl rfl 6 (by decide) (hts _ L_927) (fun _ h9 => h9) rfl d_Mo_thrower_32 ?_
      refine mr_Vv (g := (f_Mo_refuse mo_1 (q_at mo_1))) (As := [.int (q_at mo_1)]) (rest := []) ⟨hx, hb, hml, hown, hts0⟩ (m_Mo_refuse l hlt dC dI cI cZ sa rk hm ma mo_1 _ (q_at mo_1) ) hP hD hK hS hA hC hZ hnt hlocks L_1072 L_1074 L_64 L_90 L_1075 k_Mo_refuse ⟨(by show _ ≤ fr0 + 8; omega), (by show _ ≤ lo0 + 122; omega)⟩ rfl rfl hl.1 (Nat.le_of_ble_eq_true rfl) d_Mo_thrower_35 rfl (fun q z => by unfold f_Mo_thrower; rw [bndM_r w_1, if_neg c_2, if_pos cb_6, if_neg c_7, bndM_l z]) (fun mo_11 H locs w_11 hP hD hS => ?_)
      refine lv_aload_n hx hb d_Mo_thrower_38 rfl (lv_at hl 1 rfl) ?_
      refine lv_iload_n hx hb d_Mo_thrower_39 rfl (lv_at hl 0 rfl) ?_
      refine lv_aload_n hx hb d_Mo_thrower_40 rfl (lv_at hl 1 rfl) ?_
      refine lv_iload_n hx hb d_Mo_thrower_41 rfl (lv_at hl 2 rfl) ?_
      refine lv_iconst (v := 1) hx hb d_Mo_thrower_42 (by decide) ?_
      refine lv_iadd hx hb d_Mo_thrower_43 ?_
      refine lv_iconst (v := 1) hx hb d_Mo_thrower_44 (by decide) ?_
      refine mr_Si (g := (K 0 [(depth + 1), 1] mo_11)) (As := [.ref hm, .int (depth + 1), .int 1]) (rest := [.int r_1, .ref hm]) ⟨hx, hb, hml, hown, hts0⟩ (hR0 mo_11 _ (depth + 1) 1 (fun z => hg (by unfold f_Mo_thrower; rw [bndM_r w_1, if_neg c_2, if_pos cb_6, if_neg c_7, bndM_r w_11, bndM_n z]))) hP hD hK hS hA hC hZ hnt hlocks L_1135 L_1136 L_90 L_1137 k_Mo_expression ⟨(by show _ ≤ fr0 + 8; omega), (by show _ ≤ lo0 + 122; omega)⟩ rfl rfl hl.1 (Nat.le_of_ble_eq_true rfl) d_Mo_thrower_45 rfl (fun q z => by unfold f_Mo_thrower; rw [bndM_r w_1, if_neg c_2, if_pos cb_6, if_neg c_7, bndM_r w_11, bndM_l z]) (fun r_12 mo_12 H locs w_12 hP hD hS => ?_)
      refine mr_Vv (g := (f_Mo_hang mo_12 r_1 r_12)) (As := [.int r_1, .int r_12]) (rest := []) ⟨hx, hb, hml, hown, hts0⟩ (m_Mo_hang l hlt dC dI cI cZ sa rk hm ma mo_12 _ r_1 r_12 (fun z => hg (by unfold f_Mo_thrower; rw [bndM_r w_1, if_neg c_2, if_pos cb_6, if_neg c_7, bndM_r w_11, bndM_r w_12, bndM_n z]))) hP hD hK hS hA hC hZ hnt hlocks L_1115 L_1117 L_69 L_90 L_1118 k_Mo_hang ⟨(by show _ ≤ fr0 + 8; omega), (by show _ ≤ lo0 + 122; omega)⟩ rfl rfl hl.1 (Nat.le_of_ble_eq_true rfl) d_Mo_thrower_48 rfl (fun q z => by unfold f_Mo_thrower; rw [bndM_r w_1, if_neg c_2, if_pos cb_6, if_neg c_7, bndM_r w_11, bndM_r w_12, bndM_l z]) (fun mo_13 H locs w_13 hP hD hS => ?_)
      refine lv_aload_n hx hb d_Mo_thrower_51 rfl (lv_at hl 1 rfl) ?_
      refine mr_Vv (g := (f_Mo_semicolon mo_13)) (As := []) (rest := []) ⟨hx, hb, hml, hown, hts0⟩ (m_Mo_semicolon l hlt dC dI cI cZ sa rk hm ma mo_13 _  (fun z => hg (by unfold f_Mo_thrower; rw [bndM_r w_1, if_neg c_2, if_pos cb_6, if_neg c_7, bndM_r w_11, bndM_r w_12, bndM_r w_13, bndM_n z]))) hP hD hK hS hA hC hZ hnt hlocks L_1209 L_1211 L_79 L_90 L_1212 k_Mo_semicolon ⟨(by show _ ≤ fr0 + 8; omega), (by show _ ≤ lo0 + 122; omega)⟩ rfl rfl hl.1 (Nat.le_of_ble_eq_true rfl) d_Mo_thrower_52 rfl (fun q z => by unfold f_Mo_thrower; rw [bndM_r w_1, if_neg c_2, if_pos cb_6, if_neg c_7, bndM_r w_11, bndM_r w_12, bndM_r w_13, bndM_l z]) (fun mo_14 H locs w_14 hP hD hS => ?_)
      refine lv_iload_n hx hb d_Mo_thrower_55 rfl (lv_at hl 0 rfl) ?_
      exact mr_iret (v := r_1) (mo := mo_14) hx hb hr hlocks hK hP hD hS (by unfold f_Mo_thrower; rw [bndM_r w_1, if_neg c_2, if_pos cb_6, if_neg c_7, bndM_r w_11, bndM_r w_12, bndM_r w_13, bndM_r w_14]) d_Mo_thrower_56
