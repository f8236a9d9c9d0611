/-! the reference: tell, parameters, debugger, leave, childrenOf, arguments, newOne, array, head, block -/
def f_Mo_tell_L3 (mark : Int32) (name : Int32) (what : Int32) (token : Int32) : Nat → Int32 → MO → Rm
  | 0, _, _ => none
  | fu_1 + 1, x5, sx_1 => (if (q_properties sx_1) ≤ x5 then (some (.inr (0, sx_1))) else (if inb x5 1000 then (if ((q_property sx_1) (x5 : Int32).toNatClampNeg) = name then (if what = 0 then (if ((q_sort sx_1) (x5 : Int32).toNatClampNeg) = 0 then (if (q_strict sx_1) = 0 then (f_Mo_tell_L3 mark name what token fu_1 (x5 + 1) sx_1) else (bndM (f_Mo_refuse sx_1 token) (fun _ mo_14 => (f_Mo_tell_L3 mark name what token fu_1 (x5 + 1) mo_14)))) else (bndM (f_Mo_refuse sx_1 token) (fun _ mo_12 => (f_Mo_tell_L3 mark name what token fu_1 (x5 + 1) mo_12)))) else (if ((q_sort sx_1) (x5 : Int32).toNatClampNeg) = 0 then (bndM (f_Mo_refuse sx_1 token) (fun _ mo_8 => (f_Mo_tell_L3 mark name what token fu_1 (x5 + 1) mo_8))) else (if ((q_sort sx_1) (x5 : Int32).toNatClampNeg) = what then (bndM (f_Mo_refuse sx_1 token) (fun _ mo_10 => (f_Mo_tell_L3 mark name what token fu_1 (x5 + 1) mo_10))) else (f_Mo_tell_L3 mark name what token fu_1 (x5 + 1) sx_1)))) else (f_Mo_tell_L3 mark name what token fu_1 (x5 + 1) sx_1)) else none))
def f_Mo_tell (mo : MO) (mark : Int32) (name : Int32) (what : Int32) (token : Int32) : Rm := (bndM (f_Mo_tell_L3 mark name what token 5000 mark mo) (fun _ se_1 => (if inb (q_properties se_1) 1000 then (some (.inr (0, (s_sort (s_property (s_properties se_1 ((q_properties se_1) + 1)) (upd (q_property se_1) ((q_properties se_1) : Int32).toNatClampNeg name)) (upd (q_sort se_1) ((q_properties se_1) : Int32).toNatClampNeg what))))) else none)))
set_option maxRecDepth 100000 in
set_option maxHeartbeats 4000000 in
theorem m_Mo_tell (l : Launch) (hlt : l.stackTraces = false) (dC : Nat → ClassId) (dI : Nat → Nat → Nat) (cI cZ : ClassId) (sa rk hm : Nat) (ma : Nat → Nat)  (mo : MO) (sz : Nat) (mark : Int32) (name : Int32) (what : Int32) (token : Int32) (hg : (f_Mo_tell mo mark name what token) ≠ none) : cXv l y_Mo_tell c_Mo_tell 7 (7) (102) (dC, dI) cI cZ sa rk hm ma mo sz [.ref hm, .int mark, .int name, .int what, .int token] (f_Mo_tell mo mark name what token) := by
  refine vx_ofW (cc := c_Mo_tell) (maxL := 7) (ret := none) (by decide) rfl ?_
  intro p e s m args below meth c s₁ B hml hnt hv
  obtain ⟨rfl, hsz, hP, hK, hD0, hC, hZ⟩ := hv
  have hx := B.exec
  have hb := B.bytes
  have hr := B.returns
  have hts0 := atoms_spec (ws := wy y_Mo_tell c_Mo_tell 7 none) B.pre
  have hts := htsL hts0
  have hown : s.vm.findClass R_Mo = some m.cls := findClass_of_methodNamed B.named
  have hlocks := B.notSynchronized
  subst hsz
  have hD := hD0.self (sz := s.heap.size)
  generalize hAe : va_A (wM cI cZ hm ma mo) s.heap.size = A at hD hZ ⊢
  have hA : ∀ q : Nat, s.heap.size ≤ q → A q := fun q h => by rw [← hAe]; exact Or.inr h
  have hS : va_S A s.heap s.heap [] := va_S.rf
  have hl := lv_entry ([.ref hm, .int mark, .int name, .int what, .int token]) (n := 7) (Nat.le_of_ble_eq_true rfl)
  rw [lg_entry_eq]
  generalize (lg_sl ([.ref hm, .int mark, .int name, .int what, .int token]) ++ List.replicate (7 - (lg_sl ([.ref hm, .int mark, .int name, .int what, .int token])).length) Slot.unset).toArray = ls at hl ⊢
  have hl : lv_has ls 7 [(0, .ref hm), (1, .int mark), (2, .int name), (3, .int what), (4, .int token)] := hl
  refine lv_iload_n hx hb d_Mo_tell_0 rfl (lv_at hl 1 rfl) ?_
  refine lv_istore (lv' := [(5, .int mark), (0, .ref hm), (1, .int mark), (2, .int name), (3, .int what), (4, .int token)]) hx hb d_Mo_tell_1 hl (by decide) rfl (fun ls hl => ?_)
  obtain ⟨x_1, hx_1⟩ : ∃ z, f_Mo_tell_L3 mark name what token 5000 mark mo = z := ⟨_, rfl⟩
  have hn_1 : x_1 ≠ none := (fun z => hg (by unfold f_Mo_tell; rw [bndM_n (hx_1.trans z)]))
  have hX_1 : ∀ q, x_1 = some (.inl q) → (f_Mo_tell mo mark name what token) = some (.inl q) := (fun q z => by unfold f_Mo_tell; rw [bndM_l (hx_1.trans z)])
  have lp_1 : ∀ (fu : Nat) (x5 : Int32) (sx_1 : MO) (H : Heap) (locs : List Loc) (ls : Array Slot), va_P (dC, dI) cls (wM cI cZ hm ma sx_1) H → va_D A (wM cI cZ hm ma sx_1) → va_S A s.heap H locs → lv_has ls 7 [(0, .ref hm), (1, .int mark), (2, .int name), (3, .int what), (4, .int token), (5, .int x5)] → x_1 = f_Mo_tell_L3 mark name what token fu x5 sx_1 → W p l e (headSpec (wy y_Mo_tell c_Mo_tell 7 none) { frames := (7), cells := 1, slots := 6, locals := (102) }).room s m [.ref hm, .int mark, .int name, .int what, .int token].toArray below meth c H locs 0 0 (vx_MQ below (va_Qv (fun u : MO => (f_Mo_tell mo mark name what token) = some (.inr (0, u))) (wB (dC, dI) cI cZ A (wM cI cZ hm ma)) A) (xM (dC, dI) cI cZ hm ma (f_Mo_tell mo mark name what token) A) [.ref hm, .int mark, .int name, .int what, .int token].toArray s (mcM (f_Mo_tell mo mark name what token)) (msM (f_Mo_tell mo mark name what token)) A) (F0 m 3 ls []) := by
    intro fu
    induction fu with
    | zero => intro x5 sx_1 H locs ls hP hD hS hl hL_1; exact absurd (hL_1.trans rfl) hn_1
    | succ fu_1 ih_1 =>
      intro x5 sx_1 H locs ls hP hD hS hl hL_1
      rw [f_Mo_tell_L3] at hL_1
      refine lv_iload hx hb d_Mo_tell_3 (lv_at hl 5 rfl) ?_
      refine lv_aload_n hx hb d_Mo_tell_5 rfl (lv_at hl 0 rfl) ?_
      refine va_get (D := (dC, dI)) (ci := 6) (v := .int (q_properties sx_1)) (C := R_Mo) (T := T_Mo) (N := 31) hx hb hts u_Mo hown hK hP 0 rfl rfl 28 (by decide) (hts _ L_949) (fun _ h9 => h9) rfl d_Mo_tell_6 ?_
      refine lv_icmp_ge (tgt := 99) hx hb d_Mo_tell_9 (by decide) (fun c_2 => ?_) (fun c_2 => ?_)
      · rw [if_pos c_2] at hL_1
        obtain ⟨se_1, hse_1⟩ : ∃ z : MO, z = sx_1 := ⟨_, rfl⟩
        have hP : va_P (dC, dI) cls (wM cI cZ hm ma se_1) H := by rw [hse_1]; exact hP
        have hD : va_D A (wM cI cZ hm ma se_1) := by rw [hse_1]; exact hD
        have we_1 : f_Mo_tell_L3 mark name what token 5000 mark mo = some (.inr (0, se_1)) := by rw [hse_1]; exact hx_1.trans hL_1
        have hl := lv_sub hl (l' := [(0, .ref hm), (1, .int mark), (2, .int name), (3, .int what), (4, .int token)]) [0, 1, 2, 3, 4] rfl
        refine lv_aload_n hx hb d_Mo_tell_99 rfl (lv_at hl 0 rfl) ?_
        refine va_get (D := (dC, dI)) (ci := 6) (v := .ref (ma 14)) (C := R_Mo) (T := T_Mo) (N := 31) hx hb hts u_Mo hown hK hP 0 rfl rfl 29 (by decide) (hts _ L_950) (fun _ h9 => h9) rfl d_Mo_tell_100 ?_
        refine lv_aload_n hx hb d_Mo_tell_103 rfl (lv_at hl 0 rfl) ?_
        refine va_get (D := (dC, dI)) (ci := 6) (v := .int (q_properties se_1)) (C := R_Mo) (T := T_Mo) (N := 31) hx hb hts u_Mo hown hK hP 0 rfl rfl 28 (by decide) (hts _ L_949) (fun _ h9 => h9) rfl d_Mo_tell_104 ?_
        refine lv_iload_n hx hb d_Mo_tell_107 rfl (lv_at hl 2 rfl) ?_
        by_cases cb_3 : inb (q_properties se_1) 1000
        case neg => exact absurd (by unfold f_Mo_tell; rw [bndM_r we_1, if_neg cb_3]) hg
        refine va_iast (D := (dC, dI)) hx hb hK hP hD hS 15 0 rfl rfl cb_3 d_Mo_tell_108 (fun H locs hP hD hS => ?_)
        have hP : va_P (dC, dI) cls (wM cI cZ hm ma (s_property se_1 (upd (q_property se_1) ((q_properties se_1) : Int32).toNatClampNeg name))) H := hP
        have hD : va_D A (wM cI cZ hm ma (s_property se_1 (upd (q_property se_1) ((q_properties se_1) : Int32).toNatClampNeg name))) := hD
        refine lv_aload_n hx hb d_Mo_tell_109 rfl (lv_at hl 0 rfl) ?_
        refine va_get (D := (dC, dI)) (ci := 6) (v := .ref (ma 15)) (C := R_Mo) (T := T_Mo) (N := 31) hx hb hts u_Mo hown hK hP 0 rfl rfl 30 (by decide) (hts _ L_951) (fun _ h9 => h9) rfl d_Mo_tell_110 ?_
        refine lv_aload_n hx hb d_Mo_tell_113 rfl (lv_at hl 0 rfl) ?_
        refine va_get (D := (dC, dI)) (ci := 6) (v := .int (q_properties se_1)) (C := R_Mo) (T := T_Mo) (N := 31) hx hb hts u_Mo hown hK hP 0 rfl rfl 28 (by decide) (hts _ L_949) (fun _ h9 => h9) rfl d_Mo_tell_114 ?_
        refine lv_iload_n hx hb d_Mo_tell_117 rfl (lv_at hl 3 rfl) ?_
        refine va_iast (D := (dC, dI)) hx hb hK hP hD hS 16 0 rfl rfl cb_3 d_Mo_tell_118 (fun H locs hP hD hS => ?_)
        have hP : va_P (dC, dI) cls (wM cI cZ hm ma (s_sort (s_property se_1 (upd (q_property se_1) ((q_properties se_1) : Int32).toNatClampNeg name)) (upd (q_sort se_1) ((q_properties se_1) : Int32).toNatClampNeg what))) H := hP
        have hD : va_D A (wM cI cZ hm ma (s_sort (s_property se_1 (upd (q_property se_1) ((q_properties se_1) : Int32).toNatClampNeg name)) (upd (q_sort se_1) ((q_properties se_1) : Int32).toNatClampNeg what))) := hD
        refine lv_aload_n hx hb d_Mo_tell_119 rfl (lv_at hl 0 rfl) ?_
        refine lv_dup hx hb d_Mo_tell_120 rfl ?_
        refine va_get (D := (dC, dI)) (ci := 6) (v := .int (q_properties se_1)) (C := R_Mo) (T := T_Mo) (N := 31) hx hb hts u_Mo hown hK hP 0 rfl rfl 28 (by decide) (hts _ L_949) (fun _ h9 => h9) rfl d_Mo_tell_121 ?_
        refine lv_iconst (v := 1) hx hb d_Mo_tell_124 (by decide) ?_
        refine lv_iadd hx hb d_Mo_tell_125 ?_
        refine va_put (D := (dC, dI)) (ci := 6) (v := .int ((q_properties se_1) + 1)) (ty := .int) (C := R_Mo) (T := T_Mo) (N := 31) hx hb hts u_Mo ty_Mo tk_Mo nm_Mo hown hK hP hD hS 0 rfl rfl 28 (by decide) (hts _ L_949) (fun _ h9 => h9) rfl (by decide +kernel) rfl rfl (Nat.le_of_ble_eq_true rfl) d_Mo_tell_126 (fun H locs hP hD hS => ?_)
        have hP : va_P (dC, dI) cls (wM cI cZ hm ma (s_sort (s_property (s_properties se_1 ((q_properties se_1) + 1)) (upd (q_property se_1) ((q_properties se_1) : Int32).toNatClampNeg name)) (upd (q_sort se_1) ((q_properties se_1) : Int32).toNatClampNeg what))) H := hP
        have hD : va_D A (wM cI cZ hm ma (s_sort (s_property (s_properties se_1 ((q_properties se_1) + 1)) (upd (q_property se_1) ((q_properties se_1) : Int32).toNatClampNeg name)) (upd (q_sort se_1) ((q_properties se_1) : Int32).toNatClampNeg what))) := hD
        exact mr_vret (mo := (s_sort (s_property (s_properties se_1 ((q_properties se_1) + 1)) (upd (q_property se_1) ((q_properties se_1) : Int32).toNatClampNeg name)) (upd (q_sort se_1) ((q_properties se_1) : Int32).toNatClampNeg what))) hx hb hr hlocks hK hP hD hS (by unfold f_Mo_tell; rw [bndM_r we_1, if_pos cb_3]) d_Mo_tell_129
      · rw [if_neg c_2] at hL_1
        refine lv_aload_n hx hb d_Mo_tell_12 rfl (lv_at hl 0 rfl) ?_
        refine va_get (D := (dC, dI)) (ci := 6) (v := .ref (ma 14)) (C := R_Mo) (T := T_Mo) (N := 31) hx hb hts u_Mo hown hK hP 0 rfl rfl 29 (by decide) (hts _ L_950) (fun _ h9 => h9) rfl d_Mo_tell_13 ?_
        refine lv_iload hx hb d_Mo_tell_16 (lv_at hl 5 rfl) ?_
        by_cases cb_4 : inb x5 1000
        case neg => exact absurd (hL_1.trans (if_neg cb_4)) hn_1
        rw [if_pos cb_4] at hL_1
        refine va_iald (D := (dC, dI)) hx hb hK hP 15 0 rfl rfl cb_4 d_Mo_tell_18 ?_
        refine lv_iload_n hx hb d_Mo_tell_19 rfl (lv_at hl 2 rfl) ?_
        refine lv_icmp_eq (tgt := 26) hx hb d_Mo_tell_20 (by decide) (fun c_5 => ?_) (fun c_5 => ?_)
        · rw [if_pos c_5] at hL_1
          refine lv_iload_n hx hb d_Mo_tell_26 rfl (lv_at hl 3 rfl) ?_
          refine lv_if_ne (tgt := 44) hx hb d_Mo_tell_27 (by decide) (fun c_6 => ?_) (fun c_6 => ?_)
          · rw [if_neg c_6] at hL_1
            refine lv_iconst (v := 0) hx hb d_Mo_tell_44 (by decide) ?_
            refine lv_istore (lv' := [(6, .int 0), (0, .ref hm), (1, .int mark), (2, .int name), (3, .int what), (4, .int token), (5, .int x5)]) hx hb d_Mo_tell_45 hl (by decide) rfl (fun ls hl => ?_)
            refine lv_iload hx hb d_Mo_tell_47 (lv_at hl 0 rfl) ?_
            refine lv_if_eq (tgt := 62) hx hb d_Mo_tell_49 (by decide) (fun _ => ?_) (fun q9 => absurd q9 (by decide))
            refine lv_iload_n hx hb d_Mo_tell_62 rfl (lv_at hl 4 rfl) ?_
            refine lv_if_eq (tgt := 87) hx hb d_Mo_tell_63 (by decide) (fun q9 => absurd q9 c_6) (fun _ => ?_)
            refine lv_aload_n hx hb d_Mo_tell_66 rfl (lv_at hl 1 rfl) ?_
            refine va_get (D := (dC, dI)) (ci := 6) (v := .ref (ma 15)) (C := R_Mo) (T := T_Mo) (N := 31) hx hb hts u_Mo hown hK hP 0 rfl rfl 30 (by decide) (hts _ L_951) (fun _ h9 => h9) rfl d_Mo_tell_67 ?_
            refine lv_iload hx hb d_Mo_tell_70 (lv_at hl 6 rfl) ?_
            refine va_iald (D := (dC, dI)) hx hb hK hP 16 0 rfl rfl cb_4 d_Mo_tell_72 ?_
            refine lv_if_eq (tgt := 87) hx hb d_Mo_tell_73 (by decide) (fun c_7 => ?_) (fun c_7 => ?_)
            · rw [if_pos c_7] at hL_1
              refine lv_aload_n hx hb d_Mo_tell_87 rfl (lv_at hl 1 rfl) ?_
              refine lv_iload hx hb d_Mo_tell_88 (lv_at hl 5 rfl) ?_
              refine mr_Vv (g := (f_Mo_refuse sx_1 token)) (As := [.int token]) (rest := []) ⟨hx, hb, hml, hown, hts0⟩ (m_Mo_refuse l hlt dC dI cI cZ sa rk hm ma sx_1 _ token ) hP hD hK hS hA hC hZ hnt hlocks L_1072 L_1074 L_64 L_90 L_1075 k_Mo_refuse ⟨(by show _ ≤ 7; omega), (by show _ ≤ 102; omega)⟩ rfl rfl hl.1 (Nat.le_of_ble_eq_true rfl) d_Mo_tell_90 rfl (fun q z => hX_1 q (hL_1.trans (bndM_l z))) (fun mo_8 H locs w_8 hP hD hS => ?_)
              rw [bndM_r w_8] at hL_1
              refine lv_iinc (v := (x5 + 1)) (lv' := [(5, .int (x5 + 1)), (6, .int 0), (0, .ref hm), (1, .int mark), (2, .int name), (3, .int what), (4, .int token)]) hx hb d_Mo_tell_93 hl (k := 6) rfl rfl (by decide) rfl (fun ls hl => ?_)
              refine lv_goto (tgt := 3) hx hb d_Mo_tell_96 (by decide) ?_
              exact ih_1 (x5 + 1) mo_8 _ _ ls hP hD hS (lv_sub hl [2, 3, 4, 5, 6, 0] rfl) hL_1
            · rw [if_neg c_7] at hL_1
              refine lv_aload_n hx hb d_Mo_tell_76 rfl (lv_at hl 1 rfl) ?_
              refine va_get (D := (dC, dI)) (ci := 6) (v := .ref (ma 15)) (C := R_Mo) (T := T_Mo) (N := 31) hx hb hts u_Mo hown hK hP 0 rfl rfl 30 (by decide) (hts _ L_951) (fun _ h9 => h9) rfl d_Mo_tell_77 ?_
              refine lv_iload hx hb d_Mo_tell_80 (lv_at hl 6 rfl) ?_
              refine va_iald (D := (dC, dI)) hx hb hK hP 16 0 rfl rfl cb_4 d_Mo_tell_82 ?_
              refine lv_iload_n hx hb d_Mo_tell_83 rfl (lv_at hl 4 rfl) ?_
              refine lv_icmp_ne (tgt := 93) hx hb d_Mo_tell_84 (by decide) (fun c_9 => ?_) (fun c_9 => ?_)
              · rw [if_neg c_9] at hL_1
                refine lv_iinc (v := (x5 + 1)) (lv' := [(5, .int (x5 + 1)), (6, .int 0), (0, .ref hm), (1, .int mark), (2, .int name), (3, .int what), (4, .int token)]) hx hb d_Mo_tell_93 hl (k := 6) rfl rfl (by decide) rfl (fun ls hl => ?_)
                refine lv_goto (tgt := 3) hx hb d_Mo_tell_96 (by decide) ?_
                exact ih_1 (x5 + 1) sx_1 _ _ ls hP hD hS (lv_sub hl [2, 3, 4, 5, 6, 0] rfl) hL_1
              · rw [if_pos c_9] at hL_1
                refine lv_aload_n hx hb d_Mo_tell_87 rfl (lv_at hl 1 rfl) ?_
                refine lv_iload hx hb d_Mo_tell_88 (lv_at hl 5 rfl) ?_
                refine mr_Vv (g := (f_Mo_refuse sx_1 token)) (As := [.int token]) (rest := []) ⟨hx, hb, hml, hown, hts0⟩ (m_Mo_refuse l hlt dC dI cI cZ sa rk hm ma sx_1 _ token ) hP hD hK hS hA hC hZ hnt hlocks L_1072 L_1074 L_64 L_90 L_1075 k_Mo_refuse ⟨(by show _ ≤ 7; omega), (by show _ ≤ 102; omega)⟩ rfl rfl hl.1 (Nat.le_of_ble_eq_true rfl) d_Mo_tell_90 rfl (fun q z => hX_1 q (hL_1.trans (bndM_l z))) (fun mo_10 H locs w_10 hP hD hS => ?_)
                rw [bndM_r w_10] at hL_1
                refine lv_iinc (v := (x5 + 1)) (lv' := [(5, .int (x5 + 1)), (6, .int 0), (0, .ref hm), (1, .int mark), (2, .int name), (3, .int what), (4, .int token)]) hx hb d_Mo_tell_93 hl (k := 6) rfl rfl (by decide) rfl (fun ls hl => ?_)
                refine lv_goto (tgt := 3) hx hb d_Mo_tell_96 (by decide) ?_
                exact ih_1 (x5 + 1) mo_10 _ _ ls hP hD hS (lv_sub hl [2, 3, 4, 5, 6, 0] rfl) hL_1
          · rw [if_pos c_6] at hL_1
            refine lv_aload_n hx hb d_Mo_tell_30 rfl (lv_at hl 0 rfl) ?_
            refine va_get (D := (dC, dI)) (ci := 6) (v := .ref (ma 15)) (C := R_Mo) (T := T_Mo) (N := 31) hx hb hts u_Mo hown hK hP 0 rfl rfl 30 (by decide) (hts _ L_951) (fun _ h9 => h9) rfl d_Mo_tell_31 ?_
            refine lv_iload hx hb d_Mo_tell_34 (lv_at hl 5 rfl) ?_
            refine va_iald (D := (dC, dI)) hx hb hK hP 16 0 rfl rfl cb_4 d_Mo_tell_36 ?_
            refine lv_if_ne (tgt := 44) hx hb d_Mo_tell_37 (by decide) (fun c_11 => ?_) (fun c_11 => ?_)
            · rw [if_neg c_11] at hL_1
              refine lv_iconst (v := 0) hx hb d_Mo_tell_44 (by decide) ?_
              refine lv_istore (lv' := [(6, .int 0), (0, .ref hm), (1, .int mark), (2, .int name), (3, .int what), (4, .int token), (5, .int x5)]) hx hb d_Mo_tell_45 hl (by decide) rfl (fun ls hl => ?_)
              refine lv_iload hx hb d_Mo_tell_47 (lv_at hl 0 rfl) ?_
              refine lv_if_eq (tgt := 62) hx hb d_Mo_tell_49 (by decide) (fun _ => ?_) (fun q9 => absurd q9 (by decide))
              refine lv_iload_n hx hb d_Mo_tell_62 rfl (lv_at hl 4 rfl) ?_
              refine lv_if_eq (tgt := 87) hx hb d_Mo_tell_63 (by decide) (fun _ => ?_) (fun q9 => absurd c_6 q9)
              refine lv_aload_n hx hb d_Mo_tell_87 rfl (lv_at hl 1 rfl) ?_
              refine lv_iload hx hb d_Mo_tell_88 (lv_at hl 5 rfl) ?_
              refine mr_Vv (g := (f_Mo_refuse sx_1 token)) (As := [.int token]) (rest := []) ⟨hx, hb, hml, hown, hts0⟩ (m_Mo_refuse l hlt dC dI cI cZ sa rk hm ma sx_1 _ token ) hP hD hK hS hA hC hZ hnt hlocks L_1072 L_1074 L_64 L_90 L_1075 k_Mo_refuse ⟨(by show _ ≤ 7; omega), (by show _ ≤ 102; omega)⟩ rfl rfl hl.1 (Nat.le_of_ble_eq_true rfl) d_Mo_tell_90 rfl (fun q z => hX_1 q (hL_1.trans (bndM_l z))) (fun mo_12 H locs w_12 hP hD hS => ?_)
              rw [bndM_r w_12] at hL_1
              refine lv_iinc (v := (x5 + 1)) (lv' := [(5, .int (x5 + 1)), (6, .int 0), (0, .ref hm), (1, .int mark), (2, .int name), (3, .int what), (4, .int token)]) hx hb d_Mo_tell_93 hl (k := 6) rfl rfl (by decide) rfl (fun ls hl => ?_)
              refine lv_goto (tgt := 3) hx hb d_Mo_tell_96 (by decide) ?_
              exact ih_1 (x5 + 1) mo_12 _ _ ls hP hD hS (lv_sub hl [2, 3, 4, 5, 6, 0] rfl) hL_1
            · rw [if_pos c_11] at hL_1
              refine lv_iconst (v := 1) hx hb d_Mo_tell_40 (by decide) ?_
              refine lv_goto (tgt := 45) hx hb d_Mo_tell_41 (by decide) ?_
              refine lv_istore (lv' := [(6, .int 1), (0, .ref hm), (1, .int mark), (2, .int name), (3, .int what), (4, .int token), (5, .int x5)]) hx hb d_Mo_tell_45 hl (by decide) rfl (fun ls hl => ?_)
              refine lv_iload hx hb d_Mo_tell_47 (lv_at hl 0 rfl) ?_
              refine lv_if_eq (tgt := 62) hx hb d_Mo_tell_49 (by decide) (fun q9 => absurd q9 (by decide)) (fun _ => ?_)
              refine lv_aload_n hx hb d_Mo_tell_52 rfl (lv_at hl 1 rfl) ?_
              refine va_get (D := (dC, dI)) (ci := 6) (v := .int (q_strict sx_1)) (C := R_Mo) (T := T_Mo) (N := 31) hx hb hts u_Mo hown hK hP 0 rfl rfl 19 (by decide) (hts _ L_940) (fun _ h9 => h9) rfl d_Mo_tell_53 ?_
              refine lv_if_eq (tgt := 93) hx hb d_Mo_tell_56 (by decide) (fun c_13 => ?_) (fun c_13 => ?_)
              · rw [if_pos c_13] at hL_1
                refine lv_iinc (v := (x5 + 1)) (lv' := [(5, .int (x5 + 1)), (6, .int 1), (0, .ref hm), (1, .int mark), (2, .int name), (3, .int what), (4, .int token)]) hx hb d_Mo_tell_93 hl (k := 6) rfl rfl (by decide) rfl (fun ls hl => ?_)
                refine lv_goto (tgt := 3) hx hb d_Mo_tell_96 (by decide) ?_
                exact ih_1 (x5 + 1) sx_1 _ _ ls hP hD hS (lv_sub hl [2, 3, 4, 5, 6, 0] rfl) hL_1
              · rw [if_neg c_13] at hL_1
                refine lv_goto (tgt := 87) hx hb d_Mo_tell_59 (by decide) ?_
                refine lv_aload_n hx hb d_Mo_tell_87 rfl (lv_at hl 1 rfl) ?_
                refine lv_iload hx hb d_Mo_tell_88 (lv_at hl 5 rfl) ?_
                refine mr_Vv (g := (f_Mo_refuse sx_1 token)) (As := [.int token]) (rest := []) ⟨hx, hb, hml, hown, hts0⟩ (m_Mo_refuse l hlt dC dI cI cZ sa rk hm ma sx_1 _ token ) hP hD hK hS hA hC hZ hnt hlocks L_1072 L_1074 L_64 L_90 L_1075 k_Mo_refuse ⟨(by show _ ≤ 7; omega), (by show _ ≤ 102; omega)⟩ rfl rfl hl.1 (Nat.le_of_ble_eq_true rfl) d_Mo_tell_90 rfl (fun q z => hX_1 q (hL_1.trans (bndM_l z))) (fun mo_14 H locs w_14 hP hD hS => ?_)
                rw [bndM_r w_14] at hL_1
                refine lv_iinc (v := (x5 + 1)) (lv' := [(5, .int (x5 + 1)), (6, .int 1), (0, .ref hm), (1, .int mark), (2, .int name), (3, .int what), (4, .int token)]) hx hb d_Mo_tell_93 hl (k := 6) rfl rfl (by decide) rfl (fun ls hl => ?_)
                refine lv_goto (tgt := 3) hx hb d_Mo_tell_96 (by decide) ?_
                exact ih_1 (x5 + 1) mo_14 _ _ ls hP hD hS (lv_sub hl [2, 3, 4, 5, 6, 0] rfl) hL_1
        · rw [if_neg c_5] at hL_1
          refine lv_goto (tgt := 93) hx hb d_Mo_tell_23 (by decide) ?_
          refine lv_iinc (v := (x5 + 1)) (lv' := [(5, .int (x5 + 1)), (0, .ref hm), (1, .int mark), (2, .int name), (3, .int what), (4, .int token)]) hx hb d_Mo_tell_93 hl (k := 5) rfl rfl (by decide) rfl (fun ls hl => ?_)
          refine lv_goto (tgt := 3) hx hb d_Mo_tell_96 (by decide) ?_
          exact ih_1 (x5 + 1) sx_1 _ _ ls hP hD hS (lv_sub hl [1, 2, 3, 4, 5, 0] rfl) hL_1
  exact lp_1 5000 mark mo _ _ ls hP hD hS (lv_sub hl [1, 2, 3, 4, 5, 0] rfl) hx_1.symm
def f_Mo_parameters_L39 (node : Int32) (e4 : Int32) (e5 : Int32) : Nat → Int32 → MO → Rm
  | 0, _, _ => none
  | fu_6 + 1, x6, sx_6 => (if (q_properties sx_6) ≤ x6 then (some (.inr (0, sx_6))) else (if inb x6 1000 then (if ((q_property sx_6) (x6 : Int32).toNatClampNeg) = e5 then (if (q_strict sx_6) = 0 then (f_Mo_parameters_L39 node e4 e5 fu_6 (x6 + 1) (s_loose sx_6 1)) else (bndM (f_Mo_refuse sx_6 e4) (fun _ mo_16 => (f_Mo_parameters_L39 node e4 e5 fu_6 (x6 + 1) (s_loose mo_16 1))))) else (f_Mo_parameters_L39 node e4 e5 fu_6 (x6 + 1) sx_6)) else none))
def f_Mo_parameters_L20 (node : Int32) (e2 : Int32) : Nat → Int32 → MO → Rm
  | 0, _, _ => none
  | fu_3 + 1, x3, sx_3 => (if x3 = 0 then (some (.inr (0, sx_3))) else (bndM (f_Mo_declared sx_3) (fun r_5 mo_5 => (bndM (f_Mo_parameters_L39 node (q_at sx_3) r_5 5000 e2 mo_5) (fun _ se_6 => (if inb (q_properties se_6) 1000 then (bndM (f_Mo_make (s_property (s_properties se_6 ((q_properties se_6) + 1)) (upd (q_property se_6) ((q_properties se_6) : Int32).toNatClampNeg r_5)) 25 r_5 (q_at sx_3)) (fun r_9 mo_9 => (bndM (f_Mo_hang mo_9 node r_9) (fun _ mo_10 => (bndM (f_Mo_isSign mo_10 68) (fun r_11 mo_11 => (if r_11 = 0 then (f_Mo_parameters_L20 node e2 fu_3 r_11 mo_11) else (f_Mo_parameters_L20 node e2 fu_3 r_11 (s_at mo_11 ((q_at mo_11) + 1)))))))))) else none))))))
def f_Mo_parameters (mo : MO) (node : Int32) : Rm := (bndM (f_Mo_isSign mo 61) (fun r_1 mo_1 => (if r_1 = 0 then (bndM (f_Mo_parameters_L20 node (q_properties mo) 5000 1 mo_1) (fun _ se_17 => (some (.inr (0, (s_properties se_17 (q_properties mo))))))) else (bndM (f_Mo_parameters_L20 node (q_properties mo) 5000 0 mo_1) (fun _ se_3 => (some (.inr (0, (s_properties se_3 (q_properties mo))))))))))
set_option maxRecDepth 100000 in
set_option maxHeartbeats 4000000 in
theorem m_Mo_parameters (l : Launch) (hlt : l.stackTraces = false) (dC : Nat → ClassId) (dI : Nat → Nat → Nat) (cI cZ : ClassId) (sa rk hm : Nat) (ma : Nat → Nat)  (mo : MO) (sz : Nat) (node : Int32) (hg : (f_Mo_parameters mo node) ≠ none) : cXv l y_Mo_parameters c_Mo_parameters 7 (9) (144) (dC, dI) cI cZ sa rk hm ma mo sz [.ref hm, .int node] (f_Mo_parameters mo node) := by
  refine vx_ofW (cc := c_Mo_parameters) (maxL := 7) (ret := none) (by decide) rfl ?_
  intro p e s m args below meth c s₁ B hml hnt hv
  obtain ⟨rfl, hsz, hP, hK, hD0, hC, hZ⟩ := hv
  have hx := B.exec
  have hb := B.bytes
  have hr := B.returns
  have hts0 := atoms_spec (ws := wy y_Mo_parameters c_Mo_parameters 7 none) B.pre
  have hts := htsL hts0
  have hown : s.vm.findClass R_Mo = some m.cls := findClass_of_methodNamed B.named
  have hlocks := B.notSynchronized
  subst hsz
  have hD := hD0.self (sz := s.heap.size)
  generalize hAe : va_A (wM cI cZ hm ma mo) s.heap.size = A at hD hZ ⊢
  have hA : ∀ q : Nat, s.heap.size ≤ q → A q := fun q h => by rw [← hAe]; exact Or.inr h
  have hS : va_S A s.heap s.heap [] := va_S.rf
  have hl := lv_entry ([.ref hm, .int node]) (n := 7) (Nat.le_of_ble_eq_true rfl)
  rw [lg_entry_eq]
  generalize (lg_sl ([.ref hm, .int node]) ++ List.replicate (7 - (lg_sl ([.ref hm, .int node])).length) Slot.unset).toArray = ls at hl ⊢
  have hl : lv_has ls 7 [(0, .ref hm), (1, .int node)] := hl
  refine lv_aload_n hx hb d_Mo_parameters_0 rfl (lv_at hl 0 rfl) ?_
  refine va_get (D := (dC, dI)) (ci := 6) (v := .int (q_properties mo)) (C := R_Mo) (T := T_Mo) (N := 31) hx hb hts u_Mo hown hK hP 0 rfl rfl 28 (by decide) (hts _ L_949) (fun _ h9 => h9) rfl d_Mo_parameters_1 ?_
  refine lv_istore_n (lv' := [(2, .int (q_properties mo)), (0, .ref hm), (1, .int node)]) hx hb d_Mo_parameters_4 rfl hl (by decide) rfl (fun ls hl => ?_)
  refine lv_aload_n hx hb d_Mo_parameters_5 rfl (lv_at hl 1 rfl) ?_
  refine lv_bipush (v := 61) hx hb d_Mo_parameters_6 (by decide) ?_
  refine mr_Vi (g := (f_Mo_isSign mo 61)) (As := [.int 61]) (rest := []) ⟨hx, hb, hml, hown, hts0⟩ (m_Mo_isSign l hlt dC dI cI cZ sa rk hm ma mo _ 61 (fun z => hg (by unfold f_Mo_parameters; rw [bndM_n z]))) hP hD hK hS hA hC hZ hnt hlocks L_1053 L_1055 L_60 L_90 L_1056 k_Mo_isSign ⟨(by show _ ≤ 9; omega), (by show _ ≤ 144; omega)⟩ rfl rfl hl.1 (Nat.le_of_ble_eq_true rfl) d_Mo_parameters_8 rfl (fun q z => by unfold f_Mo_parameters; rw [bndM_l z]) (fun r_1 mo_1 H locs w_1 hP hD hS => ?_)
  refine lv_if_ne (tgt := 18) hx hb d_Mo_parameters_11 (by decide) (fun c_2 => ?_) (fun c_2 => ?_)
  · refine lv_iconst (v := 0) hx hb d_Mo_parameters_18 (by decide) ?_
    refine lv_istore_n (lv' := [(3, .int 0), (2, .int (q_properties mo)), (0, .ref hm), (1, .int node)]) hx hb d_Mo_parameters_19 rfl hl (by decide) rfl (fun ls hl => ?_)
    obtain ⟨x_3, hx_3⟩ : ∃ z, f_Mo_parameters_L20 node (q_properties mo) 5000 0 mo_1 = z := ⟨_, rfl⟩
    have hn_3 : x_3 ≠ none := (fun z => hg (by unfold f_Mo_parameters; rw [bndM_r w_1, if_neg c_2, bndM_n (hx_3.trans z)]))
    have hX_3 : ∀ q, x_3 = some (.inl q) → (f_Mo_parameters mo node) = some (.inl q) := (fun q z => by unfold f_Mo_parameters; rw [bndM_r w_1, if_neg c_2, bndM_l (hx_3.trans z)])
    have lp_3 : ∀ (fu : Nat) (x3 : Int32) (sx_3 : MO) (H : Heap) (locs : List Loc) (ls : Array Slot), va_P (dC, dI) cls (wM cI cZ hm ma sx_3) H → va_D A (wM cI cZ hm ma sx_3) → va_S A s.heap H locs → lv_has ls 7 [(0, .ref hm), (1, .int node), (2, .int (q_properties mo)), (3, .int x3)] → x_3 = f_Mo_parameters_L20 node (q_properties mo) fu x3 sx_3 → W p l e (headSpec (wy y_Mo_parameters c_Mo_parameters 7 none) { frames := (9), cells := 1, slots := 6, locals := (144) }).room s m [.ref hm, .int node].toArray below meth c H locs 0 0 (vx_MQ below (va_Qv (fun u : MO => (f_Mo_parameters mo node) = some (.inr (0, u))) (wB (dC, dI) cI cZ A (wM cI cZ hm ma)) A) (xM (dC, dI) cI cZ hm ma (f_Mo_parameters mo node) A) [.ref hm, .int node].toArray s (mcM (f_Mo_parameters mo node)) (msM (f_Mo_parameters mo node)) A) (F0 m 20 ls []) := by
      intro fu
      induction fu with
      | zero => intro x3 sx_3 H locs ls hP hD hS hl hL_3; exact absurd (hL_3.trans rfl) hn_3
      | succ fu_3 ih_3 =>
        intro x3 sx_3 H locs ls hP hD hS hl hL_3
        rw [f_Mo_parameters_L20] at hL_3
        refine lv_iload_n hx hb d_Mo_parameters_20 rfl (lv_at hl 3 rfl) ?_
        refine lv_if_eq (tgt := 147) hx hb d_Mo_parameters_21 (by decide) (fun c_4 => ?_) (fun c_4 => ?_)
        · rw [if_pos c_4] at hL_3
          obtain ⟨se_3, hse_3⟩ : ∃ z : MO, z = sx_3 := ⟨_, rfl⟩
          have hP : va_P (dC, dI) cls (wM cI cZ hm ma se_3) H := by rw [hse_3]; exact hP
          have hD : va_D A (wM cI cZ hm ma se_3) := by rw [hse_3]; exact hD
          have we_3 : f_Mo_parameters_L20 node (q_properties mo) 5000 0 mo_1 = some (.inr (0, se_3)) := by rw [hse_3]; exact hx_3.trans hL_3
          have hl := lv_sub hl (l' := [(0, .ref hm), (1, .int node), (2, .int (q_properties mo))]) [0, 1, 2] rfl
          refine lv_aload_n hx hb d_Mo_parameters_147 rfl (lv_at hl 0 rfl) ?_
          refine lv_iload_n hx hb d_Mo_parameters_148 rfl (lv_at hl 2 rfl) ?_
          refine va_put (D := (dC, dI)) (ci := 6) (v := .int (q_properties mo)) (ty := .int) (C := R_Mo) (T := T_Mo) (N := 31) hx hb hts u_Mo ty_Mo tk_Mo nm_Mo hown hK hP hD hS 0 rfl rfl 28 (by decide) (hts _ L_949) (fun _ h9 => h9) rfl (by decide +kernel) rfl rfl (Nat.le_of_ble_eq_true rfl) d_Mo_parameters_149 (fun H locs hP hD hS => ?_)
          have hP : va_P (dC, dI) cls (wM cI cZ hm ma (s_properties se_3 (q_properties mo))) H := hP
          have hD : va_D A (wM cI cZ hm ma (s_properties se_3 (q_properties mo))) := hD
          exact mr_vret (mo := (s_properties se_3 (q_properties mo))) hx hb hr hlocks hK hP hD hS (by unfold f_Mo_parameters; rw [bndM_r w_1, if_neg c_2, bndM_r we_3]) d_Mo_parameters_152
        · rw [if_neg c_4] at hL_3
          refine lv_aload_n hx hb d_Mo_parameters_24 rfl (lv_at hl 0 rfl) ?_
          refine va_get (D := (dC, dI)) (ci := 6) (v := .int (q_at sx_3)) (C := R_Mo) (T := T_Mo) (N := 31) hx hb hts u_Mo hown hK hP 0 rfl rfl 6 (by decide) (hts _ L_927) (fun _ h9 => h9) rfl d_Mo_parameters_25 ?_
          refine lv_istore (lv' := [(4, .int (q_at sx_3)), (0, .ref hm), (1, .int node), (2, .int (q_properties mo)), (3, .int x3)]) hx hb d_Mo_parameters_28 hl (by decide) rfl (fun ls hl => ?_)
          refine lv_aload_n hx hb d_Mo_parameters_30 rfl (lv_at hl 1 rfl) ?_
          refine mr_Vi (g := (f_Mo_declared sx_3)) (As := []) (rest := []) ⟨hx, hb, hml, hown, hts0⟩ (m_Mo_declared l hlt dC dI cI cZ sa rk hm ma sx_3 _  (fun z => hn_3 (hL_3.trans (bndM_n z)))) hP hD hK hS hA hC hZ hnt hlocks L_1099 L_1101 L_65 L_90 L_1102 k_Mo_declared ⟨(by show _ ≤ 9; omega), (by show _ ≤ 144; omega)⟩ rfl rfl hl.1 (Nat.le_of_ble_eq_true rfl) d_Mo_parameters_31 rfl (fun q z => hX_3 q (hL_3.trans (bndM_l z))) (fun r_5 mo_5 H locs w_5 hP hD hS => ?_)
          rw [bndM_r w_5] at hL_3
          refine lv_istore (lv' := [(5, .int r_5), (4, .int (q_at sx_3)), (0, .ref hm), (1, .int node), (2, .int (q_properties mo)), (3, .int x3)]) hx hb d_Mo_parameters_34 hl (by decide) rfl (fun ls hl => ?_)
          refine lv_iload_n hx hb d_Mo_parameters_36 rfl (lv_at hl 4 rfl) ?_
          refine lv_istore (lv' := [(6, .int (q_properties mo)), (5, .int r_5), (4, .int (q_at sx_3)), (0, .ref hm), (1, .int node), (2, .int (q_properties mo)), (3, .int x3)]) hx hb d_Mo_parameters_37 hl (by decide) rfl (fun ls hl => ?_)
          obtain ⟨x_6, hx_6⟩ : ∃ z, f_Mo_parameters_L39 node (q_at sx_3) r_5 5000 (q_properties mo) mo_5 = z := ⟨_, rfl⟩
          have hn_6 : x_6 ≠ none := (fun z => hn_3 (hL_3.trans (bndM_n (hx_6.trans z))))
          have hX_6 : ∀ q, x_6 = some (.inl q) → (f_Mo_parameters mo node) = some (.inl q) := (fun q z => hX_3 q (hL_3.trans (bndM_l (hx_6.trans z))))
          have lp_6 : ∀ (fu : Nat) (x6 : Int32) (sx_6 : MO) (H : Heap) (locs : List Loc) (ls : Array Slot), va_P (dC, dI) cls (wM cI cZ hm ma sx_6) H → va_D A (wM cI cZ hm ma sx_6) → va_S A s.heap H locs → lv_has ls 7 [(0, .ref hm), (1, .int node), (2, .int (q_properties mo)), (3, .int x3), (4, .int (q_at sx_3)), (5, .int r_5), (6, .int x6)] → x_6 = f_Mo_parameters_L39 node (q_at sx_3) r_5 fu x6 sx_6 → W p l e (headSpec (wy y_Mo_parameters c_Mo_parameters 7 none) { frames := (9), cells := 1, slots := 6, locals := (144) }).room s m [.ref hm, .int node].toArray below meth c H locs 0 0 (vx_MQ below (va_Qv (fun u : MO => (f_Mo_parameters mo node) = some (.inr (0, u))) (wB (dC, dI) cI cZ A (wM cI cZ hm ma)) A) (xM (dC, dI) cI cZ hm ma (f_Mo_parameters mo node) A) [.ref hm, .int node].toArray s (mcM (f_Mo_parameters mo node)) (msM (f_Mo_parameters mo node)) A) (F0 m 39 ls []) := by
            intro fu
            induction fu with
            | zero => intro x6 sx_6 H locs ls hP hD hS hl hL_6; exact absurd (hL_6.trans rfl) hn_6
            | succ fu_6 ih_6 =>
              intro x6 sx_6 H locs ls hP hD hS hl hL_6
              rw [f_Mo_parameters_L39] at hL_6
              refine lv_iload hx hb d_Mo_parameters_39 (lv_at hl 6 rfl) ?_
              refine lv_aload_n hx hb d_Mo_parameters_41 rfl (lv_at hl 0 rfl) ?_
              refine va_get (D := (dC, dI)) (ci := 6) (v := .int (q_properties sx_6)) (C := R_Mo) (T := T_Mo) (N := 31) hx hb hts u_Mo hown hK hP 0 rfl rfl 28 (by decide) (hts _ L_949) (fun _ h9 => h9) rfl d_Mo_parameters_42 ?_
              refine lv_icmp_ge (tgt := 87) hx hb d_Mo_parameters_45 (by decide) (fun c_7 => ?_) (fun c_7 => ?_)
              · rw [if_pos c_7] at hL_6
                obtain ⟨se_6, hse_6⟩ : ∃ z : MO, z = sx_6 := ⟨_, rfl⟩
                have hP : va_P (dC, dI) cls (wM cI cZ hm ma se_6) H := by rw [hse_6]; exact hP
                have hD : va_D A (wM cI cZ hm ma se_6) := by rw [hse_6]; exact hD
                have we_6 : f_Mo_parameters_L39 node (q_at sx_3) r_5 5000 (q_properties mo) mo_5 = some (.inr (0, se_6)) := by rw [hse_6]; exact hx_6.trans hL_6
                have hl := lv_sub hl (l' := [(0, .ref hm), (1, .int node), (2, .int (q_properties mo)), (3, .int x3), (4, .int (q_at sx_3)), (5, .int r_5)]) [0, 1, 2, 3, 4, 5] rfl
                rw [bndM_r we_6] at hL_3
                refine lv_aload_n hx hb d_Mo_parameters_87 rfl (lv_at hl 0 rfl) ?_
                refine va_get (D := (dC, dI)) (ci := 6) (v := .ref (ma 14)) (C := R_Mo) (T := T_Mo) (N := 31) hx hb hts u_Mo hown hK hP 0 rfl rfl 29 (by decide) (hts _ L_950) (fun _ h9 => h9) rfl d_Mo_parameters_88 ?_
                refine lv_aload_n hx hb d_Mo_parameters_91 rfl (lv_at hl 0 rfl) ?_
                refine va_get (D := (dC, dI)) (ci := 6) (v := .int (q_properties se_6)) (C := R_Mo) (T := T_Mo) (N := 31) hx hb hts u_Mo hown hK hP 0 rfl rfl 28 (by decide) (hts _ L_949) (fun _ h9 => h9) rfl d_Mo_parameters_92 ?_
                refine lv_iload hx hb d_Mo_parameters_95 (lv_at hl 5 rfl) ?_
                by_cases cb_8 : inb (q_properties se_6) 1000
                case neg => exact absurd (hL_3.trans (if_neg cb_8)) hn_3
                rw [if_pos cb_8] at hL_3
                refine va_iast (D := (dC, dI)) hx hb hK hP hD hS 15 0 rfl rfl cb_8 d_Mo_parameters_97 (fun H locs hP hD hS => ?_)
                have hP : va_P (dC, dI) cls (wM cI cZ hm ma (s_property se_6 (upd (q_property se_6) ((q_properties se_6) : Int32).toNatClampNeg r_5))) H := hP
                have hD : va_D A (wM cI cZ hm ma (s_property se_6 (upd (q_property se_6) ((q_properties se_6) : Int32).toNatClampNeg r_5))) := hD
                refine lv_aload_n hx hb d_Mo_parameters_98 rfl (lv_at hl 0 rfl) ?_
                refine lv_dup hx hb d_Mo_parameters_99 rfl ?_
                refine va_get (D := (dC, dI)) (ci := 6) (v := .int (q_properties se_6)) (C := R_Mo) (T := T_Mo) (N := 31) hx hb hts u_Mo hown hK hP 0 rfl rfl 28 (by decide) (hts _ L_949) (fun _ h9 => h9) rfl d_Mo_parameters_100 ?_
                refine lv_iconst (v := 1) hx hb d_Mo_parameters_103 (by decide) ?_
                refine lv_iadd hx hb d_Mo_parameters_104 ?_
                refine va_put (D := (dC, dI)) (ci := 6) (v := .int ((q_properties se_6) + 1)) (ty := .int) (C := R_Mo) (T := T_Mo) (N := 31) hx hb hts u_Mo ty_Mo tk_Mo nm_Mo hown hK hP hD hS 0 rfl rfl 28 (by decide) (hts _ L_949) (fun _ h9 => h9) rfl (by decide +kernel) rfl rfl (Nat.le_of_ble_eq_true rfl) d_Mo_parameters_105 (fun H locs hP hD hS => ?_)
                have hP : va_P (dC, dI) cls (wM cI cZ hm ma (s_property (s_properties se_6 ((q_properties se_6) + 1)) (upd (q_property se_6) ((q_properties se_6) : Int32).toNatClampNeg r_5))) H := hP
                have hD : va_D A (wM cI cZ hm ma (s_property (s_properties se_6 ((q_properties se_6) + 1)) (upd (q_property se_6) ((q_properties se_6) : Int32).toNatClampNeg r_5))) := hD
                refine lv_aload_n hx hb d_Mo_parameters_108 rfl (lv_at hl 0 rfl) ?_
                refine lv_iload_n hx hb d_Mo_parameters_109 rfl (lv_at hl 1 rfl) ?_
                refine lv_aload_n hx hb d_Mo_parameters_110 rfl (lv_at hl 0 rfl) ?_
                refine lv_bipush (v := 25) hx hb d_Mo_parameters_111 (by decide) ?_
                refine lv_iload hx hb d_Mo_parameters_113 (lv_at hl 5 rfl) ?_
                refine lv_iload hx hb d_Mo_parameters_115 (lv_at hl 4 rfl) ?_
                refine mr_Vi (g := (f_Mo_make (s_property (s_properties se_6 ((q_properties se_6) + 1)) (upd (q_property se_6) ((q_properties se_6) : Int32).toNatClampNeg r_5)) 25 r_5 (q_at sx_3))) (As := [.int 25, .int r_5, .int (q_at sx_3)]) (rest := [.int node, .ref hm]) ⟨hx, hb, hml, hown, hts0⟩ (m_Mo_make l hlt dC dI cI cZ sa rk hm ma (s_property (s_properties se_6 ((q_properties se_6) + 1)) (upd (q_property se_6) ((q_properties se_6) : Int32).toNatClampNeg r_5)) _ 25 r_5 (q_at sx_3) (fun z => hn_3 (hL_3.trans (bndM_n z)))) hP hD hK hS hA hC hZ hnt hlocks L_1046 L_1048 L_59 L_90 L_1049 k_Mo_make ⟨(by show _ ≤ 9; omega), (by show _ ≤ 144; omega)⟩ rfl rfl hl.1 (Nat.le_of_ble_eq_true rfl) d_Mo_parameters_117 rfl (fun q z => hX_3 q (hL_3.trans (bndM_l z))) (fun r_9 mo_9 H locs w_9 hP hD hS => ?_)
                rw [bndM_r w_9] at hL_3
                refine mr_Vv (g := (f_Mo_hang mo_9 node r_9)) (As := [.int node, .int r_9]) (rest := []) ⟨hx, hb, hml, hown, hts0⟩ (m_Mo_hang l hlt dC dI cI cZ sa rk hm ma mo_9 _ node r_9 (fun z => hn_3 (hL_3.trans (bndM_n z)))) hP hD hK hS hA hC hZ hnt hlocks L_1115 L_1117 L_69 L_90 L_1118 k_Mo_hang ⟨(by show _ ≤ 9; omega), (by show _ ≤ 144; omega)⟩ rfl rfl hl.1 (Nat.le_of_ble_eq_true rfl) d_Mo_parameters_120 rfl (fun q z => hX_3 q (hL_3.trans (bndM_l z))) (fun mo_10 H locs w_10 hP hD hS => ?_)
                rw [bndM_r w_10] at hL_3
                refine lv_aload_n hx hb d_Mo_parameters_123 rfl (lv_at hl 0 rfl) ?_
                refine lv_bipush (v := 68) hx hb d_Mo_parameters_124 (by decide) ?_
                refine mr_Vi (g := (f_Mo_isSign mo_10 68)) (As := [.int 68]) (rest := []) ⟨hx, hb, hml, hown, hts0⟩ (m_Mo_isSign l hlt dC dI cI cZ sa rk hm ma mo_10 _ 68 (fun z => hn_3 (hL_3.trans (bndM_n z)))) hP hD hK hS hA hC hZ hnt hlocks L_1053 L_1055 L_60 L_90 L_1056 k_Mo_isSign ⟨(by show _ ≤ 9; omega), (by show _ ≤ 144; omega)⟩ rfl rfl hl.1 (Nat.le_of_ble_eq_true rfl) d_Mo_parameters_126 rfl (fun q z => hX_3 q (hL_3.trans (bndM_l z))) (fun r_11 mo_11 H locs w_11 hP hD hS => ?_)
                rw [bndM_r w_11] at hL_3
                refine lv_istore_n (lv' := [(3, .int r_11), (0, .ref hm), (1, .int node), (2, .int (q_properties mo)), (4, .int (q_at sx_3)), (5, .int r_5)]) hx hb d_Mo_parameters_129 rfl hl (by decide) rfl (fun ls hl => ?_)
                refine lv_iload_n hx hb d_Mo_parameters_130 rfl (lv_at hl 0 rfl) ?_
                refine lv_if_eq (tgt := 144) hx hb d_Mo_parameters_131 (by decide) (fun c_12 => ?_) (fun c_12 => ?_)
                · rw [if_pos c_12] at hL_3
                  refine lv_goto (tgt := 20) hx hb d_Mo_parameters_144 (by decide) ?_
                  exact ih_3 r_11 mo_11 _ _ ls hP hD hS (lv_sub hl [1, 2, 3, 0] rfl) hL_3
                · rw [if_neg c_12] at hL_3
                  refine lv_aload_n hx hb d_Mo_parameters_134 rfl (lv_at hl 1 rfl) ?_
                  refine lv_dup hx hb d_Mo_parameters_135 rfl ?_
                  refine va_get (D := (dC, dI)) (ci := 6) (v := .int (q_at mo_11)) (C := R_Mo) (T := T_Mo) (N := 31) hx hb hts u_Mo hown hK hP 0 rfl rfl 6 (by decide) (hts _ L_927) (fun _ h9 => h9) rfl d_Mo_parameters_136 ?_
                  refine lv_iconst (v := 1) hx hb d_Mo_parameters_139 (by decide) ?_
                  refine lv_iadd hx hb d_Mo_parameters_140 ?_
                  refine va_put (D := (dC, dI)) (ci := 6) (v := .int ((q_at mo_11) + 1)) (ty := .int) (C := R_Mo) (T := T_Mo) (N := 31) hx hb hts u_Mo ty_Mo tk_Mo nm_Mo hown hK hP hD hS 0 rfl rfl 6 (by decide) (hts _ L_927) (fun _ h9 => h9) rfl (by decide +kernel) rfl rfl (Nat.le_of_ble_eq_true rfl) d_Mo_parameters_141 (fun H locs hP hD hS => ?_)
                  have hP : va_P (dC, dI) cls (wM cI cZ hm ma (s_at mo_11 ((q_at mo_11) + 1))) H := hP
                  have hD : va_D A (wM cI cZ hm ma (s_at mo_11 ((q_at mo_11) + 1))) := hD
                  refine lv_goto (tgt := 20) hx hb d_Mo_parameters_144 (by decide) ?_
                  exact ih_3 r_11 (s_at mo_11 ((q_at mo_11) + 1)) _ _ ls hP hD hS (lv_sub hl [1, 2, 3, 0] rfl) hL_3
              · rw [if_neg c_7] at hL_6
                refine lv_aload_n hx hb d_Mo_parameters_48 rfl (lv_at hl 0 rfl) ?_
                refine va_get (D := (dC, dI)) (ci := 6) (v := .ref (ma 14)) (C := R_Mo) (T := T_Mo) (N := 31) hx hb hts u_Mo hown hK hP 0 rfl rfl 29 (by decide) (hts _ L_950) (fun _ h9 => h9) rfl d_Mo_parameters_49 ?_
                refine lv_iload hx hb d_Mo_parameters_52 (lv_at hl 6 rfl) ?_
                by_cases cb_13 : inb x6 1000
                case neg => exact absurd (hL_6.trans (if_neg cb_13)) hn_6
                rw [if_pos cb_13] at hL_6
                refine va_iald (D := (dC, dI)) hx hb hK hP 15 0 rfl rfl cb_13 d_Mo_parameters_54 ?_
                refine lv_iload hx hb d_Mo_parameters_55 (lv_at hl 5 rfl) ?_
                refine lv_icmp_eq (tgt := 63) hx hb d_Mo_parameters_57 (by decide) (fun c_14 => ?_) (fun c_14 => ?_)
                · rw [if_pos c_14] at hL_6
                  refine lv_aload_n hx hb d_Mo_parameters_63 rfl (lv_at hl 0 rfl) ?_
                  refine va_get (D := (dC, dI)) (ci := 6) (v := .int (q_strict sx_6)) (C := R_Mo) (T := T_Mo) (N := 31) hx hb hts u_Mo hown hK hP 0 rfl rfl 19 (by decide) (hts _ L_940) (fun _ h9 => h9) rfl d_Mo_parameters_64 ?_
                  refine lv_if_eq (tgt := 76) hx hb d_Mo_parameters_67 (by decide) (fun c_15 => ?_) (fun c_15 => ?_)
                  · rw [if_pos c_15] at hL_6
                    refine lv_aload_n hx hb d_Mo_parameters_76 rfl (lv_at hl 0 rfl) ?_
                    refine lv_iconst (v := 1) hx hb d_Mo_parameters_77 (by decide) ?_
                    refine va_put (D := (dC, dI)) (ci := 6) (v := .int 1) (ty := .boolean) (C := R_Mo) (T := T_Mo) (N := 31) hx hb hts u_Mo ty_Mo tk_Mo nm_Mo hown hK hP hD hS 0 rfl rfl 21 (by decide) (hts _ L_942) (fun _ h9 => h9) rfl (by decide +kernel) rfl rfl (Nat.le_of_ble_eq_true rfl) d_Mo_parameters_78 (fun H locs hP hD hS => ?_)
                    have hP : va_P (dC, dI) cls (wM cI cZ hm ma (s_loose sx_6 1)) H := hP
                    have hD : va_D A (wM cI cZ hm ma (s_loose sx_6 1)) := hD
                    refine lv_iinc (v := (x6 + 1)) (lv' := [(6, .int (x6 + 1)), (0, .ref hm), (1, .int node), (2, .int (q_properties mo)), (3, .int x3), (4, .int (q_at sx_3)), (5, .int r_5)]) hx hb d_Mo_parameters_81 hl (k := 6) rfl rfl (by decide) rfl (fun ls hl => ?_)
                    refine lv_goto (tgt := 39) hx hb d_Mo_parameters_84 (by decide) ?_
                    exact ih_6 (x6 + 1) (s_loose sx_6 1) _ _ ls hP hD hS (lv_sub hl [1, 2, 3, 4, 5, 6, 0] rfl) hL_6
                  · rw [if_neg c_15] at hL_6
                    refine lv_aload_n hx hb d_Mo_parameters_70 rfl (lv_at hl 0 rfl) ?_
                    refine lv_iload hx hb d_Mo_parameters_71 (lv_at hl 4 rfl) ?_
                    refine mr_Vv (g := (f_Mo_refuse sx_6 (q_at sx_3))) (As := [.int (q_at sx_3)]) (rest := []) ⟨hx, hb, hml, hown, hts0⟩ (m_Mo_refuse l hlt dC dI cI cZ sa rk hm ma sx_6 _ (q_at sx_3) ) hP hD hK hS hA hC hZ hnt hlocks L_1072 L_1074 L_64 L_90 L_1075 k_Mo_refuse ⟨(by show _ ≤ 9; omega), (by show _ ≤ 144; omega)⟩ rfl rfl hl.1 (Nat.le_of_ble_eq_true rfl) d_Mo_parameters_73 rfl (fun q z => hX_6 q (hL_6.trans (bndM_l z))) (fun mo_16 H locs w_16 hP hD hS => ?_)
                    rw [bndM_r w_16] at hL_6
                    refine lv_aload_n hx hb d_Mo_parameters_76 rfl (lv_at hl 0 rfl) ?_
                    refine lv_iconst (v := 1) hx hb d_Mo_parameters_77 (by decide) ?_
                    refine va_put (D := (dC, dI)) (ci := 6) (v := .int 1) (ty := .boolean) (C := R_Mo) (T := T_Mo) (N := 31) hx hb hts u_Mo ty_Mo tk_Mo nm_Mo hown hK hP hD hS 0 rfl rfl 21 (by decide) (hts _ L_942) (fun _ h9 => h9) rfl (by decide +kernel) rfl rfl (Nat.le_of_ble_eq_true rfl) d_Mo_parameters_78 (fun H locs hP hD hS => ?_)
                    have hP : va_P (dC, dI) cls (wM cI cZ hm ma (s_loose mo_16 1)) H := hP
                    have hD : va_D A (wM cI cZ hm ma (s_loose mo_16 1)) := hD
                    refine lv_iinc (v := (x6 + 1)) (lv' := [(6, .int (x6 + 1)), (0, .ref hm), (1, .int node), (2, .int (q_properties mo)), (3, .int x3), (4, .int (q_at sx_3)), (5, .int r_5)]) hx hb d_Mo_parameters_81 hl (k := 6) rfl rfl (by decide) rfl (fun ls hl => ?_)
                    refine lv_goto (tgt := 39) hx hb d_Mo_parameters_84 (by decide) ?_
                    exact ih_6 (x6 + 1) (s_loose mo_16 1) _ _ ls hP hD hS (lv_sub hl [1, 2, 3, 4, 5, 6, 0] rfl) hL_6
                · rw [if_neg c_14] at hL_6
                  refine lv_goto (tgt := 81) hx hb d_Mo_parameters_60 (by decide) ?_
                  refine lv_iinc (v := (x6 + 1)) (lv' := [(6, .int (x6 + 1)), (0, .ref hm), (1, .int node), (2, .int (q_properties mo)), (3, .int x3), (4, .int (q_at sx_3)), (5, .int r_5)]) hx hb d_Mo_parameters_81 hl (k := 6) rfl rfl (by decide) rfl (fun ls hl => ?_)
                  refine lv_goto (tgt := 39) hx hb d_Mo_parameters_84 (by decide) ?_
                  exact ih_6 (x6 + 1) sx_6 _ _ ls hP hD hS (lv_sub hl [1, 2, 3, 4, 5, 6, 0] rfl) hL_6
          exact lp_6 5000 (q_properties mo) mo_5 _ _ ls hP hD hS (lv_sub hl [3, 4, 5, 6, 2, 1, 0] rfl) hx_6.symm
    exact lp_3 5000 0 mo_1 _ _ ls hP hD hS (lv_sub hl [2, 3, 1, 0] rfl) hx_3.symm
  · refine lv_iconst (v := 1) hx hb d_Mo_parameters_14 (by decide) ?_
    refine lv_goto (tgt := 19) hx hb d_Mo_parameters_15 (by decide) ?_
    refine lv_istore_n (lv' := [(3, .int 1), (2, .int (q_properties mo)), (0, .ref hm), (1, .int node)]) hx hb d_Mo_parameters_19 rfl hl (by decide) rfl (fun ls hl => ?_)
    obtain ⟨x_17, hx_17⟩ : ∃ z, f_Mo_parameters_L20 node (q_properties mo) 5000 1 mo_1 = z := ⟨_, rfl⟩
    have hn_17 : x_17 ≠ none := (fun z => hg (by unfold f_Mo_parameters; rw [bndM_r w_1, if_pos c_2, bndM_n (hx_17.trans z)]))
    have hX_17 : ∀ q, x_17 = some (.inl q) → (f_Mo_parameters mo node) = some (.inl q) := (fun q z => by unfold f_Mo_parameters; rw [bndM_r w_1, if_pos c_2, bndM_l (hx_17.trans z)])
    have lp_17 : ∀ (fu : Nat) (x3 : Int32) (sx_17 : MO) (H : Heap) (locs : List Loc) (ls : Array Slot), va_P (dC, dI) cls (wM cI cZ hm ma sx_17) H → va_D A (wM cI cZ hm ma sx_17) → va_S A s.heap H locs → lv_has ls 7 [(0, .ref hm), (1, .int node), (2, .int (q_properties mo)), (3, .int x3)] → x_17 = f_Mo_parameters_L20 node (q_properties mo) fu x3 sx_17 → W p l e (headSpec (wy y_Mo_parameters c_Mo_parameters 7 none) { frames := (9), cells := 1, slots := 6, locals := (144) }).room s m [.ref hm, .int node].toArray below meth c H locs 0 0 (vx_MQ below (va_Qv (fun u : MO => (f_Mo_parameters mo node) = some (.inr (0, u))) (wB (dC, dI) cI cZ A (wM cI cZ hm ma)) A) (xM (dC, dI) cI cZ hm ma (f_Mo_parameters mo node) A) [.ref hm, .int node].toArray s (mcM (f_Mo_parameters mo node)) (msM (f_Mo_parameters mo node)) A) (F0 m 20 ls []) := by
      intro fu
      induction fu with
      | zero => intro x3 sx_17 H locs ls hP hD hS hl hL_17; exact absurd (hL_17.trans rfl) hn_17
      | succ fu_17 ih_17 =>
        intro x3 sx_17 H locs ls hP hD hS hl hL_17
        rw [f_Mo_parameters_L20] at hL_17
        refine lv_iload_n hx hb d_Mo_parameters_20 rfl (lv_at hl 3 rfl) ?_
        refine lv_if_eq (tgt := 147) hx hb d_Mo_parameters_21 (by decide) (fun c_18 => ?_) (fun c_18 => ?_)
        · rw [if_pos c_18] at hL_17
          obtain ⟨se_17, hse_17⟩ : ∃ z : MO, z = sx_17 := ⟨_, rfl⟩
          have hP : va_P (dC, dI) cls (wM cI cZ hm ma se_17) H := by rw [hse_17]; exact hP
          have hD : va_D A (wM cI cZ hm ma se_17) := by rw [hse_17]; exact hD
          have we_17 : f_Mo_parameters_L20 node (q_properties mo) 5000 1 mo_1 = some (.inr (0, se_17)) := by rw [hse_17]; exact hx_17.trans hL_17
          have hl := lv_sub hl (l' := [(0, .ref hm), (1, .int node), (2, .int (q_properties mo))]) [0, 1, 2] rfl
          refine lv_aload_n hx hb d_Mo_parameters_147 rfl (lv_at hl 0 rfl) ?_
          refine lv_iload_n hx hb d_Mo_parameters_148 rfl (lv_at hl 2 rfl) ?_
          refine va_put (D := (dC, dI)) (ci := 6) (v := .int (q_properties mo)) (ty := .int) (C := R_Mo) (T := T_Mo) (N := 31) hx hb hts u_Mo ty_Mo tk_Mo nm_Mo hown hK hP hD hS 0 rfl rfl 28 (by decide) (hts _ L_949) (fun _ h9 => h9) rfl (by decide +kernel) rfl rfl (Nat.le_of_ble_eq_true rfl) d_Mo_parameters_149 (fun H locs hP hD hS => ?_)
          have hP : va_P (dC, dI) cls (wM cI cZ hm ma (s_properties se_17 (q_properties mo))) H := hP
          have hD : va_D A (wM cI cZ hm ma (s_properties se_17 (q_properties mo))) := hD
          exact mr_vret (mo := (s_properties se_17 (q_properties mo))) hx hb hr hlocks hK hP hD hS (by unfold f_Mo_parameters; rw [bndM_r w_1, if_pos c_2, bndM_r we_17]) d_Mo_parameters_152
        · rw [if_neg c_18] at hL_17
          refine lv_aload_n hx hb d_Mo_parameters_24 rfl (lv_at hl 0 rfl) ?_
          refine va_get (D := (dC, dI)) (ci := 6) (v := .int (q_at sx_17)) (C := R_Mo) (T := T_Mo) (N := 31) hx hb hts u_Mo hown hK hP 0 rfl rfl 6 (by decide) (hts _ L_927) (fun _ h9 => h9) rfl d_Mo_parameters_25 ?_
          refine lv_istore (lv' := [(4, .int (q_at sx_17)), (0, .ref hm), (1, .int node), (2, .int (q_properties mo)), (3, .int x3)]) hx hb d_Mo_parameters_28 hl (by decide) rfl (fun ls hl => ?_)
          refine lv_aload_n hx hb d_Mo_parameters_30 rfl (lv_at hl 1 rfl) ?_
          refine mr_Vi (g := (f_Mo_declared sx_17)) (As := []) (rest := []) ⟨hx, hb, hml, hown, hts0⟩ (m_Mo_declared l hlt dC dI cI cZ sa rk hm ma sx_17 _  (fun z => hn_17 (hL_17.trans (bndM_n z)))) hP hD hK hS hA hC hZ hnt hlocks L_1099 L_1101 L_65 L_90 L_1102 k_Mo_declared ⟨(by show _ ≤ 9; omega), (by show _ ≤ 144; omega)⟩ rfl rfl hl.1 (Nat.le_of_ble_eq_true rfl) d_Mo_parameters_31 rfl (fun q z => hX_17 q (hL_17.trans (bndM_l z))) (fun r_19 mo_19 H locs w_19 hP hD hS => ?_)
          rw [bndM_r w_19] at hL_17
          refine lv_istore (lv' := [(5, .int r_19), (4, .int (q_at sx_17)), (0, .ref hm), (1, .int node), (2, .int (q_properties mo)), (3, .int x3)]) hx hb d_Mo_parameters_34 hl (by decide) rfl (fun ls hl => ?_)
          refine lv_iload_n hx hb d_Mo_parameters_36 rfl (lv_at hl 4 rfl) ?_
          refine lv_istore (lv' := [(6, .int (q_properties mo)), (5, .int r_19), (4, .int (q_at sx_17)), (0, .ref hm), (1, .int node), (2, .int (q_properties mo)), (3, .int x3)]) hx hb d_Mo_parameters_37 hl (by decide) rfl (fun ls hl => ?_)
          obtain ⟨x_20, hx_20⟩ : ∃ z, f_Mo_parameters_L39 node (q_at sx_17) r_19 5000 (q_properties mo) mo_19 = z := ⟨_, rfl⟩
          have hn_20 : x_20 ≠ none := (fun z => hn_17 (hL_17.trans (bndM_n (hx_20.trans z))))
          have hX_20 : ∀ q, x_20 = some (.inl q) → (f_Mo_parameters mo node) = some (.inl q) := (fun q z => hX_17 q (hL_17.trans (bndM_l (hx_20.trans z))))
          have lp_20 : ∀ (fu : Nat) (x6 : Int32) (sx_20 : MO) (H : Heap) (locs : List Loc) (ls : Array Slot), va_P (dC, dI) cls (wM cI cZ hm ma sx_20) H → va_D A (wM cI cZ hm ma sx_20) → va_S A s.heap H locs → lv_has ls 7 [(0, .ref hm), (1, .int node), (2, .int (q_properties mo)), (3, .int x3), (4, .int (q_at sx_17)), (5, .int r_19), (6, .int x6)] → x_20 = f_Mo_parameters_L39 node (q_at sx_17) r_19 fu x6 sx_20 → W p l e (headSpec (wy y_Mo_parameters c_Mo_parameters 7 none) { frames := (9), cells := 1, slots := 6, locals := (144) }).room s m [.ref hm, .int node].toArray below meth c H locs 0 0 (vx_MQ below (va_Qv (fun u : MO => (f_Mo_parameters mo node) = some (.inr (0, u))) (wB (dC, dI) cI cZ A (wM cI cZ hm ma)) A) (xM (dC, dI) cI cZ hm ma (f_Mo_parameters mo node) A) [.ref hm, .int node].toArray s (mcM (f_Mo_parameters mo node)) (msM (f_Mo_parameters mo node)) A) (F0 m 39 ls []) := by
            intro fu
            induction fu with
            | zero => intro x6 sx_20 H locs ls hP hD hS hl hL_20; exact absurd (hL_20.trans rfl) hn_20
            | succ fu_20 ih_20 =>
              intro x6 sx_20 H locs ls hP hD hS hl hL_20
              rw [f_Mo_parameters_L39] at hL_20
              refine lv_iload hx hb d_Mo_parameters_39 (lv_at hl 6 rfl) ?_
              refine lv_aload_n hx hb d_Mo_parameters_41 rfl (lv_at hl 0 rfl) ?_
              refine va_get (D := (dC, dI)) (ci := 6) (v := .int (q_properties sx_20)) (C := R_Mo) (T := T_Mo) (N := 31) hx hb hts u_Mo hown hK hP 0 rfl rfl 28 (by decide) (hts _ L_949) (fun _ h9 => h9) rfl d_Mo_parameters_42 ?_
              refine lv_icmp_ge (tgt := 87) hx hb d_Mo_parameters_45 (by decide) (fun c_21 => ?_) (fun c_21 => ?_)
              · rw [if_pos c_21] at hL_20
                obtain ⟨se_20, hse_20⟩ : ∃ z : MO, z = sx_20 := ⟨_, rfl⟩
                have hP : va_P (dC, dI) cls (wM cI cZ hm ma se_20) H := by rw [hse_20]; exact hP
                have hD : va_D A (wM cI cZ hm ma se_20) := by rw [hse_20]; exact hD
                have we_20 : f_Mo_parameters_L39 node (q_at sx_17) r_19 5000 (q_properties mo) mo_19 = some (.inr (0, se_20)) := by rw [hse_20]; exact hx_20.trans hL_20
                have hl := lv_sub hl (l' := [(0, .ref hm), (1, .int node), (2, .int (q_properties mo)), (3, .int x3), (4, .int (q_at sx_17)), (5, .int r_19)]) [0, 1, 2, 3, 4, 5] rfl
                rw [bndM_r we_20] at hL_17
                refine lv_aload_n hx hb d_Mo_parameters_87 rfl (lv_at hl 0 rfl) ?_
                refine va_get (D := (dC, dI)) (ci := 6) (v := .ref (ma 14)) (C := R_Mo) (T := T_Mo) (N := 31) hx hb hts u_Mo hown hK hP 0 rfl rfl 29 (by decide) (hts _ L_950) (fun _ h9 => h9) rfl d_Mo_parameters_88 ?_
                refine lv_aload_n hx hb d_Mo_parameters_91 rfl (lv_at hl 0 rfl) ?_
                refine va_get (D := (dC, dI)) (ci := 6) (v := .int (q_properties se_20)) (C := R_Mo) (T := T_Mo) (N := 31) hx hb hts u_Mo hown hK hP 0 rfl rfl 28 (by decide) (hts _ L_949) (fun _ h9 => h9) rfl d_Mo_parameters_92 ?_
                refine lv_iload hx hb d_Mo_parameters_95 (lv_at hl 5 rfl) ?_
                by_cases cb_22 : inb (q_properties se_20) 1000
                case neg => exact absurd (hL_17.trans (if_neg cb_22)) hn_17
                rw [if_pos cb_22] at hL_17
                refine va_iast (D := (dC, dI)) hx hb hK hP hD hS 15 0 rfl rfl cb_22 d_Mo_parameters_97 (fun H locs hP hD hS => ?_)
                have hP : va_P (dC, dI) cls (wM cI cZ hm ma (s_property se_20 (upd (q_property se_20) ((q_properties se_20) : Int32).toNatClampNeg r_19))) H := hP
                have hD : va_D A (wM cI cZ hm ma (s_property se_20 (upd (q_property se_20) ((q_properties se_20) : Int32).toNatClampNeg r_19))) := hD
                refine lv_aload_n hx hb d_Mo_parameters_98 rfl (lv_at hl 0 rfl) ?_
                refine lv_dup hx hb d_Mo_parameters_99 rfl ?_
                refine va_get (D := (dC, dI)) (ci := 6) (v := .int (q_properties se_20)) (C := R_Mo) (T := T_Mo) (N := 31) hx hb hts u_Mo hown hK hP 0 rfl rfl 28 (by decide) (hts _ L_949) (fun _ h9 => h9) rfl d_Mo_parameters_100 ?_
                refine lv_iconst (v := 1) hx hb d_Mo_parameters_103 (by decide) ?_
                refine lv_iadd hx hb d_Mo_parameters_104 ?_
                refine va_put (D := (dC, dI)) (ci := 6) (v := .int ((q_properties se_20) + 1)) (ty := .int) (C := R_Mo) (T := T_Mo) (N := 31) hx hb hts u_Mo ty_Mo tk_Mo nm_Mo hown hK hP hD hS 0 rfl rfl 28 (by decide) (hts _ L_949) (fun _ h9 => h9) rfl (by decide +kernel) rfl rfl (Nat.le_of_ble_eq_true rfl) d_Mo_parameters_105 (fun H locs hP hD hS => ?_)
                have hP : va_P (dC, dI) cls (wM cI cZ hm ma (s_property (s_properties se_20 ((q_properties se_20) + 1)) (upd (q_property se_20) ((q_properties se_20) : Int32).toNatClampNeg r_19))) H := hP
                have hD : va_D A (wM cI cZ hm ma (s_property (s_properties se_20 ((q_properties se_20) + 1)) (upd (q_property se_20) ((q_properties se_20) : Int32).toNatClampNeg r_19))) := hD
                refine lv_aload_n hx hb d_Mo_parameters_108 rfl (lv_at hl 0 rfl) ?_
                refine lv_iload_n hx hb d_Mo_parameters_109 rfl (lv_at hl 1 rfl) ?_
                refine lv_aload_n hx hb d_Mo_parameters_110 rfl (lv_at hl 0 rfl) ?_
                refine lv_bipush (v := 25) hx hb d_Mo_parameters_111 (by decide) ?_
                refine lv_iload hx hb d_Mo_parameters_113 (lv_at hl 5 rfl) ?_
                refine lv_iload hx hb d_Mo_parameters_115 (lv_at hl 4 rfl) ?_
                refine mr_Vi (g := (f_Mo_make (s_property (s_properties se_20 ((q_properties se_20) + 1)) (upd (q_property se_20) ((q_properties se_20) : Int32).toNatClampNeg r_19)) 25 r_19 (q_at sx_17))) (As := [.int 25, .int r_19, .int (q_at sx_17)]) (rest := [.int node, .ref hm]) ⟨hx, hb, hml, hown, hts0⟩ (m_Mo_make l hlt dC dI cI cZ sa rk hm ma (s_property (s_properties se_20 ((q_properties se_20) + 1)) (upd (q_property se_20) ((q_properties se_20) : Int32).toNatClampNeg r_19)) _ 25 r_19 (q_at sx_17) (fun z => hn_17 (hL_17.trans (bndM_n z)))) hP hD hK hS hA hC hZ hnt hlocks L_1046 L_1048 L_59 L_90 L_1049 k_Mo_make ⟨(by show _ ≤ 9; omega), (by show _ ≤ 144; omega)⟩ rfl rfl hl.1 (Nat.le_of_ble_eq_true rfl) d_Mo_parameters_117 rfl (fun q z => hX_17 q (hL_17.trans (bndM_l z))) (fun r_23 mo_23 H locs w_23 hP hD hS => ?_)
                rw [bndM_r w_23] at hL_17
                refine mr_Vv (g := (f_Mo_hang mo_23 node r_23)) (As := [.int node, .int r_23]) (rest := []) ⟨hx, hb, hml, hown, hts0⟩ (m_Mo_hang l hlt dC dI cI cZ sa rk hm ma mo_23 _ node r_23 (fun z => hn_17 (hL_17.trans (bndM_n z)))) hP hD hK hS hA hC hZ hnt hlocks L_1115 L_1117 L_69 L_90 L_1118 k_Mo_hang ⟨(by show _ ≤ 9; omega), (by show _ ≤ 144; omega)⟩ rfl rfl hl.1 (Nat.le_of_ble_eq_true rfl) d_Mo_parameters_120 rfl (fun q z => hX_17 q (hL_17.trans (bndM_l z))) (fun mo_24 H locs w_24 hP hD hS => ?_)
                rw [bndM_r w_24] at hL_17
                refine lv_aload_n hx hb d_Mo_parameters_123 rfl (lv_at hl 0 rfl) ?_
                refine lv_bipush (v := 68) hx hb d_Mo_parameters_124 (by decide) ?_
                refine mr_Vi (g := (f_Mo_isSign mo_24 68)) (As := [.int 68]) (rest := []) ⟨hx, hb, hml, hown, hts0⟩ (m_Mo_isSign l hlt dC dI cI cZ sa rk hm ma mo_24 _ 68 (fun z => hn_17 (hL_17.trans (bndM_n z)))) hP hD hK hS hA hC hZ hnt hlocks L_1053 L_1055 L_60 L_90 L_1056 k_Mo_isSign ⟨(by show _ ≤ 9; omega), (by show _ ≤ 144; omega)⟩ rfl rfl hl.1 (Nat.le_of_ble_eq_true rfl) d_Mo_parameters_126 rfl (fun q z => hX_17 q (hL_17.trans (bndM_l z))) (fun r_25 mo_25 H locs w_25 hP hD hS => ?_)
                rw [bndM_r w_25] at hL_17
                refine lv_istore_n (lv' := [(3, .int r_25), (0, .ref hm), (1, .int node), (2, .int (q_properties mo)), (4, .int (q_at sx_17)), (5, .int r_19)]) hx hb d_Mo_parameters_129 rfl hl (by decide) rfl (fun ls hl => ?_)
                refine lv_iload_n hx hb d_Mo_parameters_130 rfl (lv_at hl 0 rfl) ?_
                refine lv_if_eq (tgt := 144) hx hb d_Mo_parameters_131 (by decide) (fun c_26 => ?_) (fun c_26 => ?_)
                · rw [if_pos c_26] at hL_17
                  refine lv_goto (tgt := 20) hx hb d_Mo_parameters_144 (by decide) ?_
                  exact ih_17 r_25 mo_25 _ _ ls hP hD hS (lv_sub hl [1, 2, 3, 0] rfl) hL_17
                · rw [if_neg c_26] at hL_17
                  refine lv_aload_n hx hb d_Mo_parameters_134 rfl (lv_at hl 1 rfl) ?_
                  refine lv_dup hx hb d_Mo_parameters_135 rfl ?_
                  refine va_get (D := (dC, dI)) (ci := 6) (v := .int (q_at mo_25)) (C := R_Mo) (T := T_Mo) (N := 31) hx hb hts u_Mo hown hK hP 0 rfl rfl 6 (by decide) (hts _ L_927) (fun _ h9 => h9) rfl d_Mo_parameters_136 ?_
                  refine lv_iconst (v := 1) hx hb d_Mo_parameters_139 (by decide) ?_
                  refine lv_iadd hx hb d_Mo_parameters_140 ?_
                  refine va_put (D := (dC, dI)) (ci := 6) (v := .int ((q_at mo_25) + 1)) (ty := .int) (C := R_Mo) (T := T_Mo) (N := 31) hx hb hts u_Mo ty_Mo tk_Mo nm_Mo hown hK hP hD hS 0 rfl rfl 6 (by decide) (hts _ L_927) (fun _ h9 => h9) rfl (by decide +kernel) rfl rfl (Nat.le_of_ble_eq_true rfl) d_Mo_parameters_141 (fun H locs hP hD hS => ?_)
                  have hP : va_P (dC, dI) cls (wM cI cZ hm ma (s_at mo_25 ((q_at mo_25) + 1))) H := hP
                  have hD : va_D A (wM cI cZ hm ma (s_at mo_25 ((q_at mo_25) + 1))) := hD
                  refine lv_goto (tgt := 20) hx hb d_Mo_parameters_144 (by decide) ?_
                  exact ih_17 r_25 (s_at mo_25 ((q_at mo_25) + 1)) _ _ ls hP hD hS (lv_sub hl [1, 2, 3, 0] rfl) hL_17
              · rw [if_neg c_21] at hL_20
                refine lv_aload_n hx hb d_Mo_parameters_48 rfl (lv_at hl 0 rfl) ?_
                refine va_get (D := (dC, dI)) (ci := 6) (v := .ref (ma 14)) (C := R_Mo) (T := T_Mo) (N := 31) hx hb hts u_Mo hown hK hP 0 rfl rfl 29 (by decide) (hts _ L_950) (fun _ h9 => h9) rfl d_Mo_parameters_49 ?_
                refine lv_iload hx hb d_Mo_parameters_52 (lv_at hl 6 rfl) ?_
                by_cases cb_27 : inb x6 1000
                case neg => exact absurd (hL_20.trans (if_neg cb_27)) hn_20
                rw [if_pos cb_27] at hL_20
                refine va_iald (D := (dC, dI)) hx hb hK hP 15 0 rfl rfl cb_27 d_Mo_parameters_54 ?_
                refine lv_iload hx hb d_Mo_parameters_55 (lv_at hl 5 rfl) ?_
                refine lv_icmp_eq (tgt := 63) hx hb d_Mo_parameters_57 (by decide) (fun c_28 => ?_) (fun c_28 => ?_)
                · rw [if_pos c_28] at hL_20
                  refine lv_aload_n hx hb d_Mo_parameters_63 rfl (lv_at hl 0 rfl) ?_
                  refine va_get (D := (dC, dI)) (ci := 6) (v := .int (q_strict sx_20)) (C := R_Mo) (T := T_Mo) (N := 31) hx hb hts u_Mo hown hK hP 0 rfl rfl 19 (by decide) (hts _ L_940) (fun _ h9 => h9) rfl d_Mo_parameters_64 ?_
                  refine lv_if_eq (tgt := 76) hx hb d_Mo_parameters_67 (by decide) (fun c_29 => ?_) (fun c_29 => ?_)
                  · rw [if_pos c_29] at hL_20
                    refine lv_aload_n hx hb d_Mo_parameters_76 rfl (lv_at hl 0 rfl) ?_
                    refine lv_iconst (v := 1) hx hb d_Mo_parameters_77 (by decide) ?_
                    refine va_put (D := (dC, dI)) (ci := 6) (v := .int 1) (ty := .boolean) (C := R_Mo) (T := T_Mo) (N := 31) hx hb hts u_Mo ty_Mo tk_Mo nm_Mo hown hK hP hD hS 0 rfl rfl 21 (by decide) (hts _ L_942) (fun _ h9 => h9) rfl (by decide +kernel) rfl rfl (Nat.le_of_ble_eq_true rfl) d_Mo_parameters_78 (fun H locs hP hD hS => ?_)
                    have hP : va_P (dC, dI) cls (wM cI cZ hm ma (s_loose sx_20 1)) H := hP
                    have hD : va_D A (wM cI cZ hm ma (s_loose sx_20 1)) := hD
                    refine lv_iinc (v := (x6 + 1)) (lv' := [(6, .int (x6 + 1)), (0, .ref hm), (1, .int node), (2, .int (q_properties mo)), (3, .int x3), (4, .int (q_at sx_17)), (5, .int r_19)]) hx hb d_Mo_parameters_81 hl (k := 6) rfl rfl (by decide) rfl (fun ls hl => ?_)
                    refine lv_goto (tgt := 39) hx hb d_Mo_parameters_84 (by decide) ?_
                    exact ih_20 (x6 + 1) (s_loose sx_20 1) _ _ ls hP hD hS (lv_sub hl [1, 2, 3, 4, 5, 6, 0] rfl) hL_20
                  · rw [if_neg c_29] at hL_20
                    refine lv_aload_n hx hb d_Mo_parameters_70 rfl (lv_at hl 0 rfl) ?_
                    refine lv_iload hx hb d_Mo_parameters_71 (lv_at hl 4 rfl) ?_
                    refine mr_Vv (g := (f_Mo_refuse sx_20 (q_at sx_17))) (As := [.int (q_at sx_17)]) (rest := []) ⟨hx, hb, hml, hown, hts0⟩ (m_Mo_refuse l hlt dC dI cI cZ sa rk hm ma sx_20 _ (q_at sx_17) ) hP hD hK hS hA hC hZ hnt hlocks L_1072 L_1074 L_64 L_90 L_1075 k_Mo_refuse ⟨(by show _ ≤ 9; omega), (by show _ ≤ 144; omega)⟩ rfl rfl hl.1 (Nat.le_of_ble_eq_true rfl) d_Mo_parameters_73 rfl (fun q z => hX_20 q (hL_20.trans (bndM_l z))) (fun mo_30 H locs w_30 hP hD hS => ?_)
                    rw [bndM_r w_30] at hL_20
                    refine lv_aload_n hx hb d_Mo_parameters_76 rfl (lv_at hl 0 rfl) ?_
                    refine lv_iconst (v := 1) hx hb d_Mo_parameters_77 (by decide) ?_
                    refine va_put (D := (dC, dI)) (ci := 6) (v := .int 1) (ty := .boolean) (C := R_Mo) (T := T_Mo) (N := 31) hx hb hts u_Mo ty_Mo tk_Mo nm_Mo hown hK hP hD hS 0 rfl rfl 21 (by decide) (hts _ L_942) (fun _ h9 => h9) rfl (by decide +kernel) rfl rfl (Nat.le_of_ble_eq_true rfl) d_Mo_parameters_78 (fun H locs hP hD hS => ?_)
                    have hP : va_P (dC, dI) cls (wM cI cZ hm ma (s_loose mo_30 1)) H := hP
                    have hD : va_D A (wM cI cZ hm ma (s_loose mo_30 1)) := hD
                    refine lv_iinc (v := (x6 + 1)) (lv' := [(6, .int (x6 + 1)), (0, .ref hm), (1, .int node), (2, .int (q_properties mo)), (3, .int x3), (4, .int (q_at sx_17)), (5, .int r_19)]) hx hb d_Mo_parameters_81 hl (k := 6) rfl rfl (by decide) rfl (fun ls hl => ?_)
                    refine lv_goto (tgt := 39) hx hb d_Mo_parameters_84 (by decide) ?_
                    exact ih_20 (x6 + 1) (s_loose mo_30 1) _ _ ls hP hD hS (lv_sub hl [1, 2, 3, 4, 5, 6, 0] rfl) hL_20
                · rw [if_neg c_28] at hL_20
                  refine lv_goto (tgt := 81) hx hb d_Mo_parameters_60 (by decide) ?_
                  refine lv_iinc (v := (x6 + 1)) (lv' := [(6, .int (x6 + 1)), (0, .ref hm), (1, .int node), (2, .int (q_properties mo)), (3, .int x3), (4, .int (q_at sx_17)), (5, .int r_19)]) hx hb d_Mo_parameters_81 hl (k := 6) rfl rfl (by decide) rfl (fun ls hl => ?_)
                  refine lv_goto (tgt := 39) hx hb d_Mo_parameters_84 (by decide) ?_
                  exact ih_20 (x6 + 1) sx_20 _ _ ls hP hD hS (lv_sub hl [1, 2, 3, 4, 5, 6, 0] rfl) hL_20
          exact lp_20 5000 (q_properties mo) mo_19 _ _ ls hP hD hS (lv_sub hl [3, 4, 5, 6, 2, 1, 0] rfl) hx_20.symm
    exact lp_17 5000 1 mo_1 _ _ ls hP hD hS (lv_sub hl [2, 3, 1, 0] rfl) hx_17.symm
def f_Mo_debugger (mo : MO)  : Rm := (bndM (f_Mo_plain mo 23) (fun r_1 mo_1 => (bndM (f_Mo_semicolon mo_1) (fun _ mo_2 => (some (.inr (r_1, mo_2)))))))
set_option maxRecDepth 100000 in
set_option maxHeartbeats 4000000 in
theorem m_Mo_debugger (l : Launch) (hlt : l.stackTraces = false) (dC : Nat → ClassId) (dI : Nat → Nat → Nat) (cI cZ : ClassId) (sa rk hm : Nat) (ma : Nat → Nat)  (mo : MO) (sz : Nat)  (hg : (f_Mo_debugger mo) ≠ none) : cXi l y_Mo_debugger c_Mo_debugger 2 .int (8) (122) (dC, dI) cI cZ sa rk hm ma mo sz [.ref hm] (f_Mo_debugger mo) := by
  refine vx_ofW (cc := c_Mo_debugger) (maxL := 2) (ret := (some .int)) (by decide) rfl ?_
  intro p e s m args below meth c s₁ B hml hnt hv
  obtain ⟨rfl, hsz, hP, hK, hD0, hC, hZ⟩ := hv
  have hx := B.exec
  have hb := B.bytes
  have hr := B.returns
  have hts0 := atoms_spec (ws := wy y_Mo_debugger c_Mo_debugger 2 (some .int)) B.pre
  have hts := htsL hts0
  have hown : s.vm.findClass R_Mo = some m.cls := findClass_of_methodNamed B.named
  have hlocks := B.notSynchronized
  subst hsz
  have hD := hD0.self (sz := s.heap.size)
  generalize hAe : va_A (wM cI cZ hm ma mo) s.heap.size = A at hD hZ ⊢
  have hA : ∀ q : Nat, s.heap.size ≤ q → A q := fun q h => by rw [← hAe]; exact Or.inr h
  have hS : va_S A s.heap s.heap [] := va_S.rf
  have hl := lv_entry ([.ref hm]) (n := 2) (Nat.le_of_ble_eq_true rfl)
  rw [lg_entry_eq]
  generalize (lg_sl ([.ref hm]) ++ List.replicate (2 - (lg_sl ([.ref hm])).length) Slot.unset).toArray = ls at hl ⊢
  have hl : lv_has ls 2 [(0, .ref hm)] := hl
  refine lv_aload_n hx hb d_Mo_debugger_0 rfl (lv_at hl 0 rfl) ?_
  refine lv_bipush (v := 23) hx hb d_Mo_debugger_1 (by decide) ?_
  refine mr_Vi (g := (f_Mo_plain mo 23)) (As := [.int 23]) (rest := []) ⟨hx, hb, hml, hown, hts0⟩ (m_Mo_plain l hlt dC dI cI cZ sa rk hm ma mo _ 23 (fun z => hg (by unfold f_Mo_debugger; rw [bndM_n z]))) hP hD hK hS hA hC hZ hnt hlocks L_1128 L_1130 L_70 L_90 L_1131 k_Mo_plain ⟨(by show _ ≤ 8; omega), (by show _ ≤ 122; omega)⟩ rfl rfl hl.1 (Nat.le_of_ble_eq_true rfl) d_Mo_debugger_3 rfl (fun q z => by unfold f_Mo_debugger; rw [bndM_l z]) (fun r_1 mo_1 H locs w_1 hP hD hS => ?_)
  refine lv_istore_n (lv' := [(1, .int r_1), (0, .ref hm)]) hx hb d_Mo_debugger_6 rfl hl (by decide) rfl (fun ls hl => ?_)
  refine lv_aload_n hx hb d_Mo_debugger_7 rfl (lv_at hl 1 rfl) ?_
  refine mr_Vv (g := (f_Mo_semicolon mo_1)) (As := []) (rest := []) ⟨hx, hb, hml, hown, hts0⟩ (m_Mo_semicolon l hlt dC dI cI cZ sa rk hm ma mo_1 _  (fun z => hg (by unfold f_Mo_debugger; rw [bndM_r w_1, bndM_n z]))) hP hD hK hS hA hC hZ hnt hlocks L_1209 L_1211 L_79 L_90 L_1212 k_Mo_semicolon ⟨(by show _ ≤ 8; omega), (by show _ ≤ 122; omega)⟩ rfl rfl hl.1 (Nat.le_of_ble_eq_true rfl) d_Mo_debugger_8 rfl (fun q z => by unfold f_Mo_debugger; rw [bndM_r w_1, bndM_l z]) (fun mo_2 H locs w_2 hP hD hS => ?_)
  refine lv_iload_n hx hb d_Mo_debugger_11 rfl (lv_at hl 0 rfl) ?_
  exact mr_iret (v := r_1) (mo := mo_2) hx hb hr hlocks hK hP hD hS (by unfold f_Mo_debugger; rw [bndM_r w_1, bndM_r w_2]) d_Mo_debugger_12
def f_Mo_leave_L45 (k : Int32) : Nat → Int32 → Int32 → MO → Rm
  | 0, _, _, _ => none
  | fu_41 + 1, x3, x4, sx_41 => (if (q_labels sx_41) ≤ x4 then (some (.inr (x3, sx_41))) else (if x3 = 0 then (if inb x4 1000 then (if inb (q_at sx_41) 1001 then (if ((q_label sx_41) (x4 : Int32).toNatClampNeg) = ((q_names sx_41) ((q_at sx_41) : Int32).toNatClampNeg) then (if k = 12 then (f_Mo_leave_L45 k fu_41 1 (x4 + 1) sx_41) else (if ((q_loopLabel sx_41) (x4 : Int32).toNatClampNeg) = 0 then (f_Mo_leave_L45 k fu_41 0 (x4 + 1) sx_41) else (f_Mo_leave_L45 k fu_41 1 (x4 + 1) sx_41))) else (f_Mo_leave_L45 k fu_41 0 (x4 + 1) sx_41)) else none) else none) else (f_Mo_leave_L45 k fu_41 1 (x4 + 1) sx_41)))
def f_Mo_leave (mo : MO) (k : Int32) : Rm := (bndM (f_Mo_plain mo k) (fun r_1 mo_1 => (bndM (f_Mo_isKind mo_1 1) (fun r_2 mo_2 => (if r_2 = 0 then (if k = 12 then (if (q_breakables mo_2) = 0 then (if inb r_1 2600 then (bndM (f_Mo_refuse mo_2 ((q_spot mo_2) (r_1 : Int32).toNatClampNeg)) (fun _ mo_13 => (bndM (f_Mo_semicolon mo_13) (fun _ mo_14 => (some (.inr (r_1, mo_14))))))) else none) else (bndM (f_Mo_semicolon mo_2) (fun _ mo_11 => (some (.inr (r_1, mo_11)))))) else (if (q_loops mo_2) = 0 then (if inb r_1 2600 then (bndM (f_Mo_refuse mo_2 ((q_spot mo_2) (r_1 : Int32).toNatClampNeg)) (fun _ mo_8 => (bndM (f_Mo_semicolon mo_8) (fun _ mo_9 => (some (.inr (r_1, mo_9))))))) else none) else (bndM (f_Mo_semicolon mo_2) (fun _ mo_6 => (some (.inr (r_1, mo_6))))))) else (if inb (q_at mo_2) 1001 then (if ((q_lines mo_2) ((q_at mo_2) : Int32).toNatClampNeg) = 0 then (bndM (f_Mo_isReserved mo_2 (q_strict mo_2)) (fun r_28 mo_28 => (if r_28 = 0 then (bndM (f_Mo_leave_L45 k 5000 0 (q_ownLabels mo_28) mo_28) (fun rv_41 se_41 => (if rv_41 = 0 then (bndM (f_Mo_refuse se_41 (q_at se_41)) (fun _ mo_47 => (if inb (q_at mo_47) 1001 then (if inb r_1 2600 then (bndM (f_Mo_semicolon (s_at (s_value mo_47 (upd (q_value mo_47) (r_1 : Int32).toNatClampNeg (((q_names mo_47) ((q_at mo_47) : Int32).toNatClampNeg) + 1))) ((q_at mo_47) + 1))) (fun _ mo_50 => (some (.inr (r_1, mo_50))))) else none) else none))) else (if inb (q_at se_41) 1001 then (if inb r_1 2600 then (bndM (f_Mo_semicolon (s_at (s_value se_41 (upd (q_value se_41) (r_1 : Int32).toNatClampNeg (((q_names se_41) ((q_at se_41) : Int32).toNatClampNeg) + 1))) ((q_at se_41) + 1))) (fun _ mo_46 => (some (.inr (r_1, mo_46))))) else none) else none)))) else (if k = 12 then (if (q_breakables mo_28) = 0 then (if inb r_1 2600 then (bndM (f_Mo_refuse mo_28 ((q_spot mo_28) (r_1 : Int32).toNatClampNeg)) (fun _ mo_39 => (bndM (f_Mo_semicolon mo_39) (fun _ mo_40 => (some (.inr (r_1, mo_40))))))) else none) else (bndM (f_Mo_semicolon mo_28) (fun _ mo_37 => (some (.inr (r_1, mo_37)))))) else (if (q_loops mo_28) = 0 then (if inb r_1 2600 then (bndM (f_Mo_refuse mo_28 ((q_spot mo_28) (r_1 : Int32).toNatClampNeg)) (fun _ mo_34 => (bndM (f_Mo_semicolon mo_34) (fun _ mo_35 => (some (.inr (r_1, mo_35))))))) else none) else (bndM (f_Mo_semicolon mo_28) (fun _ mo_32 => (some (.inr (r_1, mo_32)))))))))) else (if k = 12 then (if (q_breakables mo_2) = 0 then (if inb r_1 2600 then (bndM (f_Mo_refuse mo_2 ((q_spot mo_2) (r_1 : Int32).toNatClampNeg)) (fun _ mo_26 => (bndM (f_Mo_semicolon mo_26) (fun _ mo_27 => (some (.inr (r_1, mo_27))))))) else none) else (bndM (f_Mo_semicolon mo_2) (fun _ mo_24 => (some (.inr (r_1, mo_24)))))) else (if (q_loops mo_2) = 0 then (if inb r_1 2600 then (bndM (f_Mo_refuse mo_2 ((q_spot mo_2) (r_1 : Int32).toNatClampNeg)) (fun _ mo_21 => (bndM (f_Mo_semicolon mo_21) (fun _ mo_22 => (some (.inr (r_1, mo_22))))))) else none) else (bndM (f_Mo_semicolon mo_2) (fun _ mo_19 => (some (.inr (r_1, mo_19)))))))) else none))))))
set_option maxRecDepth 100000 in
set_option maxHeartbeats 4000000 in
theorem m_Mo_leave (l : Launch) (hlt : l.stackTraces = false) (dC : Nat → ClassId) (dI : Nat → Nat → Nat) (cI cZ : ClassId) (sa rk hm : Nat) (ma : Nat → Nat)  (mo : MO) (sz : Nat) (k : Int32) (hg : (f_Mo_leave mo k) ≠ none) : cXi l y_Mo_leave c_Mo_leave 5 .int (8) (122) (dC, dI) cI cZ sa rk hm ma mo sz [.ref hm, .int k] (f_Mo_leave mo k) := by
  refine vx_ofW (cc := c_Mo_leave) (maxL := 5) (ret := (some .int)) (by decide) rfl ?_
  intro p e s m args below meth c s₁ B hml hnt hv
  obtain ⟨rfl, hsz, hP, hK, hD0, hC, hZ⟩ := hv
  have hx := B.exec
  have hb := B.bytes
  have hr := B.returns
  have hts0 := atoms_spec (ws := wy y_Mo_leave c_Mo_leave 5 (some .int)) B.pre
  have hts := htsL hts0
  have hown : s.vm.findClass R_Mo = some m.cls := findClass_of_methodNamed B.named
  have hlocks := B.notSynchronized
  subst hsz
  have hD := hD0.self (sz := s.heap.size)
  generalize hAe : va_A (wM cI cZ hm ma mo) s.heap.size = A at hD hZ ⊢
  have hA : ∀ q : Nat, s.heap.size ≤ q → A q := fun q h => by rw [← hAe]; exact Or.inr h
  have hS : va_S A s.heap s.heap [] := va_S.rf
  have hl := lv_entry ([.ref hm, .int k]) (n := 5) (Nat.le_of_ble_eq_true rfl)
  rw [lg_entry_eq]
  generalize (lg_sl ([.ref hm, .int k]) ++ List.replicate (5 - (lg_sl ([.ref hm, .int k])).length) Slot.unset).toArray = ls at hl ⊢
  have hl : lv_has ls 5 [(0, .ref hm), (1, .int k)] := hl
  refine lv_aload_n hx hb d_Mo_leave_0 rfl (lv_at hl 0 rfl) ?_
  refine lv_iload_n hx hb d_Mo_leave_1 rfl (lv_at hl 1 rfl) ?_
  refine mr_Vi (g := (f_Mo_plain mo k)) (As := [.int k]) (rest := []) ⟨hx, hb, hml, hown, hts0⟩ (m_Mo_plain l hlt dC dI cI cZ sa rk hm ma mo _ k (fun z => hg (by unfold f_Mo_leave; rw [bndM_n z]))) hP hD hK hS hA hC hZ hnt hlocks L_1128 L_1130 L_70 L_90 L_1131 k_Mo_plain ⟨(by show _ ≤ 8; omega), (by show _ ≤ 122; omega)⟩ rfl rfl hl.1 (Nat.le_of_ble_eq_true rfl) d_Mo_leave_2 rfl (fun q z => by unfold f_Mo_leave; rw [bndM_l z]) (fun r_1 mo_1 H locs w_1 hP hD hS => ?_)
  refine lv_istore_n (lv' := [(2, .int r_1), (0, .ref hm), (1, .int k)]) hx hb d_Mo_leave_5 rfl hl (by decide) rfl (fun ls hl => ?_)
  refine lv_aload_n hx hb d_Mo_leave_6 rfl (lv_at hl 1 rfl) ?_
  refine lv_iconst (v := 1) hx hb d_Mo_leave_7 (by decide) ?_
  refine mr_Vi (g := (f_Mo_isKind mo_1 1)) (As := [.int 1]) (rest := []) ⟨hx, hb, hml, hown, hts0⟩ (m_Mo_isKind l hlt dC dI cI cZ sa rk hm ma mo_1 _ 1 (fun z => hg (by unfold f_Mo_leave; rw [bndM_r w_1, bndM_n z]))) hP hD hK hS hA hC hZ hnt hlocks L_1057 L_1059 L_61 L_90 L_1060 k_Mo_isKind ⟨(by show _ ≤ 8; omega), (by show _ ≤ 122; omega)⟩ rfl rfl hl.1 (Nat.le_of_ble_eq_true rfl) d_Mo_leave_8 rfl (fun q z => by unfold f_Mo_leave; rw [bndM_r w_1, bndM_l z]) (fun r_2 mo_2 H locs w_2 hP hD hS => ?_)
  refine lv_if_eq (tgt := 147) hx hb d_Mo_leave_11 (by decide) (fun c_3 => ?_) (fun c_3 => ?_)
  · refine lv_iload_n hx hb d_Mo_leave_147 rfl (lv_at hl 2 rfl) ?_
    refine lv_bipush (v := 12) hx hb d_Mo_leave_148 (by decide) ?_
    refine lv_icmp_ne (tgt := 163) hx hb d_Mo_leave_150 (by decide) (fun c_4 => ?_) (fun c_4 => ?_)
    · refine lv_aload_n hx hb d_Mo_leave_163 rfl (lv_at hl 1 rfl) ?_
      refine va_get (D := (dC, dI)) (ci := 6) (v := .int (q_loops mo_2)) (C := R_Mo) (T := T_Mo) (N := 31) hx hb hts u_Mo hown hK hP 0 rfl rfl 26 (by decide) (hts _ L_947) (fun _ h9 => h9) rfl d_Mo_leave_164 ?_
      refine lv_if_ne (tgt := 180) hx hb d_Mo_leave_167 (by decide) (fun c_5 => ?_) (fun c_5 => ?_)
      · refine lv_aload_n hx hb d_Mo_leave_180 rfl (lv_at hl 1 rfl) ?_
        refine mr_Vv (g := (f_Mo_semicolon mo_2)) (As := []) (rest := []) ⟨hx, hb, hml, hown, hts0⟩ (m_Mo_semicolon l hlt dC dI cI cZ sa rk hm ma mo_2 _  (fun z => hg (by unfold f_Mo_leave; rw [bndM_r w_1, bndM_r w_2, if_pos c_3, if_neg c_4, if_neg c_5, bndM_n z]))) hP hD hK hS hA hC hZ hnt hlocks L_1209 L_1211 L_79 L_90 L_1212 k_Mo_semicolon ⟨(by show _ ≤ 8; omega), (by show _ ≤ 122; omega)⟩ rfl rfl hl.1 (Nat.le_of_ble_eq_true rfl) d_Mo_leave_181 rfl (fun q z => by unfold f_Mo_leave; rw [bndM_r w_1, bndM_r w_2, if_pos c_3, if_neg c_4, if_neg c_5, bndM_l z]) (fun mo_6 H locs w_6 hP hD hS => ?_)
        refine lv_iload_n hx hb d_Mo_leave_184 rfl (lv_at hl 0 rfl) ?_
        exact mr_iret (v := r_1) (mo := mo_6) hx hb hr hlocks hK hP hD hS (by unfold f_Mo_leave; rw [bndM_r w_1, bndM_r w_2, if_pos c_3, if_neg c_4, if_neg c_5, bndM_r w_6]) d_Mo_leave_185
      · refine lv_aload_n hx hb d_Mo_leave_170 rfl (lv_at hl 1 rfl) ?_
        refine lv_aload_n hx hb d_Mo_leave_171 rfl (lv_at hl 1 rfl) ?_
        refine va_get (D := (dC, dI)) (ci := 6) (v := .ref (ma 6)) (C := R_Mo) (T := T_Mo) (N := 31) hx hb hts u_Mo hown hK hP 0 rfl rfl 11 (by decide) (hts _ L_932) (fun _ h9 => h9) rfl d_Mo_leave_172 ?_
        refine lv_iload_n hx hb d_Mo_leave_175 rfl (lv_at hl 0 rfl) ?_
        by_cases cb_7 : inb r_1 2600
        case neg => exact absurd (by unfold f_Mo_leave; rw [bndM_r w_1, bndM_r w_2, if_pos c_3, if_neg c_4, if_pos c_5, if_neg cb_7]) hg
        refine va_iald (D := (dC, dI)) hx hb hK hP 7 0 rfl rfl cb_7 d_Mo_leave_176 ?_
        refine mr_Vv (g := (f_Mo_refuse mo_2 ((q_spot mo_2) (r_1 : Int32).toNatClampNeg))) (As := [.int ((q_spot mo_2) (r_1 : Int32).toNatClampNeg)]) (rest := []) ⟨hx, hb, hml, hown, hts0⟩ (m_Mo_refuse l hlt dC dI cI cZ sa rk hm ma mo_2 _ ((q_spot mo_2) (r_1 : Int32).toNatClampNeg) ) hP hD hK hS hA hC hZ hnt hlocks L_1072 L_1074 L_64 L_90 L_1075 k_Mo_refuse ⟨(by show _ ≤ 8; omega), (by show _ ≤ 122; omega)⟩ rfl rfl hl.1 (Nat.le_of_ble_eq_true rfl) d_Mo_leave_177 rfl (fun q z => by unfold f_Mo_leave; rw [bndM_r w_1, bndM_r w_2, if_pos c_3, if_neg c_4, if_pos c_5, if_pos cb_7, bndM_l z]) (fun mo_8 H locs w_8 hP hD hS => ?_)
        refine lv_aload_n hx hb d_Mo_leave_180 rfl (lv_at hl 1 rfl) ?_
        refine mr_Vv (g := (f_Mo_semicolon mo_8)) (As := []) (rest := []) ⟨hx, hb, hml, hown, hts0⟩ (m_Mo_semicolon l hlt dC dI cI cZ sa rk hm ma mo_8 _  (fun z => hg (by unfold f_Mo_leave; rw [bndM_r w_1, bndM_r w_2, if_pos c_3, if_neg c_4, if_pos c_5, if_pos cb_7, bndM_r w_8, bndM_n z]))) hP hD hK hS hA hC hZ hnt hlocks L_1209 L_1211 L_79 L_90 L_1212 k_Mo_semicolon ⟨(by show _ ≤ 8; omega), (by show _ ≤ 122; omega)⟩ rfl rfl hl.1 (Nat.le_of_ble_eq_true rfl) d_Mo_leave_181 rfl (fun q z => by unfold f_Mo_leave; rw [bndM_r w_1, bndM_r w_2, if_pos c_3, if_neg c_4, if_pos c_5, if_pos cb_7, bndM_r w_8, bndM_l z]) (fun mo_9 H locs w_9 hP hD hS => ?_)
        refine lv_iload_n hx hb d_Mo_leave_184 rfl (lv_at hl 0 rfl) ?_
        exact mr_iret (v := r_1) (mo := mo_9) hx hb hr hlocks hK hP hD hS (by unfold f_Mo_leave; rw [bndM_r w_1, bndM_r w_2, if_pos c_3, if_neg c_4, if_pos c_5, if_pos cb_7, bndM_r w_8, bndM_r w_9]) d_Mo_leave_185
    · refine lv_aload_n hx hb d_Mo_leave_153 rfl (lv_at hl 1 rfl) ?_
      refine va_get (D := (dC, dI)) (ci := 6) (v := .int (q_breakables mo_2)) (C := R_Mo) (T := T_Mo) (N := 31) hx hb hts u_Mo hown hK hP 0 rfl rfl 27 (by decide) (hts _ L_948) (fun _ h9 => h9) rfl d_Mo_leave_154 ?_
      refine lv_if_ne (tgt := 180) hx hb d_Mo_leave_157 (by decide) (fun c_10 => ?_) (fun c_10 => ?_)
      · refine lv_aload_n hx hb d_Mo_leave_180 rfl (lv_at hl 1 rfl) ?_
        refine mr_Vv (g := (f_Mo_semicolon mo_2)) (As := []) (rest := []) ⟨hx, hb, hml, hown, hts0⟩ (m_Mo_semicolon l hlt dC dI cI cZ sa rk hm ma mo_2 _  (fun z => hg (by unfold f_Mo_leave; rw [bndM_r w_1, bndM_r w_2, if_pos c_3, if_pos c_4, if_neg c_10, bndM_n z]))) hP hD hK hS hA hC hZ hnt hlocks L_1209 L_1211 L_79 L_90 L_1212 k_Mo_semicolon ⟨(by show _ ≤ 8; omega), (by show _ ≤ 122; omega)⟩ rfl rfl hl.1 (Nat.le_of_ble_eq_true rfl) d_Mo_leave_181 rfl (fun q z => by unfold f_Mo_leave; rw [bndM_r w_1, bndM_r w_2, if_pos c_3, if_pos c_4, if_neg c_10, bndM_l z]) (fun mo_11 H locs w_11 hP hD hS => ?_)
        refine lv_iload_n hx hb d_Mo_leave_184 rfl (lv_at hl 0 rfl) ?_
        exact mr_iret (v := r_1) (mo := mo_11) hx hb hr hlocks hK hP hD hS (by unfold f_Mo_leave; rw [bndM_r w_1, bndM_r w_2, if_pos c_3, if_pos c_4, if_neg c_10, bndM_r w_11]) d_Mo_leave_185
      · refine lv_goto (tgt := 170) hx hb d_Mo_leave_160 (by decide) ?_
        refine lv_aload_n hx hb d_Mo_leave_170 rfl (lv_at hl 1 rfl) ?_
        refine lv_aload_n hx hb d_Mo_leave_171 rfl (lv_at hl 1 rfl) ?_
        refine va_get (D := (dC, dI)) (ci := 6) (v := .ref (ma 6)) (C := R_Mo) (T := T_Mo) (N := 31) hx hb hts u_Mo hown hK hP 0 rfl rfl 11 (by decide) (hts _ L_932) (fun _ h9 => h9) rfl d_Mo_leave_172 ?_
        refine lv_iload_n hx hb d_Mo_leave_175 rfl (lv_at hl 0 rfl) ?_
        by_cases cb_12 : inb r_1 2600
        case neg => exact absurd (by unfold f_Mo_leave; rw [bndM_r w_1, bndM_r w_2, if_pos c_3, if_pos c_4, if_pos c_10, if_neg cb_12]) hg
        refine va_iald (D := (dC, dI)) hx hb hK hP 7 0 rfl rfl cb_12 d_Mo_leave_176 ?_
        refine mr_Vv (g := (f_Mo_refuse mo_2 ((q_spot mo_2) (r_1 : Int32).toNatClampNeg))) (As := [.int ((q_spot mo_2) (r_1 : Int32).toNatClampNeg)]) (rest := []) ⟨hx, hb, hml, hown, hts0⟩ (m_Mo_refuse l hlt dC dI cI cZ sa rk hm ma mo_2 _ ((q_spot mo_2) (r_1 : Int32).toNatClampNeg) ) hP hD hK hS hA hC hZ hnt hlocks L_1072 L_1074 L_64 L_90 L_1075 k_Mo_refuse ⟨(by show _ ≤ 8; omega), (by show _ ≤ 122; omega)⟩ rfl rfl hl.1 (Nat.le_of_ble_eq_true rfl) d_Mo_leave_177 rfl (fun q z => by unfold f_Mo_leave; rw [bndM_r w_1, bndM_r w_2, if_pos c_3, if_pos c_4, if_pos c_10, if_pos cb_12, bndM_l z]) (fun mo_13 H locs w_13 hP hD hS => ?_)
        refine lv_aload_n hx hb d_Mo_leave_180 rfl (lv_at hl 1 rfl) ?_
        refine mr_Vv (g := (f_Mo_semicolon mo_13)) (As := []) (rest := []) ⟨hx, hb, hml, hown, hts0⟩ (m_Mo_semicolon l hlt dC dI cI cZ sa rk hm ma mo_13 _  (fun z => hg (by unfold f_Mo_leave; rw [bndM_r w_1, bndM_r w_2, if_pos c_3, if_pos c_4, if_pos c_10, if_pos cb_12, bndM_r w_13, bndM_n z]))) hP hD hK hS hA hC hZ hnt hlocks L_1209 L_1211 L_79 L_90 L_1212 k_Mo_semicolon ⟨(by show _ ≤ 8; omega), (by show _ ≤ 122; omega)⟩ rfl rfl hl.1 (Nat.le_of_ble_eq_true rfl) d_Mo_leave_181 rfl (fun q z => by unfold f_Mo_leave; rw [bndM_r w_1, bndM_r w_2, if_pos c_3, if_pos c_4, if_pos c_10, if_pos cb_12, bndM_r w_13, bndM_l z]) (fun mo_14 H locs w_14 hP hD hS => ?_)
        refine lv_iload_n hx hb d_Mo_leave_184 rfl (lv_at hl 0 rfl) ?_
        exact mr_iret (v := r_1) (mo := mo_14) hx hb hr hlocks hK hP hD hS (by unfold f_Mo_leave; rw [bndM_r w_1, bndM_r w_2, if_pos c_3, if_pos c_4, if_pos c_10, if_pos cb_12, bndM_r w_13, bndM_r w_14]) d_Mo_leave_185
  · refine lv_aload_n hx hb d_Mo_leave_14 rfl (lv_at hl 1 rfl) ?_
    refine va_get (D := (dC, dI)) (ci := 6) (v := .ref (ma 3)) (C := R_Mo) (T := T_Mo) (N := 31) hx hb hts u_Mo hown hK hP 0 rfl rfl 4 (by decide) (hts _ L_925) (fun _ h9 => h9) rfl d_Mo_leave_15 ?_
    refine lv_aload_n hx hb d_Mo_leave_18 rfl (lv_at hl 1 rfl) ?_
    refine va_get (D := (dC, dI)) (ci := 6) (v := .int (q_at mo_2)) (C := R_Mo) (T := T_Mo) (N := 31) hx hb hts u_Mo hown hK hP 0 rfl rfl 6 (by decide) (hts _ L_927) (fun _ h9 => h9) rfl d_Mo_leave_19 ?_
    by_cases cb_15 : inb (q_at mo_2) 1001
    case neg => exact absurd (by unfold f_Mo_leave; rw [bndM_r w_1, bndM_r w_2, if_neg c_3, if_neg cb_15]) hg
    refine va_zald (D := (dC, dI)) hx hb hK hP 4 1 rfl rfl cb_15 d_Mo_leave_22 ?_
    refine lv_if_ne (tgt := 147) hx hb d_Mo_leave_23 (by decide) (fun c_16 => ?_) (fun c_16 => ?_)
    · refine lv_iload_n hx hb d_Mo_leave_147 rfl (lv_at hl 2 rfl) ?_
      refine lv_bipush (v := 12) hx hb d_Mo_leave_148 (by decide) ?_
      refine lv_icmp_ne (tgt := 163) hx hb d_Mo_leave_150 (by decide) (fun c_17 => ?_) (fun c_17 => ?_)
      · refine lv_aload_n hx hb d_Mo_leave_163 rfl (lv_at hl 1 rfl) ?_
        refine va_get (D := (dC, dI)) (ci := 6) (v := .int (q_loops mo_2)) (C := R_Mo) (T := T_Mo) (N := 31) hx hb hts u_Mo hown hK hP 0 rfl rfl 26 (by decide) (hts _ L_947) (fun _ h9 => h9) rfl d_Mo_leave_164 ?_
        refine lv_if_ne (tgt := 180) hx hb d_Mo_leave_167 (by decide) (fun c_18 => ?_) (fun c_18 => ?_)
        · refine lv_aload_n hx hb d_Mo_leave_180 rfl (lv_at hl 1 rfl) ?_
          refine mr_Vv (g := (f_Mo_semicolon mo_2)) (As := []) (rest := []) ⟨hx, hb, hml, hown, hts0⟩ (m_Mo_semicolon l hlt dC dI cI cZ sa rk hm ma mo_2 _  (fun z => hg (by unfold f_Mo_leave; rw [bndM_r w_1, bndM_r w_2, if_neg c_3, if_pos cb_15, if_neg c_16, if_neg c_17, if_neg c_18, bndM_n z]))) hP hD hK hS hA hC hZ hnt hlocks L_1209 L_1211 L_79 L_90 L_1212 k_Mo_semicolon ⟨(by show _ ≤ 8; omega), (by show _ ≤ 122; omega)⟩ rfl rfl hl.1 (Nat.le_of_ble_eq_true rfl) d_Mo_leave_181 rfl (fun q z => by unfold f_Mo_leave; rw [bndM_r w_1, bndM_r w_2, if_neg c_3, if_pos cb_15, if_neg c_16, if_neg c_17, if_neg c_18, bndM_l z]) (fun mo_19 H locs w_19 hP hD hS => ?_)
          refine lv_iload_n hx hb d_Mo_leave_184 rfl (lv_at hl 0 rfl) ?_
          exact mr_iret (v := r_1) (mo := mo_19) hx hb hr hlocks hK hP hD hS (by unfold f_Mo_leave; rw [bndM_r w_1, bndM_r w_2, if_neg c_3, if_pos cb_15, if_neg c_16, if_neg c_17, if_neg c_18, bndM_r w_19]) d_Mo_leave_185
        · refine lv_aload_n hx hb d_Mo_leave_170 rfl (lv_at hl 1 rfl) ?_
          refine lv_aload_n hx hb d_Mo_leave_171 rfl (lv_at hl 1 rfl) ?_
          refine va_get (D := (dC, dI)) (ci := 6) (v := .ref (ma 6)) (C := R_Mo) (T := T_Mo) (N := 31) hx hb hts u_Mo hown hK hP 0 rfl rfl 11 (by decide) (hts _ L_932) (fun _ h9 => h9) rfl d_Mo_leave_172 ?_
          refine lv_iload_n hx hb d_Mo_leave_175 rfl (lv_at hl 0 rfl) ?_
          by_cases cb_20 : inb r_1 2600
          case neg => exact absurd (by unfold f_Mo_leave; rw [bndM_r w_1, bndM_r w_2, if_neg c_3, if_pos cb_15, if_neg c_16, if_neg c_17, if_pos c_18, if_neg cb_20]) hg
          refine va_iald (D := (dC, dI)) hx hb hK hP 7 0 rfl rfl cb_20 d_Mo_leave_176 ?_
          refine mr_Vv (g := (f_Mo_refuse mo_2 ((q_spot mo_2) (r_1 : Int32).toNatClampNeg))) (As := [.int ((q_spot mo_2) (r_1 : Int32).toNatClampNeg)]) (rest := []) ⟨hx, hb, hml, hown, hts0⟩ (m_Mo_refuse l hlt dC dI cI cZ sa rk hm ma mo_2 _ ((q_spot mo_2) (r_1 : Int32).toNatClampNeg) ) hP hD hK hS hA hC hZ hnt hlocks L_1072 L_1074 L_64 L_90 L_1075 k_Mo_refuse ⟨(by show _ ≤ 8; omega), (by show _ ≤ 122; omega)⟩ rfl rfl hl.1 (Nat.le_of_ble_eq_true rfl) d_Mo_leave_177 rfl (fun q z => by unfold f_Mo_leave; rw [bndM_r w_1, bndM_r w_2, if_neg c_3, if_pos cb_15, if_neg c_16, if_neg c_17, if_pos c_18, if_pos cb_20, bndM_l z]) (fun mo_21 H locs w_21 hP hD hS => ?_)
          refine lv_aload_n hx hb d_Mo_leave_180 rfl (lv_at hl 1 rfl) ?_
          refine mr_Vv (g := (f_Mo_semicolon mo_21)) (As := []) (rest := []) ⟨hx, hb, hml, hown, hts0⟩ (m_Mo_semicolon l hlt dC dI cI cZ sa rk hm ma mo_21 _  (fun z => hg (by unfold f_Mo_leave; rw [bndM_r w_1, bndM_r w_2, if_neg c_3, if_pos cb_15, if_neg c_16, if_neg c_17, if_pos c_18, if_pos cb_20, bndM_r w_21, bndM_n z]))) hP hD hK hS hA hC hZ hnt hlocks L_1209 L_1211 L_79 L_90 L_1212 k_Mo_semicolon ⟨(by show _ ≤ 8; omega), (by show _ ≤ 122; omega)⟩ rfl rfl hl.1 (Nat.le_of_ble_eq_true rfl) d_Mo_leave_181 rfl (fun q z => by unfold f_Mo_leave; rw [bndM_r w_1, bndM_r w_2, if_neg c_3, if_pos cb_15, if_neg c_16, if_neg c_17, if_pos c_18, if_pos cb_20, bndM_r w_21, bndM_l z]) (fun mo_22 H locs w_22 hP hD hS => ?_)
          refine lv_iload_n hx hb d_Mo_leave_184 rfl (lv_at hl 0 rfl) ?_
          exact mr_iret (v := r_1) (mo := mo_22) hx hb hr hlocks hK hP hD hS (by unfold f_Mo_leave; rw [bndM_r w_1, bndM_r w_2, if_neg c_3, if_pos cb_15, if_neg c_16, if_neg c_17, if_pos c_18, if_pos cb_20, bndM_r w_21, bndM_r w_22]) d_Mo_leave_185
      · refine lv_aload_n hx hb d_Mo_leave_153 rfl (lv_at hl 1 rfl) ?_
        refine va_get (D := (dC, dI)) (ci := 6) (v := .int (q_breakables mo_2)) (C := R_Mo) (T := T_Mo) (N := 31) hx hb hts u_Mo hown hK hP 0 rfl rfl 27 (by decide) (hts _ L_948) (fun _ h9 => h9) rfl d_Mo_leave_154 ?_
        refine lv_if_ne (tgt := 180) hx hb d_Mo_leave_157 (by decide) (fun c_23 => ?_) (fun c_23 => ?_)
        · refine lv_aload_n hx hb d_Mo_leave_180 rfl (lv_at hl 1 rfl) ?_
          refine mr_Vv (g := (f_Mo_semicolon mo_2)) (As := []) (rest := []) ⟨hx, hb, hml, hown, hts0⟩ (m_Mo_semicolon l hlt dC dI cI cZ sa rk hm ma mo_2 _  (fun z => hg (by unfold f_Mo_leave; rw [bndM_r w_1, bndM_r w_2, if_neg c_3, if_pos cb_15, if_neg c_16, if_pos c_17, if_neg c_23, bndM_n z]))) hP hD hK hS hA hC hZ hnt hlocks L_1209 L_1211 L_79 L_90 L_1212 k_Mo_semicolon ⟨(by show _ ≤ 8; omega), (by show _ ≤ 122; omega)⟩ rfl rfl hl.1 (Nat.le_of_ble_eq_true rfl) d_Mo_leave_181 rfl (fun q z => by unfold f_Mo_leave; rw [bndM_r w_1, bndM_r w_2, if_neg c_3, if_pos cb_15, if_neg c_16, if_pos c_17, if_neg c_23, bndM_l z]) (fun mo_24 H locs w_24 hP hD hS => ?_)
          refine lv_iload_n hx hb d_Mo_leave_184 rfl (lv_at hl 0 rfl) ?_
          exact mr_iret (v := r_1) (mo := mo_24) hx hb hr hlocks hK hP hD hS (by unfold f_Mo_leave; rw [bndM_r w_1, bndM_r w_2, if_neg c_3, if_pos cb_15, if_neg c_16, if_pos c_17, if_neg c_23, bndM_r w_24]) d_Mo_leave_185
        · refine lv_goto (tgt := 170) hx hb d_Mo_leave_160 (by decide) ?_
          refine lv_aload_n hx hb d_Mo_leave_170 rfl (lv_at hl 1 rfl) ?_
          refine lv_aload_n hx hb d_Mo_leave_171 rfl (lv_at hl 1 rfl) ?_
          refine va_get (D := (dC, dI)) (ci := 6) (v := .ref (ma 6)) (C := R_Mo) (T := T_Mo) (N := 31) hx hb hts u_Mo hown hK hP 0 rfl rfl 11 (by decide) (hts _ L_932) (fun _ h9 => h9) rfl d_Mo_leave_172 ?_
          refine lv_iload_n hx hb d_Mo_leave_175 rfl (lv_at hl 0 rfl) ?_
          by_cases cb_25 : inb r_1 2600
          case neg => exact absurd (by unfold f_Mo_leave; rw [bndM_r w_1, bndM_r w_2, if_neg c_3, if_pos cb_15, if_neg c_16, if_pos c_17, if_pos c_23, if_neg cb_25]) hg
          refine va_iald (D := (dC, dI)) hx hb hK hP 7 0 rfl rfl cb_25 d_Mo_leave_176 ?_
          refine mr_Vv (g := (f_Mo_refuse mo_2 ((q_spot mo_2) (r_1 : Int32).toNatClampNeg))) (As := [.int ((q_spot mo_2) (r_1 : Int32).toNatClampNeg)]) (rest := []) ⟨hx, hb, hml, hown, hts0⟩ (m_Mo_refuse l hlt dC dI cI cZ sa rk hm ma mo_2 _ ((q_spot mo_2) (r_1 : Int32).toNatClampNeg) ) hP hD hK hS hA hC hZ hnt hlocks L_1072 L_1074 L_64 L_90 L_1075 k_Mo_refuse ⟨(by show _ ≤ 8; omega), (by show _ ≤ 122; omega)⟩ rfl rfl hl.1 (Nat.le_of_ble_eq_true rfl) d_Mo_leave_177 rfl (fun q z => by unfold f_Mo_leave; rw [bndM_r w_1, bndM_r w_2, if_neg c_3, if_pos cb_15, if_neg c_16, if_pos c_17, if_pos c_23, if_pos cb_25, bndM_l z]) (fun mo_26 H locs w_26 hP hD hS => ?_)
          refine lv_aload_n hx hb d_Mo_leave_180 rfl (lv_at hl 1 rfl) ?_
          refine mr_Vv (g := (f_Mo_semicolon mo_26)) (As := []) (rest := []) ⟨hx, hb, hml, hown, hts0⟩ (m_Mo_semicolon l hlt dC dI cI cZ sa rk hm ma mo_26 _  (fun z => hg (by unfold f_Mo_leave; rw [bndM_r w_1, bndM_r w_2, if_neg c_3, if_pos cb_15, if_neg c_16, if_pos c_17, if_pos c_23, if_pos cb_25, bndM_r w_26, bndM_n z]))) hP hD hK hS hA hC hZ hnt hlocks L_1209 L_1211 L_79 L_90 L_1212 k_Mo_semicolon ⟨(by show _ ≤ 8; omega), (by show _ ≤ 122; omega)⟩ rfl rfl hl.1 (Nat.le_of_ble_eq_true rfl) d_Mo_leave_181 rfl (fun q z => by unfold f_Mo_leave; rw [bndM_r w_1, bndM_r w_2, if_neg c_3, if_pos cb_15, if_neg c_16, if_pos c_17, if_pos c_23, if_pos cb_25, bndM_r w_26, bndM_l z]) (fun mo_27 H locs w_27 hP hD hS => ?_)
          refine lv_iload_n hx hb d_Mo_leave_184 rfl (lv_at hl 0 rfl) ?_
          exact mr_iret (v := r_1) (mo := mo_27) hx hb hr hlocks hK hP hD hS (by unfold f_Mo_leave; rw [bndM_r w_1, bndM_r w_2, if_neg c_3, if_pos cb_15, if_neg c_16, if_pos c_17, if_pos c_23, if_pos cb_25, bndM_r w_26, bndM_r w_27]) d_Mo_leave_185
    · refine lv_aload_n hx hb d_Mo_leave_26 rfl (lv_at hl 1 rfl) ?_
      refine lv_aload_n hx hb d_Mo_leave_27 rfl (lv_at hl 1 rfl) ?_
      refine va_get (D := (dC, dI)) (ci := 6) (v := .int (q_strict mo_2)) (C := R_Mo) (T := T_Mo) (N := 31) hx hb hts u_Mo hown hK hP 0 rfl rfl 19 (by decide) (hts _ L_940) (fun _ h9 => h9) rfl d_Mo_leave_28 ?_
      refine mr_Vi (g := (f_Mo_isReserved mo_2 (q_strict mo_2))) (As := [.int (q_strict mo_2)]) (rest := []) ⟨hx, hb, hml, hown, hts0⟩ (m_Mo_isReserved l hlt dC dI cI cZ sa rk hm ma mo_2 _ (q_strict mo_2) (fun z => hg (by unfold f_Mo_leave; rw [bndM_r w_1, bndM_r w_2, if_neg c_3, if_pos cb_15, if_pos c_16, bndM_n z]))) hP hD hK hS hA hC hZ hnt hlocks L_1103 L_1105 L_66 L_90 L_1106 k_Mo_isReserved ⟨(by show _ ≤ 8; omega), (by show _ ≤ 122; omega)⟩ rfl rfl hl.1 (Nat.le_of_ble_eq_true rfl) d_Mo_leave_31 rfl (fun q z => by unfold f_Mo_leave; rw [bndM_r w_1, bndM_r w_2, if_neg c_3, if_pos cb_15, if_pos c_16, bndM_l z]) (fun r_28 mo_28 H locs w_28 hP hD hS => ?_)
      refine lv_if_ne (tgt := 147) hx hb d_Mo_leave_34 (by decide) (fun c_29 => ?_) (fun c_29 => ?_)
      · refine lv_iload_n hx hb d_Mo_leave_147 rfl (lv_at hl 2 rfl) ?_
        refine lv_bipush (v := 12) hx hb d_Mo_leave_148 (by decide) ?_
        refine lv_icmp_ne (tgt := 163) hx hb d_Mo_leave_150 (by decide) (fun c_30 => ?_) (fun c_30 => ?_)
        · refine lv_aload_n hx hb d_Mo_leave_163 rfl (lv_at hl 1 rfl) ?_
          refine va_get (D := (dC, dI)) (ci := 6) (v := .int (q_loops mo_28)) (C := R_Mo) (T := T_Mo) (N := 31) hx hb hts u_Mo hown hK hP 0 rfl rfl 26 (by decide) (hts _ L_947) (fun _ h9 => h9) rfl d_Mo_leave_164 ?_
          refine lv_if_ne (tgt := 180) hx hb d_Mo_leave_167 (by decide) (fun c_31 => ?_) (fun c_31 => ?_)
          · refine lv_aload_n hx hb d_Mo_leave_180 rfl (lv_at hl 1 rfl) ?_
            refine mr_Vv (g := (f_Mo_semicolon mo_28)) (As := []) (rest := []) ⟨hx, hb, hml, hown, hts0⟩ (m_Mo_semicolon l hlt dC dI cI cZ sa rk hm ma mo_28 _  (fun z => hg (by unfold f_Mo_leave; rw [bndM_r w_1, bndM_r w_2, if_neg c_3, if_pos cb_15, if_pos c_16, bndM_r w_28, if_neg c_29, if_neg c_30, if_neg c_31, bndM_n z]))) hP hD hK hS hA hC hZ hnt hlocks L_1209 L_1211 L_79 L_90 L_1212 k_Mo_semicolon ⟨(by show _ ≤ 8; omega), (by show _ ≤ 122; omega)⟩ rfl rfl hl.1 (Nat.le_of_ble_eq_true rfl) d_Mo_leave_181 rfl (fun q z => by unfold f_Mo_leave; rw [bndM_r w_1, bndM_r w_2, if_neg c_3, if_pos cb_15, if_pos c_16, bndM_r w_28, if_neg c_29, if_neg c_30, if_neg c_31, bndM_l z]) (fun mo_32 H locs w_32 hP hD hS => ?_)
            refine lv_iload_n hx hb d_Mo_leave_184 rfl (lv_at hl 0 rfl) ?_
            exact mr_iret (v := r_1) (mo := mo_32) hx hb hr hlocks hK hP hD hS (by unfold f_Mo_leave; rw [bndM_r w_1, bndM_r w_2, if_neg c_3, if_pos cb_15, if_pos c_16, bndM_r w_28, if_neg c_29, if_neg c_30, if_neg c_31, bndM_r w_32]) d_Mo_leave_185
          · refine lv_aload_n hx hb d_Mo_leave_170 rfl (lv_at hl 1 rfl) ?_
            refine lv_aload_n hx hb d_Mo_leave_171 rfl (lv_at hl 1 rfl) ?_
            refine va_get (D := (dC, dI)) (ci := 6) (v := .ref (ma 6)) (C := R_Mo) (T := T_Mo) (N := 31) hx hb hts u_Mo hown hK hP 0 rfl rfl 11 (by decide) (hts _ L_932) (fun _ h9 => h9) rfl d_Mo_leave_172 ?_
            refine lv_iload_n hx hb d_Mo_leave_175 rfl (lv_at hl 0 rfl) ?_
            by_cases cb_33 : inb r_1 2600
            case neg => exact absurd (by unfold f_Mo_leave; rw [bndM_r w_1, bndM_r w_2, if_neg c_3, if_pos cb_15, if_pos c_16, bndM_r w_28, if_neg c_29, if_neg c_30, if_pos c_31, if_neg cb_33]) hg
            refine va_iald (D := (dC, dI)) hx hb hK hP 7 0 rfl rfl cb_33 d_Mo_leave_176 ?_
            refine mr_Vv (g := (f_Mo_refuse mo_28 ((q_spot mo_28) (r_1 : Int32).toNatClampNeg))) (As := [.int ((q_spot mo_28) (r_1 : Int32).toNatClampNeg)]) (rest := []) ⟨hx, hb, hml, hown, hts0⟩ (m_Mo_refuse l hlt dC dI cI cZ sa rk hm ma mo_28 _ ((q_spot mo_28) (r_1 : Int32).toNatClampNeg) ) hP hD hK hS hA hC hZ hnt hlocks L_1072 L_1074 L_64 L_90 L_1075 k_Mo_refuse ⟨(by show _ ≤ 8; omega), (by show _ ≤ 122; omega)⟩ rfl rfl hl.1 (Nat.le_of_ble_eq_true rfl) d_Mo_leave_177 rfl (fun q z => by unfold f_Mo_leave; rw [bndM_r w_1, bndM_r w_2, if_neg c_3, if_pos cb_15, if_pos c_16, bndM_r w_28, if_neg c_29, if_neg c_30, if_pos c_31, if_pos cb_33, bndM_l z]) (fun mo_34 H locs w_34 hP hD hS => ?_)
            refine lv_aload_n hx hb d_Mo_leave_180 rfl (lv_at hl 1 rfl) ?_
            refine mr_Vv (g := (f_Mo_semicolon mo_34)) (As := []) (rest := []) ⟨hx, hb, hml, hown, hts0⟩ (m_Mo_semicolon l hlt dC dI cI cZ sa rk hm ma mo_34 _  (fun z => hg (by unfold f_Mo_leave; rw [bndM_r w_1, bndM_r w_2, if_neg c_3, if_pos cb_15, if_pos c_16, bndM_r w_28, if_neg c_29, if_neg c_30, if_pos c_31, if_pos cb_33, bndM_r w_34, bndM_n z]))) hP hD hK hS hA hC hZ hnt hlocks L_1209 L_1211 L_79 L_90 L_1212 k_Mo_semicolon ⟨(by show _ ≤ 8; omega), (by show _ ≤ 122; omega)⟩ rfl rfl hl.1 (Nat.le_of_ble_eq_true rfl) d_Mo_leave_181 rfl (fun q z => by unfold f_Mo_leave; rw [bndM_r w_1, bndM_r w_2, if_neg c_3, if_pos cb_15, if_pos c_16, bndM_r w_28, if_neg c_29, if_neg c_30, if_pos c_31, if_pos cb_33, bndM_r w_34, bndM_l z]) (fun mo_35 H locs w_35 hP hD hS => ?_)
            refine lv_iload_n hx hb d_Mo_leave_184 rfl (lv_at hl 0 rfl) ?_
            exact mr_iret (v := r_1) (mo := mo_35) hx hb hr hlocks hK hP hD hS (by unfold f_Mo_leave; rw [bndM_r w_1, bndM_r w_2, if_neg c_3, if_pos cb_15, if_pos c_16, bndM_r w_28, if_neg c_29, if_neg c_30, if_pos c_31, if_pos cb_33, bndM_r w_34, bndM_r w_35]) d_Mo_leave_185
        · refine lv_aload_n hx hb d_Mo_leave_153 rfl (lv_at hl 1 rfl) ?_
          refine va_get (D := (dC, dI)) (ci := 6) (v := .int (q_breakables mo_28)) (C := R_Mo) (T := T_Mo) (N := 31) hx hb hts u_Mo hown hK hP 0 rfl rfl 27 (by decide) (hts _ L_948) (fun _ h9 => h9) rfl d_Mo_leave_154 ?_
          refine lv_if_ne (tgt := 180) hx hb d_Mo_leave_157 (by decide) (fun c_36 => ?_) (fun c_36 => ?_)
          · refine lv_aload_n hx hb d_Mo_leave_180 rfl (lv_at hl 1 rfl) ?_
            refine mr_Vv (g := (f_Mo_semicolon mo_28)) (As := []) (rest := []) ⟨hx, hb, hml, hown, hts0⟩ (m_Mo_semicolon l hlt dC dI cI cZ sa rk hm ma mo_28 _  (fun z => hg (by unfold f_Mo_leave; rw [bndM_r w_1, bndM_r w_2, if_neg c_3, if_pos cb_15, if_pos c_16, bndM_r w_28, if_neg c_29, if_pos c_30, if_neg c_36, bndM_n z]))) hP hD hK hS hA hC hZ hnt hlocks L_1209 L_1211 L_79 L_90 L_1212 k_Mo_semicolon ⟨(by show _ ≤ 8; omega), (by show _ ≤ 122; omega)⟩ rfl rfl hl.1 (Nat.le_of_ble_eq_true rfl) d_Mo_leave_181 rfl (fun q z => by unfold f_Mo_leave; rw [bndM_r w_1, bndM_r w_2, if_neg c_3, if_pos cb_15, if_pos c_16, bndM_r w_28, if_neg c_29, if_pos c_30, if_neg c_36, bndM_l z]) (fun mo_37 H locs w_37 hP hD hS => ?_)
            refine lv_iload_n hx hb d_Mo_leave_184 rfl (lv_at hl 0 rfl) ?_
            exact mr_iret (v := r_1) (mo := mo_37) hx hb hr hlocks hK hP hD hS (by unfold f_Mo_leave; rw [bndM_r w_1, bndM_r w_2, if_neg c_3, if_pos cb_15, if_pos c_16, bndM_r w_28, if_neg c_29, if_pos c_30, if_neg c_36, bndM_r w_37]) d_Mo_leave_185
          · refine lv_goto (tgt := 170) hx hb d_Mo_leave_160 (by decide) ?_
            refine lv_aload_n hx hb d_Mo_leave_170 rfl (lv_at hl 1 rfl) ?_
            refine lv_aload_n hx hb d_Mo_leave_171 rfl (lv_at hl 1 rfl) ?_
            refine va_get (D := (dC, dI)) (ci := 6) (v := .ref (ma 6)) (C := R_Mo) (T := T_Mo) (N := 31) hx hb hts u_Mo hown hK hP 0 rfl rfl 11 (by decide) (hts _ L_932) (fun _ h9 => h9) rfl d_Mo_leave_172 ?_
            refine lv_iload_n hx hb d_Mo_leave_175 rfl (lv_at hl 0 rfl) ?_
            by_cases cb_38 : inb r_1 2600
            case neg => exact absurd (by unfold f_Mo_leave; rw [bndM_r w_1, bndM_r w_2, if_neg c_3, if_pos cb_15, if_pos c_16, bndM_r w_28, if_neg c_29, if_pos c_30, if_pos c_36, if_neg cb_38]) hg
            refine va_iald (D := (dC, dI)) hx hb hK hP 7 0 rfl rfl cb_38 d_Mo_leave_176 ?_
            refine mr_Vv (g := (f_Mo_refuse mo_28 ((q_spot mo_28) (r_1 : Int32).toNatClampNeg))) (As := [.int ((q_spot mo_28) (r_1 : Int32).toNatClampNeg)]) (rest := []) ⟨hx, hb, hml, hown, hts0⟩ (m_Mo_refuse l hlt dC dI cI cZ sa rk hm ma mo_28 _ ((q_spot mo_28) (r_1 : Int32).toNatClampNeg) ) hP hD hK hS hA hC hZ hnt hlocks L_1072 L_1074 L_64 L_90 L_1075 k_Mo_refuse ⟨(by show _ ≤ 8; omega), (by show _ ≤ 122; omega)⟩ rfl rfl hl.1 (Nat.le_of_ble_eq_true rfl) d_Mo_leave_177 rfl (fun q z => by unfold f_Mo_leave; rw [bndM_r w_1, bndM_r w_2, if_neg c_3, if_pos cb_15, if_pos c_16, bndM_r w_28, if_neg c_29, if_pos c_30, if_pos c_36, if_pos cb_38, bndM_l z]) (fun mo_39 H locs w_39 hP hD hS => ?_)
            refine lv_aload_n hx hb d_Mo_leave_180 rfl (lv_at hl 1 rfl) ?_
            refine mr_Vv (g := (f_Mo_semicolon mo_39)) (As := []) (rest := []) ⟨hx, hb, hml, hown, hts0⟩ (m_Mo_semicolon l hlt dC dI cI cZ sa rk hm ma mo_39 _  (fun z => hg (by unfold f_Mo_leave; rw [bndM_r w_1, bndM_r w_2, if_neg c_3, if_pos cb_15, if_pos c_16, bndM_r w_28, if_neg c_29, if_pos c_30, if_pos c_36, if_pos cb_38, bndM_r w_39, bndM_n z]))) hP hD hK hS hA hC hZ hnt hlocks L_1209 L_1211 L_79 L_90 L_1212 k_Mo_semicolon ⟨(by show _ ≤ 8; omega), (by show _ ≤ 122; omega)⟩ rfl rfl hl.1 (Nat.le_of_ble_eq_true rfl) d_Mo_leave_181 rfl (fun q z => by unfold f_Mo_leave; rw [bndM_r w_1, bndM_r w_2, if_neg c_3, if_pos cb_15, if_pos c_16, bndM_r w_28, if_neg c_29, if_pos c_30, if_pos c_36, if_pos cb_38, bndM_r w_39, bndM_l z]) (fun mo_40 H locs w_40 hP hD hS => ?_)
            refine lv_iload_n hx hb d_Mo_leave_184 rfl (lv_at hl 0 rfl) ?_
            exact mr_iret (v := r_1) (mo := mo_40) hx hb hr hlocks hK hP hD hS (by unfold f_Mo_leave; rw [bndM_r w_1, bndM_r w_2, if_neg c_3, if_pos cb_15, if_pos c_16, bndM_r w_28, if_neg c_29, if_pos c_30, if_pos c_36, if_pos cb_38, bndM_r w_39, bndM_r w_40]) d_Mo_leave_185
      · refine lv_iconst (v := 0) hx hb d_Mo_leave_37 (by decide) ?_
        refine lv_istore_n (lv' := [(3, .int 0), (2, .int r_1), (0, .ref hm), (1, .int k)]) hx hb d_Mo_leave_38 rfl hl (by decide) rfl (fun ls hl => ?_)
        refine lv_aload_n hx hb d_Mo_leave_39 rfl (lv_at hl 2 rfl) ?_
        refine va_get (D := (dC, dI)) (ci := 6) (v := .int (q_ownLabels mo_28)) (C := R_Mo) (T := T_Mo) (N := 31) hx hb hts u_Mo hown hK hP 0 rfl rfl 23 (by decide) (hts _ L_944) (fun _ h9 => h9) rfl d_Mo_leave_40 ?_
        refine lv_istore (lv' := [(4, .int (q_ownLabels mo_28)), (3, .int 0), (2, .int r_1), (0, .ref hm), (1, .int k)]) hx hb d_Mo_leave_43 hl (by decide) rfl (fun ls hl => ?_)
        obtain ⟨x_41, hx_41⟩ : ∃ z, f_Mo_leave_L45 k 5000 0 (q_ownLabels mo_28) mo_28 = z := ⟨_, rfl⟩
        have hn_41 : x_41 ≠ none := (fun z => hg (by unfold f_Mo_leave; rw [bndM_r w_1, bndM_r w_2, if_neg c_3, if_pos cb_15, if_pos c_16, bndM_r w_28, if_pos c_29, bndM_n (hx_41.trans z)]))
        have hX_41 : ∀ q, x_41 = some (.inl q) → (f_Mo_leave mo k) = some (.inl q) := (fun q z => by unfold f_Mo_leave; rw [bndM_r w_1, bndM_r w_2, if_neg c_3, if_pos cb_15, if_pos c_16, bndM_r w_28, if_pos c_29, bndM_l (hx_41.trans z)])
        have lp_41 : ∀ (fu : Nat) (x3 x4 : Int32) (sx_41 : MO) (H : Heap) (locs : List Loc) (ls : Array Slot), va_P (dC, dI) cls (wM cI cZ hm ma sx_41) H → va_D A (wM cI cZ hm ma sx_41) → va_S A s.heap H locs → lv_has ls 5 [(0, .ref hm), (1, .int k), (2, .int r_1), (3, .int x3), (4, .int x4)] → x_41 = f_Mo_leave_L45 k fu x3 x4 sx_41 → W p l e (headSpec (wy y_Mo_leave c_Mo_leave 5 (some .int)) { frames := (8), cells := 1, slots := 6, locals := (122) }).room s m [.ref hm, .int k].toArray below meth c H locs 0 0 (vx_MQ below (va_Qi (fun r (u : MO) => (f_Mo_leave mo k) = some (.inr (r, u))) (wB (dC, dI) cI cZ A (wM cI cZ hm ma)) A) (xM (dC, dI) cI cZ hm ma (f_Mo_leave mo k) A) [.ref hm, .int k].toArray s (mcM (f_Mo_leave mo k)) (msM (f_Mo_leave mo k)) A) (F0 m 45 ls []) := by
          intro fu
          induction fu with
          | zero => intro x3 x4 sx_41 H locs ls hP hD hS hl hL_41; exact absurd (hL_41.trans rfl) hn_41
          | succ fu_41 ih_41 =>
            intro x3 x4 sx_41 H locs ls hP hD hS hl hL_41
            rw [f_Mo_leave_L45] at hL_41
            refine lv_iload hx hb d_Mo_leave_45 (lv_at hl 4 rfl) ?_
            refine lv_aload_n hx hb d_Mo_leave_47 rfl (lv_at hl 0 rfl) ?_
            refine va_get (D := (dC, dI)) (ci := 6) (v := .int (q_labels sx_41)) (C := R_Mo) (T := T_Mo) (N := 31) hx hb hts u_Mo hown hK hP 0 rfl rfl 22 (by decide) (hts _ L_943) (fun _ h9 => h9) rfl d_Mo_leave_48 ?_
            refine lv_icmp_ge (tgt := 105) hx hb d_Mo_leave_51 (by decide) (fun c_42 => ?_) (fun c_42 => ?_)
            · rw [if_pos c_42] at hL_41
              obtain ⟨se_41, hse_41⟩ : ∃ z : MO, z = sx_41 := ⟨_, rfl⟩
              have hP : va_P (dC, dI) cls (wM cI cZ hm ma se_41) H := by rw [hse_41]; exact hP
              have hD : va_D A (wM cI cZ hm ma se_41) := by rw [hse_41]; exact hD
              obtain ⟨rv_41, hrv_41⟩ : ∃ z : Int32, z = x3 := ⟨_, rfl⟩
              have we_41 : f_Mo_leave_L45 k 5000 0 (q_ownLabels mo_28) mo_28 = some (.inr (rv_41, se_41)) := by rw [hrv_41, hse_41]; exact hx_41.trans hL_41
              have hl : lv_has ls 5 [(0, .ref hm), (1, .int k), (2, .int r_1), (3, .int rv_41)] := by rw [hrv_41]; exact lv_sub hl [0, 1, 2, 3] rfl
              refine lv_iload_n hx hb d_Mo_leave_105 rfl (lv_at hl 3 rfl) ?_
              refine lv_if_ne (tgt := 117) hx hb d_Mo_leave_106 (by decide) (fun c_43 => ?_) (fun c_43 => ?_)
              · refine lv_aload_n hx hb d_Mo_leave_117 rfl (lv_at hl 0 rfl) ?_
                refine va_get (D := (dC, dI)) (ci := 6) (v := .ref (ma 5)) (C := R_Mo) (T := T_Mo) (N := 31) hx hb hts u_Mo hown hK hP 0 rfl rfl 10 (by decide) (hts _ L_931) (fun _ h9 => h9) rfl d_Mo_leave_118 ?_
                refine lv_iload_n hx hb d_Mo_leave_121 rfl (lv_at hl 2 rfl) ?_
                refine lv_aload_n hx hb d_Mo_leave_122 rfl (lv_at hl 0 rfl) ?_
                refine va_get (D := (dC, dI)) (ci := 6) (v := .ref (ma 2)) (C := R_Mo) (T := T_Mo) (N := 31) hx hb hts u_Mo hown hK hP 0 rfl rfl 3 (by decide) (hts _ L_924) (fun _ h9 => h9) rfl d_Mo_leave_123 ?_
                refine lv_aload_n hx hb d_Mo_leave_126 rfl (lv_at hl 0 rfl) ?_
                refine va_get (D := (dC, dI)) (ci := 6) (v := .int (q_at se_41)) (C := R_Mo) (T := T_Mo) (N := 31) hx hb hts u_Mo hown hK hP 0 rfl rfl 6 (by decide) (hts _ L_927) (fun _ h9 => h9) rfl d_Mo_leave_127 ?_
                by_cases cb_44 : inb (q_at se_41) 1001
                case neg => exact absurd (by unfold f_Mo_leave; rw [bndM_r w_1, bndM_r w_2, if_neg c_3, if_pos cb_15, if_pos c_16, bndM_r w_28, if_pos c_29, bndM_r we_41, if_neg c_43, if_neg cb_44]) hg
                refine va_iald (D := (dC, dI)) hx hb hK hP 3 0 rfl rfl cb_44 d_Mo_leave_130 ?_
                refine lv_iconst (v := 1) hx hb d_Mo_leave_131 (by decide) ?_
                refine lv_iadd hx hb d_Mo_leave_132 ?_
                by_cases cb_45 : inb r_1 2600
                case neg => exact absurd (by unfold f_Mo_leave; rw [bndM_r w_1, bndM_r w_2, if_neg c_3, if_pos cb_15, if_pos c_16, bndM_r w_28, if_pos c_29, bndM_r we_41, if_neg c_43, if_pos cb_44, if_neg cb_45]) hg
                refine va_iast (D := (dC, dI)) hx hb hK hP hD hS 6 0 rfl rfl cb_45 d_Mo_leave_133 (fun H locs hP hD hS => ?_)
                have hP : va_P (dC, dI) cls (wM cI cZ hm ma (s_value se_41 (upd (q_value se_41) (r_1 : Int32).toNatClampNeg (((q_names se_41) ((q_at se_41) : Int32).toNatClampNeg) + 1)))) H := hP
                have hD : va_D A (wM cI cZ hm ma (s_value se_41 (upd (q_value se_41) (r_1 : Int32).toNatClampNeg (((q_names se_41) ((q_at se_41) : Int32).toNatClampNeg) + 1)))) := hD
                refine lv_aload_n hx hb d_Mo_leave_134 rfl (lv_at hl 0 rfl) ?_
                refine lv_dup hx hb d_Mo_leave_135 rfl ?_
                refine va_get (D := (dC, dI)) (ci := 6) (v := .int (q_at se_41)) (C := R_Mo) (T := T_Mo) (N := 31) hx hb hts u_Mo hown hK hP 0 rfl rfl 6 (by decide) (hts _ L_927) (fun _ h9 => h9) rfl d_Mo_leave_136 ?_
                refine lv_iconst (v := 1) hx hb d_Mo_leave_139 (by decide) ?_
                refine lv_iadd hx hb d_Mo_leave_140 ?_
                refine va_put (D := (dC, dI)) (ci := 6) (v := .int ((q_at se_41) + 1)) (ty := .int) (C := R_Mo) (T := T_Mo) (N := 31) hx hb hts u_Mo ty_Mo tk_Mo nm_Mo hown hK hP hD hS 0 rfl rfl 6 (by decide) (hts _ L_927) (fun _ h9 => h9) rfl (by decide +kernel) rfl rfl (Nat.le_of_ble_eq_true rfl) d_Mo_leave_141 (fun H locs hP hD hS => ?_)
                have hP : va_P (dC, dI) cls (wM cI cZ hm ma (s_at (s_value se_41 (upd (q_value se_41) (r_1 : Int32).toNatClampNeg (((q_names se_41) ((q_at se_41) : Int32).toNatClampNeg) + 1))) ((q_at se_41) + 1))) H := hP
                have hD : va_D A (wM cI cZ hm ma (s_at (s_value se_41 (upd (q_value se_41) (r_1 : Int32).toNatClampNeg (((q_names se_41) ((q_at se_41) : Int32).toNatClampNeg) + 1))) ((q_at se_41) + 1))) := hD
                refine lv_goto (tgt := 180) hx hb d_Mo_leave_144 (by decide) ?_
                refine lv_aload_n hx hb d_Mo_leave_180 rfl (lv_at hl 0 rfl) ?_
                refine mr_Vv (g := (f_Mo_semicolon (s_at (s_value se_41 (upd (q_value se_41) (r_1 : Int32).toNatClampNeg (((q_names se_41) ((q_at se_41) : Int32).toNatClampNeg) + 1))) ((q_at se_41) + 1)))) (As := []) (rest := []) ⟨hx, hb, hml, hown, hts0⟩ (m_Mo_semicolon l hlt dC dI cI cZ sa rk hm ma (s_at (s_value se_41 (upd (q_value se_41) (r_1 : Int32).toNatClampNeg (((q_names se_41) ((q_at se_41) : Int32).toNatClampNeg) + 1))) ((q_at se_41) + 1)) _  (fun z => hg (by unfold f_Mo_leave; rw [bndM_r w_1, bndM_r w_2, if_neg c_3, if_pos cb_15, if_pos c_16, bndM_r w_28, if_pos c_29, bndM_r we_41, if_neg c_43, if_pos cb_44, if_pos cb_45, bndM_n z]))) hP hD hK hS hA hC hZ hnt hlocks L_1209 L_1211 L_79 L_90 L_1212 k_Mo_semicolon ⟨(by show _ ≤ 8; omega), (by show _ ≤ 122; omega)⟩ rfl rfl hl.1 (Nat.le_of_ble_eq_true rfl) d_Mo_leave_181 rfl (fun q z => by unfold f_Mo_leave; rw [bndM_r w_1, bndM_r w_2, if_neg c_3, if_pos cb_15, if_pos c_16, bndM_r w_28, if_pos c_29, bndM_r we_41, if_neg c_43, if_pos cb_44, if_pos cb_45, bndM_l z]) (fun mo_46 H locs w_46 hP hD hS => ?_)
                refine lv_iload_n hx hb d_Mo_leave_184 rfl (lv_at hl 2 rfl) ?_
                exact mr_iret (v := r_1) (mo := mo_46) hx hb hr hlocks hK hP hD hS (by unfold f_Mo_leave; rw [bndM_r w_1, bndM_r w_2, if_neg c_3, if_pos cb_15, if_pos c_16, bndM_r w_28, if_pos c_29, bndM_r we_41, if_neg c_43, if_pos cb_44, if_pos cb_45, bndM_r w_46]) d_Mo_leave_185
              · refine lv_aload_n hx hb d_Mo_leave_109 rfl (lv_at hl 0 rfl) ?_
                refine lv_aload_n hx hb d_Mo_leave_110 rfl (lv_at hl 0 rfl) ?_
                refine va_get (D := (dC, dI)) (ci := 6) (v := .int (q_at se_41)) (C := R_Mo) (T := T_Mo) (N := 31) hx hb hts u_Mo hown hK hP 0 rfl rfl 6 (by decide) (hts _ L_927) (fun _ h9 => h9) rfl d_Mo_leave_111 ?_
                refine mr_Vv (g := (f_Mo_refuse se_41 (q_at se_41))) (As := [.int (q_at se_41)]) (rest := []) ⟨hx, hb, hml, hown, hts0⟩ (m_Mo_refuse l hlt dC dI cI cZ sa rk hm ma se_41 _ (q_at se_41) ) hP hD hK hS hA hC hZ hnt hlocks L_1072 L_1074 L_64 L_90 L_1075 k_Mo_refuse ⟨(by show _ ≤ 8; omega), (by show _ ≤ 122; omega)⟩ rfl rfl hl.1 (Nat.le_of_ble_eq_true rfl) d_Mo_leave_114 rfl (fun q z => by unfold f_Mo_leave; rw [bndM_r w_1, bndM_r w_2, if_neg c_3, if_pos cb_15, if_pos c_16, bndM_r w_28, if_pos c_29, bndM_r we_41, if_pos c_43, bndM_l z]) (fun mo_47 H locs w_47 hP hD hS => ?_)
                refine lv_aload_n hx hb d_Mo_leave_117 rfl (lv_at hl 0 rfl) ?_
                refine va_get (D := (dC, dI)) (ci := 6) (v := .ref (ma 5)) (C := R_Mo) (T := T_Mo) (N := 31) hx hb hts u_Mo hown hK hP 0 rfl rfl 10 (by decide) (hts _ L_931) (fun _ h9 => h9) rfl d_Mo_leave_118 ?_
                refine lv_iload_n hx hb d_Mo_leave_121 rfl (lv_at hl 2 rfl) ?_
                refine lv_aload_n hx hb d_Mo_leave_122 rfl (lv_at hl 0 rfl) ?_
                refine va_get (D := (dC, dI)) (ci := 6) (v := .ref (ma 2)) (C := R_Mo) (T := T_Mo) (N := 31) hx hb hts u_Mo hown hK hP 0 rfl rfl 3 (by decide) (hts _ L_924) (fun _ h9 => h9) rfl d_Mo_leave_123 ?_
                refine lv_aload_n hx hb d_Mo_leave_126 rfl (lv_at hl 0 rfl) ?_
                refine va_get (D := (dC, dI)) (ci := 6) (v := .int (q_at mo_47)) (C := R_Mo) (T := T_Mo) (N := 31) hx hb hts u_Mo hown hK hP 0 rfl rfl 6 (by decide) (hts _ L_927) (fun _ h9 => h9) rfl d_Mo_leave_127 ?_
                by_cases cb_48 : inb (q_at mo_47) 1001
                case neg => exact absurd (by unfold f_Mo_leave; rw [bndM_r w_1, bndM_r w_2, if_neg c_3, if_pos cb_15, if_pos c_16, bndM_r w_28, if_pos c_29, bndM_r we_41, if_pos c_43, bndM_r w_47, if_neg cb_48]) hg
                refine va_iald (D := (dC, dI)) hx hb hK hP 3 0 rfl rfl cb_48 d_Mo_leave_130 ?_
                refine lv_iconst (v := 1) hx hb d_Mo_leave_131 (by decide) ?_
                refine lv_iadd hx hb d_Mo_leave_132 ?_
                by_cases cb_49 : inb r_1 2600
                case neg => exact absurd (by unfold f_Mo_leave; rw [bndM_r w_1, bndM_r w_2, if_neg c_3, if_pos cb_15, if_pos c_16, bndM_r w_28, if_pos c_29, bndM_r we_41, if_pos c_43, bndM_r w_47, if_pos cb_48, if_neg cb_49]) hg
                refine va_iast (D := (dC, dI)) hx hb hK hP hD hS 6 0 rfl rfl cb_49 d_Mo_leave_133 (fun H locs hP hD hS => ?_)
                have hP : va_P (dC, dI) cls (wM cI cZ hm ma (s_value mo_47 (upd (q_value mo_47) (r_1 : Int32).toNatClampNeg (((q_names mo_47) ((q_at mo_47) : Int32).toNatClampNeg) + 1)))) H := hP
                have hD : va_D A (wM cI cZ hm ma (s_value mo_47 (upd (q_value mo_47) (r_1 : Int32).toNatClampNeg (((q_names mo_47) ((q_at mo_47) : Int32).toNatClampNeg) + 1)))) := hD
                refine lv_aload_n hx hb d_Mo_leave_134 rfl (lv_at hl 0 rfl) ?_
                refine lv_dup hx hb d_Mo_leave_135 rfl ?_
                refine va_get (D := (dC, dI)) (ci := 6) (v := .int (q_at mo_47)) (C := R_Mo) (T := T_Mo) (N := 31) hx hb hts u_Mo hown hK hP 0 rfl rfl 6 (by decide) (hts _ L_927) (fun _ h9 => h9) rfl d_Mo_leave_136 ?_
                refine lv_iconst (v := 1) hx hb d_Mo_leave_139 (by decide) ?_
                refine lv_iadd hx hb d_Mo_leave_140 ?_
                refine va_put (D := (dC, dI)) (ci := 6) (v := .int ((q_at mo_47) + 1)) (ty := .int) (C := R_Mo) (T := T_Mo) (N := 31) hx hb hts u_Mo ty_Mo tk_Mo nm_Mo hown hK hP hD hS 0 rfl rfl 6 (by decide) (hts _ L_927) (fun _ h9 => h9) rfl (by decide +kernel) rfl rfl (Nat.le_of_ble_eq_true rfl) d_Mo_leave_141 (fun H locs hP hD hS => ?_)
                have hP : va_P (dC, dI) cls (wM cI cZ hm ma (s_at (s_value mo_47 (upd (q_value mo_47) (r_1 : Int32).toNatClampNeg (((q_names mo_47) ((q_at mo_47) : Int32).toNatClampNeg) + 1))) ((q_at mo_47) + 1))) H := hP
                have hD : va_D A (wM cI cZ hm ma (s_at (s_value mo_47 (upd (q_value mo_47) (r_1 : Int32).toNatClampNeg (((q_names mo_47) ((q_at mo_47) : Int32).toNatClampNeg) + 1))) ((q_at mo_47) + 1))) := hD
                refine lv_goto (tgt := 180) hx hb d_Mo_leave_144 (by decide) ?_
                refine lv_aload_n hx hb d_Mo_leave_180 rfl (lv_at hl 0 rfl) ?_
                refine mr_Vv (g := (f_Mo_semicolon (s_at (s_value mo_47 (upd (q_value mo_47) (r_1 : Int32).toNatClampNeg (((q_names mo_47) ((q_at mo_47) : Int32).toNatClampNeg) + 1))) ((q_at mo_47) + 1)))) (As := []) (rest := []) ⟨hx, hb, hml, hown, hts0⟩ (m_Mo_semicolon l hlt dC dI cI cZ sa rk hm ma (s_at (s_value mo_47 (upd (q_value mo_47) (r_1 : Int32).toNatClampNeg (((q_names mo_47) ((q_at mo_47) : Int32).toNatClampNeg) + 1))) ((q_at mo_47) + 1)) _  (fun z => hg (by unfold f_Mo_leave; rw [bndM_r w_1, bndM_r w_2, if_neg c_3, if_pos cb_15, if_pos c_16, bndM_r w_28, if_pos c_29, bndM_r we_41, if_pos c_43, bndM_r w_47, if_pos cb_48, if_pos cb_49, bndM_n z]))) hP hD hK hS hA hC hZ hnt hlocks L_1209 L_1211 L_79 L_90 L_1212 k_Mo_semicolon ⟨(by show _ ≤ 8; omega), (by show _ ≤ 122; omega)⟩ rfl rfl hl.1 (Nat.le_of_ble_eq_true rfl) d_Mo_leave_181 rfl (fun q z => by unfold f_Mo_leave; rw [bndM_r w_1, bndM_r w_2, if_neg c_3, if_pos cb_15, if_pos c_16, bndM_r w_28, if_pos c_29, bndM_r we_41, if_pos c_43, bndM_r w_47, if_pos cb_48, if_pos cb_49, bndM_l z]) (fun mo_50 H locs w_50 hP hD hS => ?_)
                refine lv_iload_n hx hb d_Mo_leave_184 rfl (lv_at hl 2 rfl) ?_
                exact mr_iret (v := r_1) (mo := mo_50) hx hb hr hlocks hK hP hD hS (by unfold f_Mo_leave; rw [bndM_r w_1, bndM_r w_2, if_neg c_3, if_pos cb_15, if_pos c_16, bndM_r w_28, if_pos c_29, bndM_r we_41, if_pos c_43, bndM_r w_47, if_pos cb_48, if_pos cb_49, bndM_r w_50]) d_Mo_leave_185
            · rw [if_neg c_42] at hL_41
              refine lv_iload_n hx hb d_Mo_leave_54 rfl (lv_at hl 3 rfl) ?_
              refine lv_if_ne (tgt := 93) hx hb d_Mo_leave_55 (by decide) (fun c_51 => ?_) (fun c_51 => ?_)
              · rw [if_neg c_51] at hL_41
                refine lv_iconst (v := 1) hx hb d_Mo_leave_93 (by decide) ?_
                refine lv_goto (tgt := 98) hx hb d_Mo_leave_94 (by decide) ?_
                refine lv_istore_n (lv' := [(3, .int 1), (0, .ref hm), (1, .int k), (2, .int r_1), (4, .int x4)]) hx hb d_Mo_leave_98 rfl hl (by decide) rfl (fun ls hl => ?_)
                refine lv_iinc (v := (x4 + 1)) (lv' := [(4, .int (x4 + 1)), (3, .int 1), (0, .ref hm), (1, .int k), (2, .int r_1)]) hx hb d_Mo_leave_99 hl (k := 4) rfl rfl (by decide) rfl (fun ls hl => ?_)
                refine lv_goto (tgt := 45) hx hb d_Mo_leave_102 (by decide) ?_
                exact ih_41 1 (x4 + 1) sx_41 _ _ ls hP hD hS (lv_sub hl [2, 3, 4, 1, 0] rfl) hL_41
              · rw [if_pos c_51] at hL_41
                refine lv_aload_n hx hb d_Mo_leave_58 rfl (lv_at hl 0 rfl) ?_
                refine va_get (D := (dC, dI)) (ci := 6) (v := .ref (ma 12)) (C := R_Mo) (T := T_Mo) (N := 31) hx hb hts u_Mo hown hK hP 0 rfl rfl 24 (by decide) (hts _ L_945) (fun _ h9 => h9) rfl d_Mo_leave_59 ?_
                refine lv_iload hx hb d_Mo_leave_62 (lv_at hl 4 rfl) ?_
                by_cases cb_52 : inb x4 1000
                case neg => exact absurd (hL_41.trans (if_neg cb_52)) hn_41
                rw [if_pos cb_52] at hL_41
                refine va_iald (D := (dC, dI)) hx hb hK hP 13 0 rfl rfl cb_52 d_Mo_leave_64 ?_
                refine lv_aload_n hx hb d_Mo_leave_65 rfl (lv_at hl 0 rfl) ?_
                refine va_get (D := (dC, dI)) (ci := 6) (v := .ref (ma 2)) (C := R_Mo) (T := T_Mo) (N := 31) hx hb hts u_Mo hown hK hP 0 rfl rfl 3 (by decide) (hts _ L_924) (fun _ h9 => h9) rfl d_Mo_leave_66 ?_
                refine lv_aload_n hx hb d_Mo_leave_69 rfl (lv_at hl 0 rfl) ?_
                refine va_get (D := (dC, dI)) (ci := 6) (v := .int (q_at sx_41)) (C := R_Mo) (T := T_Mo) (N := 31) hx hb hts u_Mo hown hK hP 0 rfl rfl 6 (by decide) (hts _ L_927) (fun _ h9 => h9) rfl d_Mo_leave_70 ?_
                by_cases cb_53 : inb (q_at sx_41) 1001
                case neg => exact absurd (hL_41.trans (if_neg cb_53)) hn_41
                rw [if_pos cb_53] at hL_41
                refine va_iald (D := (dC, dI)) hx hb hK hP 3 0 rfl rfl cb_53 d_Mo_leave_73 ?_
                refine lv_icmp_ne (tgt := 97) hx hb d_Mo_leave_74 (by decide) (fun c_54 => ?_) (fun c_54 => ?_)
                · rw [if_neg c_54] at hL_41
                  refine lv_iconst (v := 0) hx hb d_Mo_leave_97 (by decide) ?_
                  refine lv_istore_n (lv' := [(3, .int 0), (0, .ref hm), (1, .int k), (2, .int r_1), (4, .int x4)]) hx hb d_Mo_leave_98 rfl hl (by decide) rfl (fun ls hl => ?_)
                  refine lv_iinc (v := (x4 + 1)) (lv' := [(4, .int (x4 + 1)), (3, .int 0), (0, .ref hm), (1, .int k), (2, .int r_1)]) hx hb d_Mo_leave_99 hl (k := 4) rfl rfl (by decide) rfl (fun ls hl => ?_)
                  refine lv_goto (tgt := 45) hx hb d_Mo_leave_102 (by decide) ?_
                  exact ih_41 0 (x4 + 1) sx_41 _ _ ls hP hD hS (lv_sub hl [2, 3, 4, 1, 0] rfl) hL_41
                · rw [if_pos c_54] at hL_41
                  refine lv_iload_n hx hb d_Mo_leave_77 rfl (lv_at hl 1 rfl) ?_
                  refine lv_bipush (v := 12) hx hb d_Mo_leave_78 (by decide) ?_
                  refine lv_icmp_eq (tgt := 93) hx hb d_Mo_leave_80 (by decide) (fun c_55 => ?_) (fun c_55 => ?_)
                  · rw [if_pos c_55] at hL_41
                    refine lv_iconst (v := 1) hx hb d_Mo_leave_93 (by decide) ?_
                    refine lv_goto (tgt := 98) hx hb d_Mo_leave_94 (by decide) ?_
                    refine lv_istore_n (lv' := [(3, .int 1), (0, .ref hm), (1, .int k), (2, .int r_1), (4, .int x4)]) hx hb d_Mo_leave_98 rfl hl (by decide) rfl (fun ls hl => ?_)
                    refine lv_iinc (v := (x4 + 1)) (lv' := [(4, .int (x4 + 1)), (3, .int 1), (0, .ref hm), (1, .int k), (2, .int r_1)]) hx hb d_Mo_leave_99 hl (k := 4) rfl rfl (by decide) rfl (fun ls hl => ?_)
                    refine lv_goto (tgt := 45) hx hb d_Mo_leave_102 (by decide) ?_
                    exact ih_41 1 (x4 + 1) sx_41 _ _ ls hP hD hS (lv_sub hl [2, 3, 4, 1, 0] rfl) hL_41
                  · rw [if_neg c_55] at hL_41
                    refine lv_aload_n hx hb d_Mo_leave_83 rfl (lv_at hl 0 rfl) ?_
                    refine va_get (D := (dC, dI)) (ci := 6) (v := .ref (ma 13)) (C := R_Mo) (T := T_Mo) (N := 31) hx hb hts u_Mo hown hK hP 0 rfl rfl 25 (by decide) (hts _ L_946) (fun _ h9 => h9) rfl d_Mo_leave_84 ?_
                    refine lv_iload hx hb d_Mo_leave_87 (lv_at hl 4 rfl) ?_
                    refine va_zald (D := (dC, dI)) hx hb hK hP 14 1 rfl rfl cb_52 d_Mo_leave_89 ?_
                    refine lv_if_eq (tgt := 97) hx hb d_Mo_leave_90 (by decide) (fun c_56 => ?_) (fun c_56 => ?_)
                    · rw [if_pos c_56] at hL_41
                      refine lv_iconst (v := 0) hx hb d_Mo_leave_97 (by decide) ?_
                      refine lv_istore_n (lv' := [(3, .int 0), (0, .ref hm), (1, .int k), (2, .int r_1), (4, .int x4)]) hx hb d_Mo_leave_98 rfl hl (by decide) rfl (fun ls hl => ?_)
                      refine lv_iinc (v := (x4 + 1)) (lv' := [(4, .int (x4 + 1)), (3, .int 0), (0, .ref hm), (1, .int k), (2, .int r_1)]) hx hb d_Mo_leave_99 hl (k := 4) rfl rfl (by decide) rfl (fun ls hl => ?_)
                      refine lv_goto (tgt := 45) hx hb d_Mo_leave_102 (by decide) ?_
                      exact ih_41 0 (x4 + 1) sx_41 _ _ ls hP hD hS (lv_sub hl [2, 3, 4, 1, 0] rfl) hL_41
                    · rw [if_neg c_56] at hL_41
                      refine lv_iconst (v := 1) hx hb d_Mo_leave_93 (by decide) ?_
                      refine lv_goto (tgt := 98) hx hb d_Mo_leave_94 (by decide) ?_
                      refine lv_istore_n (lv' := [(3, .int 1), (0, .ref hm), (1, .int k), (2, .int r_1), (4, .int x4)]) hx hb d_Mo_leave_98 rfl hl (by decide) rfl (fun ls hl => ?_)
                      refine lv_iinc (v := (x4 + 1)) (lv' := [(4, .int (x4 + 1)), (3, .int 1), (0, .ref hm), (1, .int k), (2, .int r_1)]) hx hb d_Mo_leave_99 hl (k := 4) rfl rfl (by decide) rfl (fun ls hl => ?_)
                      refine lv_goto (tgt := 45) hx hb d_Mo_leave_102 (by decide) ?_
                      exact ih_41 1 (x4 + 1) sx_41 _ _ ls hP hD hS (lv_sub hl [2, 3, 4, 1, 0] rfl) hL_41
        exact lp_41 5000 0 (q_ownLabels mo_28) mo_28 _ _ ls hP hD hS (lv_sub hl [3, 4, 2, 1, 0] rfl) hx_41.symm
def f_Mo_childrenOf_L9 (n : Int32) : Nat → Int32 → Int32 → MO → Rm
  | 0, _, _, _ => none
  | fu_2 + 1, x2, x3, sx_2 => (if x3 < 0 then (some (.inr (x2, sx_2))) else (if inb x3 2600 then (f_Mo_childrenOf_L9 n fu_2 (x2 + 1) ((q_next sx_2) (x3 : Int32).toNatClampNeg) sx_2) else none))
def f_Mo_childrenOf (mo : MO) (n : Int32) : Rm := (if inb n 2600 then (bndM (f_Mo_childrenOf_L9 n 5000 0 ((q_first mo) (n : Int32).toNatClampNeg) mo) (fun rv_2 se_2 => (some (.inr (rv_2, se_2))))) else none)
set_option maxRecDepth 100000 in
set_option maxHeartbeats 4000000 in
theorem m_Mo_childrenOf (l : Launch) (hlt : l.stackTraces = false) (dC : Nat → ClassId) (dI : Nat → Nat → Nat) (cI cZ : ClassId) (sa rk hm : Nat) (ma : Nat → Nat)  (mo : MO) (sz : Nat) (n : Int32) (hg : (f_Mo_childrenOf mo n) ≠ none) : cXi l y_Mo_childrenOf c_Mo_childrenOf 4 .int (0) (0) (dC, dI) cI cZ sa rk hm ma mo sz [.ref hm, .int n] (f_Mo_childrenOf mo n) := by
  refine vx_ofW (cc := c_Mo_childrenOf) (maxL := 4) (ret := (some .int)) (by decide) rfl ?_
  intro p e s m args below meth c s₁ B hml hnt hv
  obtain ⟨rfl, hsz, hP, hK, hD0, hC, hZ⟩ := hv
  have hx := B.exec
  have hb := B.bytes
  have hr := B.returns
  have hts0 := atoms_spec (ws := wy y_Mo_childrenOf c_Mo_childrenOf 4 (some .int)) B.pre
  have hts := htsL hts0
  have hown : s.vm.findClass R_Mo = some m.cls := findClass_of_methodNamed B.named
  have hlocks := B.notSynchronized
  subst hsz
  have hD := hD0.self (sz := s.heap.size)
  generalize hAe : va_A (wM cI cZ hm ma mo) s.heap.size = A at hD hZ ⊢
  have hA : ∀ q : Nat, s.heap.size ≤ q → A q := fun q h => by rw [← hAe]; exact Or.inr h
  have hS : va_S A s.heap s.heap [] := va_S.rf
  have hl := lv_entry ([.ref hm, .int n]) (n := 4) (Nat.le_of_ble_eq_true rfl)
  rw [lg_entry_eq]
  generalize (lg_sl ([.ref hm, .int n]) ++ List.replicate (4 - (lg_sl ([.ref hm, .int n])).length) Slot.unset).toArray = ls at hl ⊢
  have hl : lv_has ls 4 [(0, .ref hm), (1, .int n)] := hl
  refine lv_iconst (v := 0) hx hb d_Mo_childrenOf_0 (by decide) ?_
  refine lv_istore_n (lv' := [(2, .int 0), (0, .ref hm), (1, .int n)]) hx hb d_Mo_childrenOf_1 rfl hl (by decide) rfl (fun ls hl => ?_)
  refine lv_aload_n hx hb d_Mo_childrenOf_2 rfl (lv_at hl 1 rfl) ?_
  refine va_get (D := (dC, dI)) (ci := 6) (v := .ref (ma 7)) (C := R_Mo) (T := T_Mo) (N := 31) hx hb hts u_Mo hown hK hP 0 rfl rfl 12 (by decide) (hts _ L_933) (fun _ h9 => h9) rfl d_Mo_childrenOf_3 ?_
  refine lv_iload_n hx hb d_Mo_childrenOf_6 rfl (lv_at hl 2 rfl) ?_
  by_cases cb_1 : inb n 2600
  case neg => exact absurd (by unfold f_Mo_childrenOf; rw [if_neg cb_1]) hg
  refine va_iald (D := (dC, dI)) hx hb hK hP 8 0 rfl rfl cb_1 d_Mo_childrenOf_7 ?_
  refine lv_istore_n (lv' := [(3, .int ((q_first mo) (n : Int32).toNatClampNeg)), (2, .int 0), (0, .ref hm), (1, .int n)]) hx hb d_Mo_childrenOf_8 rfl hl (by decide) rfl (fun ls hl => ?_)
  obtain ⟨x_2, hx_2⟩ : ∃ z, f_Mo_childrenOf_L9 n 5000 0 ((q_first mo) (n : Int32).toNatClampNeg) mo = z := ⟨_, rfl⟩
  have hn_2 : x_2 ≠ none := (fun z => hg (by unfold f_Mo_childrenOf; rw [if_pos cb_1, bndM_n (hx_2.trans z)]))
  have hX_2 : ∀ q, x_2 = some (.inl q) → (f_Mo_childrenOf mo n) = some (.inl q) := (fun q z => by unfold f_Mo_childrenOf; rw [if_pos cb_1, bndM_l (hx_2.trans z)])
  have lp_2 : ∀ (fu : Nat) (x2 x3 : Int32) (sx_2 : MO) (H : Heap) (locs : List Loc) (ls : Array Slot), va_P (dC, dI) cls (wM cI cZ hm ma sx_2) H → va_D A (wM cI cZ hm ma sx_2) → va_S A s.heap H locs → lv_has ls 4 [(0, .ref hm), (1, .int n), (2, .int x2), (3, .int x3)] → x_2 = f_Mo_childrenOf_L9 n fu x2 x3 sx_2 → W p l e (headSpec (wy y_Mo_childrenOf c_Mo_childrenOf 4 (some .int)) { frames := (0), cells := 1, slots := 6, locals := (0) }).room s m [.ref hm, .int n].toArray below meth c H locs 0 0 (vx_MQ below (va_Qi (fun r (u : MO) => (f_Mo_childrenOf mo n) = some (.inr (r, u))) (wB (dC, dI) cI cZ A (wM cI cZ hm ma)) A) (xM (dC, dI) cI cZ hm ma (f_Mo_childrenOf mo n) A) [.ref hm, .int n].toArray s (mcM (f_Mo_childrenOf mo n)) (msM (f_Mo_childrenOf mo n)) A) (F0 m 9 ls []) := by
    intro fu
    induction fu with
    | zero => intro x2 x3 sx_2 H locs ls hP hD hS hl hL_2; exact absurd (hL_2.trans rfl) hn_2
    | succ fu_2 ih_2 =>
      intro x2 x3 sx_2 H locs ls hP hD hS hl hL_2
      rw [f_Mo_childrenOf_L9] at hL_2
      refine lv_iload_n hx hb d_Mo_childrenOf_9 rfl (lv_at hl 3 rfl) ?_
      refine lv_if_lt (tgt := 26) hx hb d_Mo_childrenOf_10 (by decide) (fun c_3 => ?_) (fun c_3 => ?_)
      · rw [if_pos c_3] at hL_2
        obtain ⟨se_2, hse_2⟩ : ∃ z : MO, z = sx_2 := ⟨_, rfl⟩
        have hP : va_P (dC, dI) cls (wM cI cZ hm ma se_2) H := by rw [hse_2]; exact hP
        have hD : va_D A (wM cI cZ hm ma se_2) := by rw [hse_2]; exact hD
        obtain ⟨rv_2, hrv_2⟩ : ∃ z : Int32, z = x2 := ⟨_, rfl⟩
        have we_2 : f_Mo_childrenOf_L9 n 5000 0 ((q_first mo) (n : Int32).toNatClampNeg) mo = some (.inr (rv_2, se_2)) := by rw [hrv_2, hse_2]; exact hx_2.trans hL_2
        have hl : lv_has ls 4 [(0, .ref hm), (1, .int n), (2, .int rv_2)] := by rw [hrv_2]; exact lv_sub hl [0, 1, 2] rfl
        refine lv_iload_n hx hb d_Mo_childrenOf_26 rfl (lv_at hl 2 rfl) ?_
        exact mr_iret (v := rv_2) (mo := se_2) hx hb hr hlocks hK hP hD hS (by unfold f_Mo_childrenOf; rw [if_pos cb_1, bndM_r we_2]) d_Mo_childrenOf_27
      · rw [if_neg c_3] at hL_2
        refine lv_iinc (v := (x2 + 1)) (lv' := [(2, .int (x2 + 1)), (0, .ref hm), (1, .int n), (3, .int x3)]) hx hb d_Mo_childrenOf_13 hl (k := 2) rfl rfl (by decide) rfl (fun ls hl => ?_)
        refine lv_aload_n hx hb d_Mo_childrenOf_16 rfl (lv_at hl 1 rfl) ?_
        refine va_get (D := (dC, dI)) (ci := 6) (v := .ref (ma 9)) (C := R_Mo) (T := T_Mo) (N := 31) hx hb hts u_Mo hown hK hP 0 rfl rfl 14 (by decide) (hts _ L_935) (fun _ h9 => h9) rfl d_Mo_childrenOf_17 ?_
        refine lv_iload_n hx hb d_Mo_childrenOf_20 rfl (lv_at hl 3 rfl) ?_
        by_cases cb_4 : inb x3 2600
        case neg => exact absurd (hL_2.trans (if_neg cb_4)) hn_2
        rw [if_pos cb_4] at hL_2
        refine va_iald (D := (dC, dI)) hx hb hK hP 10 0 rfl rfl cb_4 d_Mo_childrenOf_21 ?_
        refine lv_istore_n (lv' := [(3, .int ((q_next sx_2) (x3 : Int32).toNatClampNeg)), (2, .int (x2 + 1)), (0, .ref hm), (1, .int n)]) hx hb d_Mo_childrenOf_22 rfl hl (by decide) rfl (fun ls hl => ?_)
        refine lv_goto (tgt := 9) hx hb d_Mo_childrenOf_23 (by decide) ?_
        exact ih_2 (x2 + 1) ((q_next sx_2) (x3 : Int32).toNatClampNeg) sx_2 _ _ ls hP hD hS (lv_sub hl [2, 3, 1, 0] rfl) hL_2
  exact lp_2 5000 0 ((q_first mo) (n : Int32).toNatClampNeg) mo _ _ ls hP hD hS (lv_sub hl [2, 3, 1, 0] rfl) hx_2.symm
def f_Mo_arguments_L25 (K : Nat → List Int32 → MO → Rm) (node : Int32) (depth : Int32) : Nat → Int32 → MO → Rm
  | 0, _, _ => none
  | fu_3 + 1, x3, sx_3 => (if x3 = 0 then (some (.inr (0, sx_3))) else (bndM (K 1 [(depth + 1), 1] sx_3) (fun r_6 mo_6 => (bndM (f_Mo_hang mo_6 node r_6) (fun _ mo_7 => (bndM (f_Mo_isSign mo_7 68) (fun r_8 mo_8 => (if r_8 = 0 then (f_Mo_arguments_L25 K node depth fu_3 r_8 mo_8) else (f_Mo_arguments_L25 K node depth fu_3 r_8 (s_at mo_8 ((q_at mo_8) + 1)))))))))))
def f_Mo_arguments (K : Nat → List Int32 → MO → Rm) (mo : MO) (node : Int32) (depth : Int32) : Rm := (bndM (f_Mo_isSign (s_at mo ((q_at mo) + 1)) 61) (fun r_1 mo_1 => (if r_1 = 0 then (bndM (f_Mo_arguments_L25 K node depth 5000 1 mo_1) (fun _ se_10 => (bndM (f_Mo_expect se_10 61) (fun _ mo_12 => (some (.inr (0, mo_12))))))) else (bndM (f_Mo_arguments_L25 K node depth 5000 0 mo_1) (fun _ se_3 => (bndM (f_Mo_expect se_3 61) (fun _ mo_5 => (some (.inr (0, mo_5))))))))))
set_option maxRecDepth 100000 in
set_option maxHeartbeats 4000000 in
theorem m_Mo_arguments (l : Launch) (hlt : l.stackTraces = false) (dC : Nat → ClassId) (dI : Nat → Nat → Nat) (cI cZ : ClassId) (sa rk hm : Nat) (ma : Nat → Nat) (fr0 lo0 : Nat) (K : Nat → List Int32 → MO → Rm) (hR0 : ∀ (mo : MO) (sz : Nat) (p0 p1 : Int32), K 0 [p0, p1] mo ≠ none → cXi l y_Mo_expression c_Mo_expression 5 .int fr0 lo0 (dC, dI) cI cZ sa rk hm ma mo sz [.ref hm, .int p0, .int p1] (K 0 [p0, p1] mo)) (hR1 : ∀ (mo : MO) (sz : Nat) (p0 p1 : Int32), K 1 [p0, p1] mo ≠ none → cXi l y_Mo_assignment c_Mo_assignment 5 .int fr0 lo0 (dC, dI) cI cZ sa rk hm ma mo sz [.ref hm, .int p0, .int p1] (K 1 [p0, p1] mo)) (hR2 : ∀ (mo : MO) (sz : Nat) (p0 p1 p2 : Int32), K 2 [p0, p1, p2] mo ≠ none → cXi l y_Mo_binary c_Mo_binary 7 .int fr0 lo0 (dC, dI) cI cZ sa rk hm ma mo sz [.ref hm, .int p0, .int p1, .int p2] (K 2 [p0, p1, p2] mo)) (hR3 : ∀ (mo : MO) (sz : Nat) (p0 : Int32), K 3 [p0] mo ≠ none → cXi l y_Mo_unary c_Mo_unary 5 .int fr0 lo0 (dC, dI) cI cZ sa rk hm ma mo sz [.ref hm, .int p0] (K 3 [p0] mo)) (hR4 : ∀ (mo : MO) (sz : Nat) (p0 p1 : Int32), K 4 [p0, p1] mo ≠ none → cXi l y_Mo_member c_Mo_member 6 .int fr0 lo0 (dC, dI) cI cZ sa rk hm ma mo sz [.ref hm, .int p0, .int p1] (K 4 [p0, p1] mo)) (hR5 : ∀ (mo : MO) (sz : Nat) (p0 p1 : Int32), K 5 [p0, p1] mo ≠ none → cXi l y_Mo_statement c_Mo_statement 3 .int fr0 lo0 (dC, dI) cI cZ sa rk hm ma mo sz [.ref hm, .int p0, .int p1] (K 5 [p0, p1] mo)) (hR6 : ∀ (mo : MO) (sz : Nat) (p0 p1 p2 : Int32), K 6 [p0, p1, p2] mo ≠ none → cXv l y_Mo_statements c_Mo_statements 8 fr0 lo0 (dC, dI) cI cZ sa rk hm ma mo sz [.ref hm, .int p0, .int p1, .int p2] (K 6 [p0, p1, p2] mo)) (hR7 : ∀ (mo : MO) (sz : Nat) (p0 : Int32), K 7 [p0] mo ≠ none → cXi l y_Mo_block c_Mo_block 4 .int fr0 lo0 (dC, dI) cI cZ sa rk hm ma mo sz [.ref hm, .int p0] (K 7 [p0] mo)) (mo : MO) (sz : Nat) (node : Int32) (depth : Int32) (hg : (f_Mo_arguments K mo node depth) ≠ none) : cXv l y_Mo_arguments c_Mo_arguments 4 (fr0 + 8) (lo0 + 123) (dC, dI) cI cZ sa rk hm ma mo sz [.ref hm, .int node, .int depth] (f_Mo_arguments K mo node depth) := by
  refine vx_ofW (cc := c_Mo_arguments) (maxL := 4) (ret := none) (by decide) rfl ?_
  intro p e s m args below meth c s₁ B hml hnt hv
  obtain ⟨rfl, hsz, hP, hK, hD0, hC, hZ⟩ := hv
  have hx := B.exec
  have hb := B.bytes
  have hr := B.returns
  have hts0 := atoms_spec (ws := wy y_Mo_arguments c_Mo_arguments 4 none) B.pre
  have hts := htsL hts0
  have hown : s.vm.findClass R_Mo = some m.cls := findClass_of_methodNamed B.named
  have hlocks := B.notSynchronized
  subst hsz
  have hD := hD0.self (sz := s.heap.size)
  generalize hAe : va_A (wM cI cZ hm ma mo) s.heap.size = A at hD hZ ⊢
  have hA : ∀ q : Nat, s.heap.size ≤ q → A q := fun q h => by rw [← hAe]; exact Or.inr h
  have hS : va_S A s.heap s.heap [] := va_S.rf
  have hl := lv_entry ([.ref hm, .int node, .int depth]) (n := 4) (Nat.le_of_ble_eq_true rfl)
  rw [lg_entry_eq]
  generalize (lg_sl ([.ref hm, .int node, .int depth]) ++ List.replicate (4 - (lg_sl ([.ref hm, .int node, .int depth])).length) Slot.unset).toArray = ls at hl ⊢
  have hl : lv_has ls 4 [(0, .ref hm), (1, .int node), (2, .int depth)] := hl
  refine lv_aload_n hx hb d_Mo_arguments_0 rfl (lv_at hl 0 rfl) ?_
  refine lv_dup hx hb d_Mo_arguments_1 rfl ?_
  refine va_get (D := (dC, dI)) (ci := 6) (v := .int (q_at mo)) (C := R_Mo) (T := T_Mo) (N := 31) hx hb hts u_Mo hown hK hP 0 rfl rfl 6 (by decide) (hts _ L_927) (fun _ h9 => h9) rfl d_Mo_arguments_2 ?_
  refine lv_iconst (v := 1) hx hb d_Mo_arguments_5 (by decide) ?_
  refine lv_iadd hx hb d_Mo_arguments_6 ?_
  refine va_put (D := (dC, dI)) (ci := 6) (v := .int ((q_at mo) + 1)) (ty := .int) (C := R_Mo) (T := T_Mo) (N := 31) hx hb hts u_Mo ty_Mo tk_Mo nm_Mo hown hK hP hD hS 0 rfl rfl 6 (by decide) (hts _ L_927) (fun _ h9 => h9) rfl (by decide +kernel) rfl rfl (Nat.le_of_ble_eq_true rfl) d_Mo_arguments_7 (fun H locs hP hD hS => ?_)
  have hP : va_P (dC, dI) cls (wM cI cZ hm ma (s_at mo ((q_at mo) + 1))) H := hP
  have hD : va_D A (wM cI cZ hm ma (s_at mo ((q_at mo) + 1))) := hD
  refine lv_aload_n hx hb d_Mo_arguments_10 rfl (lv_at hl 0 rfl) ?_
  refine lv_bipush (v := 61) hx hb d_Mo_arguments_11 (by decide) ?_
  refine mr_Vi (g := (f_Mo_isSign (s_at mo ((q_at mo) + 1)) 61)) (As := [.int 61]) (rest := []) ⟨hx, hb, hml, hown, hts0⟩ (m_Mo_isSign l hlt dC dI cI cZ sa rk hm ma (s_at mo ((q_at mo) + 1)) _ 61 (fun z => hg (by unfold f_Mo_arguments; rw [bndM_n z]))) hP hD hK hS hA hC hZ hnt hlocks L_1053 L_1055 L_60 L_90 L_1056 k_Mo_isSign ⟨(by show _ ≤ fr0 + 8; omega), (by show _ ≤ lo0 + 123; omega)⟩ rfl rfl hl.1 (Nat.le_of_ble_eq_true rfl) d_Mo_arguments_13 rfl (fun q z => by unfold f_Mo_arguments; rw [bndM_l z]) (fun r_1 mo_1 H locs w_1 hP hD hS => ?_)
  refine lv_if_ne (tgt := 23) hx hb d_Mo_arguments_16 (by decide) (fun c_2 => ?_) (fun c_2 => ?_)
  · refine lv_iconst (v := 0) hx hb d_Mo_arguments_23 (by decide) ?_
    refine lv_istore_n (lv' := [(3, .int 0), (0, .ref hm), (1, .int node), (2, .int depth)]) hx hb d_Mo_arguments_24 rfl hl (by decide) rfl (fun ls hl => ?_)
    obtain ⟨x_3, hx_3⟩ : ∃ z, f_Mo_arguments_L25 K node depth 5000 0 mo_1 = z := ⟨_, rfl⟩
    have hn_3 : x_3 ≠ none := (fun z => hg (by unfold f_Mo_arguments; rw [bndM_r w_1, if_neg c_2, bndM_n (hx_3.trans z)]))
    have hX_3 : ∀ q, x_3 = some (.inl q) → (f_Mo_arguments K mo node depth) = some (.inl q) := (fun q z => by unfold f_Mo_arguments; rw [bndM_r w_1, if_neg c_2, bndM_l (hx_3.trans z)])
    have lp_3 : ∀ (fu : Nat) (x3 : Int32) (sx_3 : MO) (H : Heap) (locs : List Loc) (ls : Array Slot), va_P (dC, dI) cls (wM cI cZ hm ma sx_3) H → va_D A (wM cI cZ hm ma sx_3) → va_S A s.heap H locs → lv_has ls 4 [(0, .ref hm), (1, .int node), (2, .int depth), (3, .int x3)] → x_3 = f_Mo_arguments_L25 K node depth fu x3 sx_3 → W p l e (headSpec (wy y_Mo_arguments c_Mo_arguments 4 none) { frames := (fr0 + 8), cells := 1, slots := 6, locals := (lo0 + 123) }).room s m [.ref hm, .int node, .int depth].toArray below meth c H locs 0 0 (vx_MQ below (va_Qv (fun u : MO => (f_Mo_arguments K mo node depth) = some (.inr (0, u))) (wB (dC, dI) cI cZ A (wM cI cZ hm ma)) A) (xM (dC, dI) cI cZ hm ma (f_Mo_arguments K mo node depth) A) [.ref hm, .int node, .int depth].toArray s (mcM (f_Mo_arguments K mo node depth)) (msM (f_Mo_arguments K mo node depth)) A) (F0 m 25 ls []) := by
      intro fu
      induction fu with
      | zero => intro x3 sx_3 H locs ls hP hD hS hl hL_3; exact absurd (hL_3.trans rfl) hn_3
      | succ fu_3 ih_3 =>
        intro x3 sx_3 H locs ls hP hD hS hl hL_3
        rw [f_Mo_arguments_L25] at hL_3
        refine lv_iload_n hx hb d_Mo_arguments_25 rfl (lv_at hl 3 rfl) ?_
        refine lv_if_eq (tgt := 66) hx hb d_Mo_arguments_26 (by decide) (fun c_4 => ?_) (fun c_4 => ?_)
        · rw [if_pos c_4] at hL_3
          obtain ⟨se_3, hse_3⟩ : ∃ z : MO, z = sx_3 := ⟨_, rfl⟩
          have hP : va_P (dC, dI) cls (wM cI cZ hm ma se_3) H := by rw [hse_3]; exact hP
          have hD : va_D A (wM cI cZ hm ma se_3) := by rw [hse_3]; exact hD
          have we_3 : f_Mo_arguments_L25 K node depth 5000 0 mo_1 = some (.inr (0, se_3)) := by rw [hse_3]; exact hx_3.trans hL_3
          have hl := lv_sub hl (l' := [(0, .ref hm), (1, .int node), (2, .int depth)]) [0, 1, 2] rfl
          refine lv_aload_n hx hb d_Mo_arguments_66 rfl (lv_at hl 0 rfl) ?_
          refine lv_bipush (v := 61) hx hb d_Mo_arguments_67 (by decide) ?_
          refine mr_Vv (g := (f_Mo_expect se_3 61)) (As := [.int 61]) (rest := []) ⟨hx, hb, hml, hown, hts0⟩ (m_Mo_expect l hlt dC dI cI cZ sa rk hm ma se_3 _ 61 (fun z => hg (by unfold f_Mo_arguments; rw [bndM_r w_1, if_neg c_2, bndM_r we_3, bndM_n z]))) hP hD hK hS hA hC hZ hnt hlocks L_1111 L_1113 L_68 L_90 L_1114 k_Mo_expect ⟨(by show _ ≤ fr0 + 8; omega), (by show _ ≤ lo0 + 123; omega)⟩ rfl rfl hl.1 (Nat.le_of_ble_eq_true rfl) d_Mo_arguments_69 rfl (fun q z => by unfold f_Mo_arguments; rw [bndM_r w_1, if_neg c_2, bndM_r we_3, bndM_l z]) (fun mo_5 H locs w_5 hP hD hS => ?_)
          exact mr_vret (mo := mo_5) hx hb hr hlocks hK hP hD hS (by unfold f_Mo_arguments; rw [bndM_r w_1, if_neg c_2, bndM_r we_3, bndM_r w_5]) d_Mo_arguments_72
        · rw [if_neg c_4] at hL_3
          refine lv_aload_n hx hb d_Mo_arguments_29 rfl (lv_at hl 0 rfl) ?_
          refine lv_iload_n hx hb d_Mo_arguments_30 rfl (lv_at hl 1 rfl) ?_
          refine lv_aload_n hx hb d_Mo_arguments_31 rfl (lv_at hl 0 rfl) ?_
          refine lv_iload_n hx hb d_Mo_arguments_32 rfl (lv_at hl 2 rfl) ?_
          refine lv_iconst (v := 1) hx hb d_Mo_arguments_33 (by decide) ?_
          refine lv_iadd hx hb d_Mo_arguments_34 ?_
          refine lv_iconst (v := 1) hx hb d_Mo_arguments_35 (by decide) ?_
          refine mr_Si (g := (K 1 [(depth + 1), 1] sx_3)) (As := [.ref hm, .int (depth + 1), .int 1]) (rest := [.int node, .ref hm]) ⟨hx, hb, hml, hown, hts0⟩ (hR1 sx_3 _ (depth + 1) 1 (fun z => hn_3 (hL_3.trans (bndM_n z)))) hP hD hK hS hA hC hZ hnt hlocks L_1138 L_1139 L_90 L_1140 k_Mo_assignment ⟨(by show _ ≤ fr0 + 8; omega), (by show _ ≤ lo0 + 123; omega)⟩ rfl rfl hl.1 (Nat.le_of_ble_eq_true rfl) d_Mo_arguments_36 rfl (fun q z => hX_3 q (hL_3.trans (bndM_l z))) (fun r_6 mo_6 H locs w_6 hP hD hS => ?_)
          rw [bndM_r w_6] at hL_3
          refine mr_Vv (g := (f_Mo_hang mo_6 node r_6)) (As := [.int node, .int r_6]) (rest := []) ⟨hx, hb, hml, hown, hts0⟩ (m_Mo_hang l hlt dC dI cI cZ sa rk hm ma mo_6 _ node r_6 (fun z => hn_3 (hL_3.trans (bndM_n z)))) hP hD hK hS hA hC hZ hnt hlocks L_1115 L_1117 L_69 L_90 L_1118 k_Mo_hang ⟨(by show _ ≤ fr0 + 8; omega), (by show _ ≤ lo0 + 123; omega)⟩ rfl rfl hl.1 (Nat.le_of_ble_eq_true rfl) d_Mo_arguments_39 rfl (fun q z => hX_3 q (hL_3.trans (bndM_l z))) (fun mo_7 H locs w_7 hP hD hS => ?_)
          rw [bndM_r w_7] at hL_3
          refine lv_aload_n hx hb d_Mo_arguments_42 rfl (lv_at hl 0 rfl) ?_
          refine lv_bipush (v := 68) hx hb d_Mo_arguments_43 (by decide) ?_
          refine mr_Vi (g := (f_Mo_isSign mo_7 68)) (As := [.int 68]) (rest := []) ⟨hx, hb, hml, hown, hts0⟩ (m_Mo_isSign l hlt dC dI cI cZ sa rk hm ma mo_7 _ 68 (fun z => hn_3 (hL_3.trans (bndM_n z)))) hP hD hK hS hA hC hZ hnt hlocks L_1053 L_1055 L_60 L_90 L_1056 k_Mo_isSign ⟨(by show _ ≤ fr0 + 8; omega), (by show _ ≤ lo0 + 123; omega)⟩ rfl rfl hl.1 (Nat.le_of_ble_eq_true rfl) d_Mo_arguments_45 rfl (fun q z => hX_3 q (hL_3.trans (bndM_l z))) (fun r_8 mo_8 H locs w_8 hP hD hS => ?_)
          rw [bndM_r w_8] at hL_3
          refine lv_istore_n (lv' := [(3, .int r_8), (0, .ref hm), (1, .int node), (2, .int depth)]) hx hb d_Mo_arguments_48 rfl hl (by decide) rfl (fun ls hl => ?_)
          refine lv_iload_n hx hb d_Mo_arguments_49 rfl (lv_at hl 0 rfl) ?_
          refine lv_if_eq (tgt := 25) hx hb d_Mo_arguments_50 (by decide) (fun c_9 => ?_) (fun c_9 => ?_)
          · rw [if_pos c_9] at hL_3
            exact ih_3 r_8 mo_8 _ _ ls hP hD hS (lv_sub hl [1, 2, 3, 0] rfl) hL_3
          · rw [if_neg c_9] at hL_3
            refine lv_aload_n hx hb d_Mo_arguments_53 rfl (lv_at hl 1 rfl) ?_
            refine lv_dup hx hb d_Mo_arguments_54 rfl ?_
            refine va_get (D := (dC, dI)) (ci := 6) (v := .int (q_at mo_8)) (C := R_Mo) (T := T_Mo) (N := 31) hx hb hts u_Mo hown hK hP 0 rfl rfl 6 (by decide) (hts _ L_927) (fun _ h9 => h9) rfl d_Mo_arguments_55 ?_
            refine lv_iconst (v := 1) hx hb d_Mo_arguments_58 (by decide) ?_
            refine lv_iadd hx hb d_Mo_arguments_59 ?_
            refine va_put (D := (dC, dI)) (ci := 6) (v := .int ((q_at mo_8) + 1)) (ty := .int) (C := R_Mo) (T := T_Mo) (N := 31) hx hb hts u_Mo ty_Mo tk_Mo nm_Mo hown hK hP hD hS 0 rfl rfl 6 (by decide) (hts _ L_927) (fun _ h9 => h9) rfl (by decide +kernel) rfl rfl (Nat.le_of_ble_eq_true rfl) d_Mo_arguments_60 (fun H locs hP hD hS => ?_)
            have hP : va_P (dC, dI) cls (wM cI cZ hm ma (s_at mo_8 ((q_at mo_8) + 1))) H := hP
            have hD : va_D A (wM cI cZ hm ma (s_at mo_8 ((q_at mo_8) + 1))) := hD
            refine lv_goto (tgt := 25) hx hb d_Mo_arguments_63 (by decide) ?_
            exact ih_3 r_8 (s_at mo_8 ((q_at mo_8) + 1)) _ _ ls hP hD hS (lv_sub hl [1, 2, 3, 0] rfl) hL_3
    exact lp_3 5000 0 mo_1 _ _ ls hP hD hS (lv_sub hl [1, 2, 3, 0] rfl) hx_3.symm
  · refine lv_iconst (v := 1) hx hb d_Mo_arguments_19 (by decide) ?_
    refine lv_goto (tgt := 24) hx hb d_Mo_arguments_20 (by decide) ?_
    refine lv_istore_n (lv' := [(3, .int 1), (0, .ref hm), (1, .int node), (2, .int depth)]) hx hb d_Mo_arguments_24 rfl hl (by decide) rfl (fun ls hl => ?_)
    obtain ⟨x_10, hx_10⟩ : ∃ z, f_Mo_arguments_L25 K node depth 5000 1 mo_1 = z := ⟨_, rfl⟩
    have hn_10 : x_10 ≠ none := (fun z => hg (by unfold f_Mo_arguments; rw [bndM_r w_1, if_pos c_2, bndM_n (hx_10.trans z)]))
    have hX_10 : ∀ q, x_10 = some (.inl q) → (f_Mo_arguments K mo node depth) = some (.inl q) := (fun q z => by unfold f_Mo_arguments; rw [bndM_r w_1, if_pos c_2, bndM_l (hx_10.trans z)])
    have lp_10 : ∀ (fu : Nat) (x3 : Int32) (sx_10 : MO) (H : Heap) (locs : List Loc) (ls : Array Slot), va_P (dC, dI) cls (wM cI cZ hm ma sx_10) H → va_D A (wM cI cZ hm ma sx_10) → va_S A s.heap H locs → lv_has ls 4 [(0, .ref hm), (1, .int node), (2, .int depth), (3, .int x3)] → x_10 = f_Mo_arguments_L25 K node depth fu x3 sx_10 → W p l e (headSpec (wy y_Mo_arguments c_Mo_arguments 4 none) { frames := (fr0 + 8), cells := 1, slots := 6, locals := (lo0 + 123) }).room s m [.ref hm, .int node, .int depth].toArray below meth c H locs 0 0 (vx_MQ below (va_Qv (fun u : MO => (f_Mo_arguments K mo node depth) = some (.inr (0, u))) (wB (dC, dI) cI cZ A (wM cI cZ hm ma)) A) (xM (dC, dI) cI cZ hm ma (f_Mo_arguments K mo node depth) A) [.ref hm, .int node, .int depth].toArray s (mcM (f_Mo_arguments K mo node depth)) (msM (f_Mo_arguments K mo node depth)) A) (F0 m 25 ls []) := by
      intro fu
      induction fu with
      | zero => intro x3 sx_10 H locs ls hP hD hS hl hL_10; exact absurd (hL_10.trans rfl) hn_10
      | succ fu_10 ih_10 =>
        intro x3 sx_10 H locs ls hP hD hS hl hL_10
        rw [f_Mo_arguments_L25] at hL_10
        refine lv_iload_n hx hb d_Mo_arguments_25 rfl (lv_at hl 3 rfl) ?_
        refine lv_if_eq (tgt := 66) hx hb d_Mo_arguments_26 (by decide) (fun c_11 => ?_) (fun c_11 => ?_)
        · rw [if_pos c_11] at hL_10
          obtain ⟨se_10, hse_10⟩ : ∃ z : MO, z = sx_10 := ⟨_, rfl⟩
          have hP : va_P (dC, dI) cls (wM cI cZ hm ma se_10) H := by rw [hse_10]; exact hP
          have hD : va_D A (wM cI cZ hm ma se_10) := by rw [hse_10]; exact hD
          have we_10 : f_Mo_arguments_L25 K node depth 5000 1 mo_1 = some (.inr (0, se_10)) := by rw [hse_10]; exact hx_10.trans hL_10
          have hl := lv_sub hl (l' := [(0, .ref hm), (1, .int node), (2, .int depth)]) [0, 1, 2] rfl
          refine lv_aload_n hx hb d_Mo_arguments_66 rfl (lv_at hl 0 rfl) ?_
          refine lv_bipush (v := 61) hx hb d_Mo_arguments_67 (by decide) ?_
          refine mr_Vv (g := (f_Mo_expect se_10 61)) (As := [.int 61]) (rest := []) ⟨hx, hb, hml, hown, hts0⟩ (m_Mo_expect l hlt dC dI cI cZ sa rk hm ma se_10 _ 61 (fun z => hg (by unfold f_Mo_arguments; rw [bndM_r w_1, if_pos c_2, bndM_r we_10, bndM_n z]))) hP hD hK hS hA hC hZ hnt hlocks L_1111 L_1113 L_68 L_90 L_1114 k_Mo_expect ⟨(by show _ ≤ fr0 + 8; omega), (by show _ ≤ lo0 + 123; omega)⟩ rfl rfl hl.1 (Nat.le_of_ble_eq_true rfl) d_Mo_arguments_69 rfl (fun q z => by unfold f_Mo_arguments; rw [bndM_r w_1, if_pos c_2, bndM_r we_10, bndM_l z]) (fun mo_12 H locs w_12 hP hD hS => ?_)
          exact mr_vret (mo := mo_12) hx hb hr hlocks hK hP hD hS (by unfold f_Mo_arguments; rw [bndM_r w_1, if_pos c_2, bndM_r we_10, bndM_r w_12]) d_Mo_arguments_72
        · rw [if_neg c_11] at hL_10
          refine lv_aload_n hx hb d_Mo_arguments_29 rfl (lv_at hl 0 rfl) ?_
          refine lv_iload_n hx hb d_Mo_arguments_30 rfl (lv_at hl 1 rfl) ?_
          refine lv_aload_n hx hb d_Mo_arguments_31 rfl (lv_at hl 0 rfl) ?_
          refine lv_iload_n hx hb d_Mo_arguments_32 rfl (lv_at hl 2 rfl) ?_
          refine lv_iconst (v := 1) hx hb d_Mo_arguments_33 (by decide) ?_
          refine lv_iadd hx hb d_Mo_arguments_34 ?_
          refine lv_iconst (v := 1) hx hb d_Mo_arguments_35 (by decide) ?_
          refine mr_Si (g := (K 1 [(depth + 1), 1] sx_10)) (As := [.ref hm, .int (depth + 1), .int 1]) (rest := [.int node, .ref hm]) ⟨hx, hb, hml, hown, hts0⟩ (hR1 sx_10 _ (depth + 1) 1 (fun z => hn_10 (hL_10.trans (bndM_n z)))) hP hD hK hS hA hC hZ hnt hlocks L_1138 L_1139 L_90 L_1140 k_Mo_assignment ⟨(by show _ ≤ fr0 + 8; omega), (by show _ ≤ lo0 + 123; omega)⟩ rfl rfl hl.1 (Nat.le_of_ble_eq_true rfl) d_Mo_arguments_36 rfl (fun q z => hX_10 q (hL_10.trans (bndM_l z))) (fun r_13 mo_13 H locs w_13 hP hD hS => ?_)
          rw [bndM_r w_13] at hL_10
          refine mr_Vv (g := (f_Mo_hang mo_13 node r_13)) (As := [.int node, .int r_13]) (rest := []) ⟨hx, hb, hml, hown, hts0⟩ (m_Mo_hang l hlt dC dI cI cZ sa rk hm ma mo_13 _ node r_13 (fun z => hn_10 (hL_10.trans (bndM_n z)))) hP hD hK hS hA hC hZ hnt hlocks L_1115 L_1117 L_69 L_90 L_1118 k_Mo_hang ⟨(by show _ ≤ fr0 + 8; omega), (by show _ ≤ lo0 + 123; omega)⟩ rfl rfl hl.1 (Nat.le_of_ble_eq_true rfl) d_Mo_arguments_39 rfl (fun q z => hX_10 q (hL_10.trans (bndM_l z))) (fun mo_14 H locs w_14 hP hD hS => ?_)
          rw [bndM_r w_14] at hL_10
          refine lv_aload_n hx hb d_Mo_arguments_42 rfl (lv_at hl 0 rfl) ?_
          refine lv_bipush (v := 68) hx hb d_Mo_arguments_43 (by decide) ?_
          refine mr_Vi (g := (f_Mo_isSign mo_14 68)) (As := [.int 68]) (rest := []) ⟨hx, hb, hml, hown, hts0⟩ (m_Mo_isSign l hlt dC dI cI cZ sa rk hm ma mo_14 _ 68 (fun z => hn_10 (hL_10.trans (bndM_n z)))) hP hD hK hS hA hC hZ hnt hlocks L_1053 L_1055 L_60 L_90 L_1056 k_Mo_isSign ⟨(by show _ ≤ fr0 + 8; omega), (by show _ ≤ lo0 + 123; omega)⟩ rfl rfl hl.1 (Nat.le_of_ble_eq_true rfl) d_Mo_arguments_45 rfl (fun q z => hX_10 q (hL_10.trans (bndM_l z))) (fun r_15 mo_15 H locs w_15 hP hD hS => ?_)
          rw [bndM_r w_15] at hL_10
          refine lv_istore_n (lv' := [(3, .int r_15), (0, .ref hm), (1, .int node), (2, .int depth)]) hx hb d_Mo_arguments_48 rfl hl (by decide) rfl (fun ls hl => ?_)
          refine lv_iload_n hx hb d_Mo_arguments_49 rfl (lv_at hl 0 rfl) ?_
          refine lv_if_eq (tgt := 25) hx hb d_Mo_arguments_50 (by decide) (fun c_16 => ?_) (fun c_16 => ?_)
          · rw [if_pos c_16] at hL_10
            exact ih_10 r_15 mo_15 _ _ ls hP hD hS (lv_sub hl [1, 2, 3, 0] rfl) hL_10
          · rw [if_neg c_16] at hL_10
            refine lv_aload_n hx hb d_Mo_arguments_53 rfl (lv_at hl 1 rfl) ?_
            refine lv_dup hx hb d_Mo_arguments_54 rfl ?_
            refine va_get (D := (dC, dI)) (ci := 6) (v := .int (q_at mo_15)) (C := R_Mo) (T := T_Mo) (N := 31) hx hb hts u_Mo hown hK hP 0 rfl rfl 6 (by decide) (hts _ L_927) (fun _ h9 => h9) rfl d_Mo_arguments_55 ?_
            refine lv_iconst (v := 1) hx hb d_Mo_arguments_58 (by decide) ?_
            refine lv_iadd hx hb d_Mo_arguments_59 ?_
            refine va_put (D := (dC, dI)) (ci := 6) (v := .int ((q_at mo_15) + 1)) (ty := .int) (C := R_Mo) (T := T_Mo) (N := 31) hx hb hts u_Mo ty_Mo tk_Mo nm_Mo hown hK hP hD hS 0 rfl rfl 6 (by decide) (hts _ L_927) (fun _ h9 => h9) rfl (by decide +kernel) rfl rfl (Nat.le_of_ble_eq_true rfl) d_Mo_arguments_60 (fun H locs hP hD hS => ?_)
            have hP : va_P (dC, dI) cls (wM cI cZ hm ma (s_at mo_15 ((q_at mo_15) + 1))) H := hP
            have hD : va_D A (wM cI cZ hm ma (s_at mo_15 ((q_at mo_15) + 1))) := hD
            refine lv_goto (tgt := 25) hx hb d_Mo_arguments_63 (by decide) ?_
            exact ih_10 r_15 (s_at mo_15 ((q_at mo_15) + 1)) _ _ ls hP hD hS (lv_sub hl [1, 2, 3, 0] rfl) hL_10
    exact lp_10 5000 1 mo_1 _ _ ls hP hD hS (lv_sub hl [1, 2, 3, 0] rfl) hx_10.symm
def f_Mo_newOne (K : Nat → List Int32 → MO → Rm) (mo : MO) (depth : Int32) : Rm := (bndM (f_Mo_deep mo depth) (fun _ mo_1 => (bndM (f_Mo_make mo_1 39 0 (q_at mo_1)) (fun r_2 mo_2 => (bndM (f_Mo_deep (s_at mo_2 ((q_at mo_2) + 1)) (depth + 1)) (fun _ mo_3 => (bndM (K 4 [(depth + 1), 0] mo_3) (fun r_4 mo_4 => (bndM (f_Mo_hang mo_4 r_2 r_4) (fun _ mo_5 => (bndM (f_Mo_isSign mo_5 60) (fun r_6 mo_6 => (if r_6 = 0 then (some (.inr (r_2, mo_6))) else (bndM (f_Mo_arguments K mo_6 r_2 depth) (fun _ mo_8 => (some (.inr (r_2, mo_8))))))))))))))))))
set_option maxRecDepth 100000 in
set_option maxHeartbeats 4000000 in
theorem m_Mo_newOne (l : Launch) (hlt : l.stackTraces = false) (dC : Nat → ClassId) (dI : Nat → Nat → Nat) (cI cZ : ClassId) (sa rk hm : Nat) (ma : Nat → Nat) (fr0 lo0 : Nat) (K : Nat → List Int32 → MO → Rm) (hR0 : ∀ (mo : MO) (sz : Nat) (p0 p1 : Int32), K 0 [p0, p1] mo ≠ none → cXi l y_Mo_expression c_Mo_expression 5 .int fr0 lo0 (dC, dI) cI cZ sa rk hm ma mo sz [.ref hm, .int p0, .int p1] (K 0 [p0, p1] mo)) (hR1 : ∀ (mo : MO) (sz : Nat) (p0 p1 : Int32), K 1 [p0, p1] mo ≠ none → cXi l y_Mo_assignment c_Mo_assignment 5 .int fr0 lo0 (dC, dI) cI cZ sa rk hm ma mo sz [.ref hm, .int p0, .int p1] (K 1 [p0, p1] mo)) (hR2 : ∀ (mo : MO) (sz : Nat) (p0 p1 p2 : Int32), K 2 [p0, p1, p2] mo ≠ none → cXi l y_Mo_binary c_Mo_binary 7 .int fr0 lo0 (dC, dI) cI cZ sa rk hm ma mo sz [.ref hm, .int p0, .int p1, .int p2] (K 2 [p0, p1, p2] mo)) (hR3 : ∀ (mo : MO) (sz : Nat) (p0 : Int32), K 3 [p0] mo ≠ none → cXi l y_Mo_unary c_Mo_unary 5 .int fr0 lo0 (dC, dI) cI cZ sa rk hm ma mo sz [.ref hm, .int p0] (K 3 [p0] mo)) (hR4 : ∀ (mo : MO) (sz : Nat) (p0 p1 : Int32), K 4 [p0, p1] mo ≠ none → cXi l y_Mo_member c_Mo_member 6 .int fr0 lo0 (dC, dI) cI cZ sa rk hm ma mo sz [.ref hm, .int p0, .int p1] (K 4 [p0, p1] mo)) (hR5 : ∀ (mo : MO) (sz : Nat) (p0 p1 : Int32), K 5 [p0, p1] mo ≠ none → cXi l y_Mo_statement c_Mo_statement 3 .int fr0 lo0 (dC, dI) cI cZ sa rk hm ma mo sz [.ref hm, .int p0, .int p1] (K 5 [p0, p1] mo)) (hR6 : ∀ (mo : MO) (sz : Nat) (p0 p1 p2 : Int32), K 6 [p0, p1, p2] mo ≠ none → cXv l y_Mo_statements c_Mo_statements 8 fr0 lo0 (dC, dI) cI cZ sa rk hm ma mo sz [.ref hm, .int p0, .int p1, .int p2] (K 6 [p0, p1, p2] mo)) (hR7 : ∀ (mo : MO) (sz : Nat) (p0 : Int32), K 7 [p0] mo ≠ none → cXi l y_Mo_block c_Mo_block 4 .int fr0 lo0 (dC, dI) cI cZ sa rk hm ma mo sz [.ref hm, .int p0] (K 7 [p0] mo)) (mo : MO) (sz : Nat) (depth : Int32) (hg : (f_Mo_newOne K mo depth) ≠ none) : cXi l y_Mo_newOne c_Mo_newOne 3 .int (fr0 + 9) (lo0 + 146) (dC, dI) cI cZ sa rk hm ma mo sz [.ref hm, .int depth] (f_Mo_newOne K mo depth) := by
  refine vx_ofW (cc := c_Mo_newOne) (maxL := 3) (ret := (some .int)) (by decide) rfl ?_
  intro p e s m args below meth c s₁ B hml hnt hv
  obtain ⟨rfl, hsz, hP, hK, hD0, hC, hZ⟩ := hv
  have hx := B.exec
  have hb := B.bytes
  have hr := B.returns
  have hts0 := atoms_spec (ws := wy y_Mo_newOne c_Mo_newOne 3 (some .int)) B.pre
  have hts := htsL hts0
  have hown : s.vm.findClass R_Mo = some m.cls := findClass_of_methodNamed B.named
  have hlocks := B.notSynchronized
  subst hsz
  have hD := hD0.self (sz := s.heap.size)
  generalize hAe : va_A (wM cI cZ hm ma mo) s.heap.size = A at hD hZ ⊢
  have hA : ∀ q : Nat, s.heap.size ≤ q → A q := fun q h => by rw [← hAe]; exact Or.inr h
  have hS : va_S A s.heap s.heap [] := va_S.rf
  have hl := lv_entry ([.ref hm, .int depth]) (n := 3) (Nat.le_of_ble_eq_true rfl)
  rw [lg_entry_eq]
  generalize (lg_sl ([.ref hm, .int depth]) ++ List.replicate (3 - (lg_sl ([.ref hm, .int depth])).length) Slot.unset).toArray = ls at hl ⊢
  have hl : lv_has ls 3 [(0, .ref hm), (1, .int depth)] := hl
  refine lv_aload_n hx hb d_Mo_newOne_0 rfl (lv_at hl 0 rfl) ?_
  refine lv_iload_n hx hb d_Mo_newOne_1 rfl (lv_at hl 1 rfl) ?_
  refine mr_Vv (g := (f_Mo_deep mo depth)) (As := [.int depth]) (rest := []) ⟨hx, hb, hml, hown, hts0⟩ (m_Mo_deep l hlt dC dI cI cZ sa rk hm ma mo _ depth (fun z => hg (by unfold f_Mo_newOne; rw [bndM_n z]))) hP hD hK hS hA hC hZ hnt hlocks L_1068 L_1070 L_63 L_90 L_1071 k_Mo_deep ⟨(by show _ ≤ fr0 + 9; omega), (by show _ ≤ lo0 + 146; omega)⟩ rfl rfl hl.1 (Nat.le_of_ble_eq_true rfl) d_Mo_newOne_2 rfl (fun q z => by unfold f_Mo_newOne; rw [bndM_l z]) (fun mo_1 H locs w_1 hP hD hS => ?_)
  refine lv_aload_n hx hb d_Mo_newOne_5 rfl (lv_at hl 0 rfl) ?_
  refine lv_bipush (v := 39) hx hb d_Mo_newOne_6 (by decide) ?_
  refine lv_iconst (v := 0) hx hb d_Mo_newOne_8 (by decide) ?_
  refine lv_aload_n hx hb d_Mo_newOne_9 rfl (lv_at hl 0 rfl) ?_
  refine va_get (D := (dC, dI)) (ci := 6) (v := .int (q_at mo_1)) (C := R_Mo) (T := T_Mo) (N := 31) hx hb hts u_Mo hown hK hP 0 rfl rfl 6 (by decide) (hts _ L_927) (fun _ h9 => h9) rfl d_Mo_newOne_10 ?_
  refine mr_Vi (g := (f_Mo_make mo_1 39 0 (q_at mo_1))) (As := [.int 39, .int 0, .int (q_at mo_1)]) (rest := []) ⟨hx, hb, hml, hown, hts0⟩ (m_Mo_make l hlt dC dI cI cZ sa rk hm ma mo_1 _ 39 0 (q_at mo_1) (fun z => hg (by unfold f_Mo_newOne; rw [bndM_r w_1, bndM_n z]))) hP hD hK hS hA hC hZ hnt hlocks L_1046 L_1048 L_59 L_90 L_1049 k_Mo_make ⟨(by show _ ≤ fr0 + 9; omega), (by show _ ≤ lo0 + 146; omega)⟩ rfl rfl hl.1 (Nat.le_of_ble_eq_true rfl) d_Mo_newOne_13 rfl (fun q z => by unfold f_Mo_newOne; rw [bndM_r w_1, bndM_l z]) (fun r_2 mo_2 H locs w_2 hP hD hS => ?_)
  refine lv_istore_n (lv' := [(2, .int r_2), (0, .ref hm), (1, .int depth)]) hx hb d_Mo_newOne_16 rfl hl (by decide) rfl (fun ls hl => ?_)
  refine lv_aload_n hx hb d_Mo_newOne_17 rfl (lv_at hl 1 rfl) ?_
  refine lv_dup hx hb d_Mo_newOne_18 rfl ?_
  refine va_get (D := (dC, dI)) (ci := 6) (v := .int (q_at mo_2)) (C := R_Mo) (T := T_Mo) (N := 31) hx hb hts u_Mo hown hK hP 0 rfl rfl 6 (by decide) (hts _ L_927) (fun _ h9 => h9) rfl d_Mo_newOne_19 ?_
  refine lv_iconst (v := 1) hx hb d_Mo_newOne_22 (by decide) ?_
  refine lv_iadd hx hb d_Mo_newOne_23 ?_
  refine va_put (D := (dC, dI)) (ci := 6) (v := .int ((q_at mo_2) + 1)) (ty := .int) (C := R_Mo) (T := T_Mo) (N := 31) hx hb hts u_Mo ty_Mo tk_Mo nm_Mo hown hK hP hD hS 0 rfl rfl 6 (by decide) (hts _ L_927) (fun _ h9 => h9) rfl (by decide +kernel) rfl rfl (Nat.le_of_ble_eq_true rfl) d_Mo_newOne_24 (fun H locs hP hD hS => ?_)
  have hP : va_P (dC, dI) cls (wM cI cZ hm ma (s_at mo_2 ((q_at mo_2) + 1))) H := hP
  have hD : va_D A (wM cI cZ hm ma (s_at mo_2 ((q_at mo_2) + 1))) := hD
  refine lv_aload_n hx hb d_Mo_newOne_27 rfl (lv_at hl 1 rfl) ?_
  refine lv_iload_n hx hb d_Mo_newOne_28 rfl (lv_at hl 2 rfl) ?_
  refine lv_iconst (v := 1) hx hb d_Mo_newOne_29 (by decide) ?_
  refine lv_iadd hx hb d_Mo_newOne_30 ?_
  refine mr_Vv (g := (f_Mo_deep (s_at mo_2 ((q_at mo_2) + 1)) (depth + 1))) (As := [.int (depth + 1)]) (rest := []) ⟨hx, hb, hml, hown, hts0⟩ (m_Mo_deep l hlt dC dI cI cZ sa rk hm ma (s_at mo_2 ((q_at mo_2) + 1)) _ (depth + 1) (fun z => hg (by unfold f_Mo_newOne; rw [bndM_r w_1, bndM_r w_2, bndM_n z]))) hP hD hK hS hA hC hZ hnt hlocks L_1068 L_1070 L_63 L_90 L_1071 k_Mo_deep ⟨(by show _ ≤ fr0 + 9; omega), (by show _ ≤ lo0 + 146; omega)⟩ rfl rfl hl.1 (Nat.le_of_ble_eq_true rfl) d_Mo_newOne_31 rfl (fun q z => by unfold f_Mo_newOne; rw [bndM_r w_1, bndM_r w_2, bndM_l z]) (fun mo_3 H locs w_3 hP hD hS => ?_)
  refine lv_aload_n hx hb d_Mo_newOne_34 rfl (lv_at hl 1 rfl) ?_
  refine lv_iload_n hx hb d_Mo_newOne_35 rfl (lv_at hl 0 rfl) ?_
  refine lv_aload_n hx hb d_Mo_newOne_36 rfl (lv_at hl 1 rfl) ?_
  refine lv_iload_n hx hb d_Mo_newOne_37 rfl (lv_at hl 2 rfl) ?_
  refine lv_iconst (v := 1) hx hb d_Mo_newOne_38 (by decide) ?_
  refine lv_iadd hx hb d_Mo_newOne_39 ?_
  refine lv_iconst (v := 0) hx hb d_Mo_newOne_40 (by decide) ?_
  refine mr_Si (g := (K 4 [(depth + 1), 0] mo_3)) (As := [.ref hm, .int (depth + 1), .int 0]) (rest := [.int r_2, .ref hm]) ⟨hx, hb, hml, hown, hts0⟩ (hR4 mo_3 _ (depth + 1) 0 (fun z => hg (by unfold f_Mo_newOne; rw [bndM_r w_1, bndM_r w_2, bndM_r w_3, bndM_n z]))) hP hD hK hS hA hC hZ hnt hlocks L_1154 L_1155 L_90 L_1156 k_Mo_member ⟨(by show _ ≤ fr0 + 9; omega), (by show _ ≤ lo0 + 146; omega)⟩ rfl rfl hl.1 (Nat.le_of_ble_eq_true rfl) d_Mo_newOne_41 rfl (fun q z => by unfold f_Mo_newOne; rw [bndM_r w_1, bndM_r w_2, bndM_r w_3, bndM_l z]) (fun r_4 mo_4 H locs w_4 hP hD hS => ?_)
  refine mr_Vv (g := (f_Mo_hang mo_4 r_2 r_4)) (As := [.int r_2, .int r_4]) (rest := []) ⟨hx, hb, hml, hown, hts0⟩ (m_Mo_hang l hlt dC dI cI cZ sa rk hm ma mo_4 _ r_2 r_4 (fun z => hg (by unfold f_Mo_newOne; rw [bndM_r w_1, bndM_r w_2, bndM_r w_3, bndM_r w_4, bndM_n z]))) hP hD hK hS hA hC hZ hnt hlocks L_1115 L_1117 L_69 L_90 L_1118 k_Mo_hang ⟨(by show _ ≤ fr0 + 9; omega), (by show _ ≤ lo0 + 146; omega)⟩ rfl rfl hl.1 (Nat.le_of_ble_eq_true rfl) d_Mo_newOne_44 rfl (fun q z => by unfold f_Mo_newOne; rw [bndM_r w_1, bndM_r w_2, bndM_r w_3, bndM_r w_4, bndM_l z]) (fun mo_5 H locs w_5 hP hD hS => ?_)
  refine lv_aload_n hx hb d_Mo_newOne_47 rfl (lv_at hl 1 rfl) ?_
  refine lv_bipush (v := 60) hx hb d_Mo_newOne_48 (by decide) ?_
  refine mr_Vi (g := (f_Mo_isSign mo_5 60)) (As := [.int 60]) (rest := []) ⟨hx, hb, hml, hown, hts0⟩ (m_Mo_isSign l hlt dC dI cI cZ sa rk hm ma mo_5 _ 60 (fun z => hg (by unfold f_Mo_newOne; rw [bndM_r w_1, bndM_r w_2, bndM_r w_3, bndM_r w_4, bndM_r w_5, bndM_n z]))) hP hD hK hS hA hC hZ hnt hlocks L_1053 L_1055 L_60 L_90 L_1056 k_Mo_isSign ⟨(by show _ ≤ fr0 + 9; omega), (by show _ ≤ lo0 + 146; omega)⟩ rfl rfl hl.1 (Nat.le_of_ble_eq_true rfl) d_Mo_newOne_50 rfl (fun q z => by unfold f_Mo_newOne; rw [bndM_r w_1, bndM_r w_2, bndM_r w_3, bndM_r w_4, bndM_r w_5, bndM_l z]) (fun r_6 mo_6 H locs w_6 hP hD hS => ?_)
  refine lv_if_eq (tgt := 62) hx hb d_Mo_newOne_53 (by decide) (fun c_7 => ?_) (fun c_7 => ?_)
  · refine lv_iload_n hx hb d_Mo_newOne_62 rfl (lv_at hl 0 rfl) ?_
    exact mr_iret (v := r_2) (mo := mo_6) hx hb hr hlocks hK hP hD hS (by unfold f_Mo_newOne; rw [bndM_r w_1, bndM_r w_2, bndM_r w_3, bndM_r w_4, bndM_r w_5, bndM_r w_6, if_pos c_7]) d_Mo_newOne_63
  · refine lv_aload_n hx hb d_Mo_newOne_56 rfl (lv_at hl 1 rfl) ?_
    refine lv_iload_n hx hb d_Mo_newOne_57 rfl (lv_at hl 0 rfl) ?_
    refine lv_iload_n hx hb d_Mo_newOne_58 rfl (lv_at hl 2 rfl) ?_
    refine mr_Sv (g := (f_Mo_arguments K mo_6 r_2 depth)) (As := [.ref hm, .int r_2, .int depth]) (rest := []) ⟨hx, hb, hml, hown, hts0⟩ (m_Mo_arguments l hlt dC dI cI cZ sa rk hm ma fr0 lo0 K hR0 hR1 hR2 hR3 hR4 hR5 hR6 hR7 mo_6 _ r_2 depth (fun z => hg (by unfold f_Mo_newOne; rw [bndM_r w_1, bndM_r w_2, bndM_r w_3, bndM_r w_4, bndM_r w_5, bndM_r w_6, if_neg c_7, bndM_n z]))) hP hD hK hS hA hC hZ hnt hlocks L_1160 L_1161 L_90 L_1162 k_Mo_arguments ⟨(by show _ ≤ fr0 + 9; omega), (by show _ ≤ lo0 + 146; omega)⟩ rfl rfl hl.1 (Nat.le_of_ble_eq_true rfl) d_Mo_newOne_59 rfl (fun q z => by unfold f_Mo_newOne; rw [bndM_r w_1, bndM_r w_2, bndM_r w_3, bndM_r w_4, bndM_r w_5, bndM_r w_6, if_neg c_7, bndM_l z]) (fun mo_8 H locs w_8 hP hD hS => ?_)
    refine lv_iload_n hx hb d_Mo_newOne_62 rfl (lv_at hl 0 rfl) ?_
    exact mr_iret (v := r_2) (mo := mo_8) hx hb hr hlocks hK hP hD hS (by unfold f_Mo_newOne; rw [bndM_r w_1, bndM_r w_2, bndM_r w_3, bndM_r w_4, bndM_r w_5, bndM_r w_6, if_neg c_7, bndM_r w_8]) d_Mo_newOne_63
def f_Mo_array_L7 (K : Nat → List Int32 → MO → Rm) (depth : Int32) (e2 : Int32) : Nat → MO → Rm
  | 0, _ => none
  | fu_2 + 1, sx_2 => (bndM (f_Mo_isSign sx_2 63) (fun r_3 mo_3 => (if r_3 = 0 then (bndM (f_Mo_isSign mo_3 68) (fun r_5 mo_5 => (if r_5 = 0 then (bndM (K 1 [(depth + 1), 1] mo_5) (fun r_7 mo_7 => (bndM (f_Mo_hang mo_7 e2 r_7) (fun _ mo_8 => (bndM (f_Mo_isSign mo_8 63) (fun r_9 mo_9 => (if r_9 = 0 then (bndM (f_Mo_isSign mo_9 68) (fun r_13 mo_13 => (if r_13 = 0 then (bndM (f_Mo_refuse mo_13 (q_at mo_13)) (fun _ mo_17 => (bndM (f_Mo_isSign mo_17 68) (fun r_18 mo_18 => (if r_18 = 0 then (f_Mo_array_L7 K depth e2 fu_2  mo_18) else (f_Mo_array_L7 K depth e2 fu_2  (s_at mo_18 ((q_at mo_18) + 1)))))))) else (bndM (f_Mo_isSign mo_13 68) (fun r_15 mo_15 => (if r_15 = 0 then (f_Mo_array_L7 K depth e2 fu_2  mo_15) else (f_Mo_array_L7 K depth e2 fu_2  (s_at mo_15 ((q_at mo_15) + 1))))))))) else (bndM (f_Mo_isSign mo_9 68) (fun r_11 mo_11 => (if r_11 = 0 then (f_Mo_array_L7 K depth e2 fu_2  mo_11) else (f_Mo_array_L7 K depth e2 fu_2  (s_at mo_11 ((q_at mo_11) + 1))))))))))))) else (bndM (f_Mo_none mo_5 e2) (fun _ mo_20 => (bndM (f_Mo_isSign mo_20 68) (fun r_21 mo_21 => (if r_21 = 0 then (f_Mo_array_L7 K depth e2 fu_2  mo_21) else (f_Mo_array_L7 K depth e2 fu_2  (s_at mo_21 ((q_at mo_21) + 1))))))))))) else (some (.inr (0, mo_3))))))
def f_Mo_array (K : Nat → List Int32 → MO → Rm) (mo : MO) (depth : Int32) : Rm := (bndM (f_Mo_plain mo 35) (fun r_1 mo_1 => (bndM (f_Mo_array_L7 K depth r_1 5000  mo_1) (fun _ se_2 => (some (.inr (r_1, (s_at se_2 ((q_at se_2) + 1)))))))))
set_option maxRecDepth 100000 in
set_option maxHeartbeats 4000000 in
theorem m_Mo_array (l : Launch) (hlt : l.stackTraces = false) (dC : Nat → ClassId) (dI : Nat → Nat → Nat) (cI cZ : ClassId) (sa rk hm : Nat) (ma : Nat → Nat) (fr0 lo0 : Nat) (K : Nat → List Int32 → MO → Rm) (hR0 : ∀ (mo : MO) (sz : Nat) (p0 p1 : Int32), K 0 [p0, p1] mo ≠ none → cXi l y_Mo_expression c_Mo_expression 5 .int fr0 lo0 (dC, dI) cI cZ sa rk hm ma mo sz [.ref hm, .int p0, .int p1] (K 0 [p0, p1] mo)) (hR1 : ∀ (mo : MO) (sz : Nat) (p0 p1 : Int32), K 1 [p0, p1] mo ≠ none → cXi l y_Mo_assignment c_Mo_assignment 5 .int fr0 lo0 (dC, dI) cI cZ sa rk hm ma mo sz [.ref hm, .int p0, .int p1] (K 1 [p0, p1] mo)) (hR2 : ∀ (mo : MO) (sz : Nat) (p0 p1 p2 : Int32), K 2 [p0, p1, p2] mo ≠ none → cXi l y_Mo_binary c_Mo_binary 7 .int fr0 lo0 (dC, dI) cI cZ sa rk hm ma mo sz [.ref hm, .int p0, .int p1, .int p2] (K 2 [p0, p1, p2] mo)) (hR3 : ∀ (mo : MO) (sz : Nat) (p0 : Int32), K 3 [p0] mo ≠ none → cXi l y_Mo_unary c_Mo_unary 5 .int fr0 lo0 (dC, dI) cI cZ sa rk hm ma mo sz [.ref hm, .int p0] (K 3 [p0] mo)) (hR4 : ∀ (mo : MO) (sz : Nat) (p0 p1 : Int32), K 4 [p0, p1] mo ≠ none → cXi l y_Mo_member c_Mo_member 6 .int fr0 lo0 (dC, dI) cI cZ sa rk hm ma mo sz [.ref hm, .int p0, .int p1] (K 4 [p0, p1] mo)) (hR5 : ∀ (mo : MO) (sz : Nat) (p0 p1 : Int32), K 5 [p0, p1] mo ≠ none → cXi l y_Mo_statement c_Mo_statement 3 .int fr0 lo0 (dC, dI) cI cZ sa rk hm ma mo sz [.ref hm, .int p0, .int p1] (K 5 [p0, p1] mo)) (hR6 : ∀ (mo : MO) (sz : Nat) (p0 p1 p2 : Int32), K 6 [p0, p1, p2] mo ≠ none → cXv l y_Mo_statements c_Mo_statements 8 fr0 lo0 (dC, dI) cI cZ sa rk hm ma mo sz [.ref hm, .int p0, .int p1, .int p2] (K 6 [p0, p1, p2] mo)) (hR7 : ∀ (mo : MO) (sz : Nat) (p0 : Int32), K 7 [p0] mo ≠ none → cXi l y_Mo_block c_Mo_block 4 .int fr0 lo0 (dC, dI) cI cZ sa rk hm ma mo sz [.ref hm, .int p0] (K 7 [p0] mo)) (mo : MO) (sz : Nat) (depth : Int32) (hg : (f_Mo_array K mo depth) ≠ none) : cXi l y_Mo_array c_Mo_array 3 .int (fr0 + 7) (lo0 + 102) (dC, dI) cI cZ sa rk hm ma mo sz [.ref hm, .int depth] (f_Mo_array K mo depth) := by
  refine vx_ofW (cc := c_Mo_array) (maxL := 3) (ret := (some .int)) (by decide) rfl ?_
  intro p e s m args below meth c s₁ B hml hnt hv
  obtain ⟨rfl, hsz, hP, hK, hD0, hC, hZ⟩ := hv
  have hx := B.exec
  have hb := B.bytes
  have hr := B.returns
  have hts0 := atoms_spec (ws := wy y_Mo_array c_Mo_array 3 (some .int)) B.pre
  have hts := htsL hts0
  have hown : s.vm.findClass R_Mo = some m.cls := findClass_of_methodNamed B.named
  have hlocks := B.notSynchronized
  subst hsz
  have hD := hD0.self (sz := s.heap.size)
  generalize hAe : va_A (wM cI cZ hm ma mo) s.heap.size = A at hD hZ ⊢
  have hA : ∀ q : Nat, s.heap.size ≤ q → A q := fun q h => by rw [← hAe]; exact Or.inr h
  have hS : va_S A s.heap s.heap [] := va_S.rf
  have hl := lv_entry ([.ref hm, .int depth]) (n := 3) (Nat.le_of_ble_eq_true rfl)
  rw [lg_entry_eq]
  generalize (lg_sl ([.ref hm, .int depth]) ++ List.replicate (3 - (lg_sl ([.ref hm, .int depth])).length) Slot.unset).toArray = ls at hl ⊢
  have hl : lv_has ls 3 [(0, .ref hm), (1, .int depth)] := hl
  refine lv_aload_n hx hb d_Mo_array_0 rfl (lv_at hl 0 rfl) ?_
  refine lv_bipush (v := 35) hx hb d_Mo_array_1 (by decide) ?_
  refine mr_Vi (g := (f_Mo_plain mo 35)) (As := [.int 35]) (rest := []) ⟨hx, hb, hml, hown, hts0⟩ (m_Mo_plain l hlt dC dI cI cZ sa rk hm ma mo _ 35 (fun z => hg (by unfold f_Mo_array; rw [bndM_n z]))) hP hD hK hS hA hC hZ hnt hlocks L_1128 L_1130 L_70 L_90 L_1131 k_Mo_plain ⟨(by show _ ≤ fr0 + 7; omega), (by show _ ≤ lo0 + 102; omega)⟩ rfl rfl hl.1 (Nat.le_of_ble_eq_true rfl) d_Mo_array_3 rfl (fun q z => by unfold f_Mo_array; rw [bndM_l z]) (fun r_1 mo_1 H locs w_1 hP hD hS => ?_)
  refine lv_istore_n (lv' := [(2, .int r_1), (0, .ref hm), (1, .int depth)]) hx hb d_Mo_array_6 rfl hl (by decide) rfl (fun ls hl => ?_)
  obtain ⟨x_2, hx_2⟩ : ∃ z, f_Mo_array_L7 K depth r_1 5000  mo_1 = z := ⟨_, rfl⟩
  have hn_2 : x_2 ≠ none := (fun z => hg (by unfold f_Mo_array; rw [bndM_r w_1, bndM_n (hx_2.trans z)]))
  have hX_2 : ∀ q, x_2 = some (.inl q) → (f_Mo_array K mo depth) = some (.inl q) := (fun q z => by unfold f_Mo_array; rw [bndM_r w_1, bndM_l (hx_2.trans z)])
  have lp_2 : ∀ (fu : Nat) (sx_2 : MO) (H : Heap) (locs : List Loc) (ls : Array Slot), va_P (dC, dI) cls (wM cI cZ hm ma sx_2) H → va_D A (wM cI cZ hm ma sx_2) → va_S A s.heap H locs → lv_has ls 3 [(0, .ref hm), (1, .int depth), (2, .int r_1)] → x_2 = f_Mo_array_L7 K depth r_1 fu  sx_2 → W p l e (headSpec (wy y_Mo_array c_Mo_array 3 (some .int)) { frames := (fr0 + 7), cells := 1, slots := 6, locals := (lo0 + 102) }).room s m [.ref hm, .int depth].toArray below meth c H locs 0 0 (vx_MQ below (va_Qi (fun r (u : MO) => (f_Mo_array K mo depth) = some (.inr (r, u))) (wB (dC, dI) cI cZ A (wM cI cZ hm ma)) A) (xM (dC, dI) cI cZ hm ma (f_Mo_array K mo depth) A) [.ref hm, .int depth].toArray s (mcM (f_Mo_array K mo depth)) (msM (f_Mo_array K mo depth)) A) (F0 m 7 ls []) := by
    intro fu
    induction fu with
    | zero => intro  sx_2 H locs ls hP hD hS hl hL_2; exact absurd (hL_2.trans rfl) hn_2
    | succ fu_2 ih_2 =>
      intro  sx_2 H locs ls hP hD hS hl hL_2
      rw [f_Mo_array_L7] at hL_2
      refine lv_aload_n hx hb d_Mo_array_7 rfl (lv_at hl 0 rfl) ?_
      refine lv_bipush (v := 63) hx hb d_Mo_array_8 (by decide) ?_
      refine mr_Vi (g := (f_Mo_isSign sx_2 63)) (As := [.int 63]) (rest := []) ⟨hx, hb, hml, hown, hts0⟩ (m_Mo_isSign l hlt dC dI cI cZ sa rk hm ma sx_2 _ 63 (fun z => hn_2 (hL_2.trans (bndM_n z)))) hP hD hK hS hA hC hZ hnt hlocks L_1053 L_1055 L_60 L_90 L_1056 k_Mo_isSign ⟨(by show _ ≤ fr0 + 7; omega), (by show _ ≤ lo0 + 102; omega)⟩ rfl rfl hl.1 (Nat.le_of_ble_eq_true rfl) d_Mo_array_10 rfl (fun q z => hX_2 q (hL_2.trans (bndM_l z))) (fun r_3 mo_3 H locs w_3 hP hD hS => ?_)
      rw [bndM_r w_3] at hL_2
      refine lv_if_ne (tgt := 94) hx hb d_Mo_array_13 (by decide) (fun c_4 => ?_) (fun c_4 => ?_)
      · rw [if_neg c_4] at hL_2
        obtain ⟨se_2, hse_2⟩ : ∃ z : MO, z = mo_3 := ⟨_, rfl⟩
        have hP : va_P (dC, dI) cls (wM cI cZ hm ma se_2) H := by rw [hse_2]; exact hP
        have hD : va_D A (wM cI cZ hm ma se_2) := by rw [hse_2]; exact hD
        have we_2 : f_Mo_array_L7 K depth r_1 5000  mo_1 = some (.inr (0, se_2)) := by rw [hse_2]; exact hx_2.trans hL_2
        have hl := lv_sub hl (l' := [(0, .ref hm), (1, .int depth), (2, .int r_1)]) [0, 1, 2] rfl
        refine lv_aload_n hx hb d_Mo_array_94 rfl (lv_at hl 0 rfl) ?_
        refine lv_dup hx hb d_Mo_array_95 rfl ?_
        refine va_get (D := (dC, dI)) (ci := 6) (v := .int (q_at se_2)) (C := R_Mo) (T := T_Mo) (N := 31) hx hb hts u_Mo hown hK hP 0 rfl rfl 6 (by decide) (hts _ L_927) (fun _ h9 => h9) rfl d_Mo_array_96 ?_
        refine lv_iconst (v := 1) hx hb d_Mo_array_99 (by decide) ?_
        refine lv_iadd hx hb d_Mo_array_100 ?_
        refine va_put (D := (dC, dI)) (ci := 6) (v := .int ((q_at se_2) + 1)) (ty := .int) (C := R_Mo) (T := T_Mo) (N := 31) hx hb hts u_Mo ty_Mo tk_Mo nm_Mo hown hK hP hD hS 0 rfl rfl 6 (by decide) (hts _ L_927) (fun _ h9 => h9) rfl (by decide +kernel) rfl rfl (Nat.le_of_ble_eq_true rfl) d_Mo_array_101 (fun H locs hP hD hS => ?_)
        have hP : va_P (dC, dI) cls (wM cI cZ hm ma (s_at se_2 ((q_at se_2) + 1))) H := hP
        have hD : va_D A (wM cI cZ hm ma (s_at se_2 ((q_at se_2) + 1))) := hD
        refine lv_iload_n hx hb d_Mo_array_104 rfl (lv_at hl 2 rfl) ?_
        exact mr_iret (v := r_1) (mo := (s_at se_2 ((q_at se_2) + 1))) hx hb hr hlocks hK hP hD hS (by unfold f_Mo_array; rw [bndM_r w_1, bndM_r we_2]) d_Mo_array_105
      · rw [if_pos c_4] at hL_2
        refine lv_aload_n hx hb d_Mo_array_16 rfl (lv_at hl 0 rfl) ?_
        refine lv_bipush (v := 68) hx hb d_Mo_array_17 (by decide) ?_
        refine mr_Vi (g := (f_Mo_isSign mo_3 68)) (As := [.int 68]) (rest := []) ⟨hx, hb, hml, hown, hts0⟩ (m_Mo_isSign l hlt dC dI cI cZ sa rk hm ma mo_3 _ 68 (fun z => hn_2 (hL_2.trans (bndM_n z)))) hP hD hK hS hA hC hZ hnt hlocks L_1053 L_1055 L_60 L_90 L_1056 k_Mo_isSign ⟨(by show _ ≤ fr0 + 7; omega), (by show _ ≤ lo0 + 102; omega)⟩ rfl rfl hl.1 (Nat.le_of_ble_eq_true rfl) d_Mo_array_19 rfl (fun q z => hX_2 q (hL_2.trans (bndM_l z))) (fun r_5 mo_5 H locs w_5 hP hD hS => ?_)
        rw [bndM_r w_5] at hL_2
        refine lv_if_eq (tgt := 33) hx hb d_Mo_array_22 (by decide) (fun c_6 => ?_) (fun c_6 => ?_)
        · rw [if_pos c_6] at hL_2
          refine lv_aload_n hx hb d_Mo_array_33 rfl (lv_at hl 0 rfl) ?_
          refine lv_iload_n hx hb d_Mo_array_34 rfl (lv_at hl 2 rfl) ?_
          refine lv_aload_n hx hb d_Mo_array_35 rfl (lv_at hl 0 rfl) ?_
          refine lv_iload_n hx hb d_Mo_array_36 rfl (lv_at hl 1 rfl) ?_
          refine lv_iconst (v := 1) hx hb d_Mo_array_37 (by decide) ?_
          refine lv_iadd hx hb d_Mo_array_38 ?_
          refine lv_iconst (v := 1) hx hb d_Mo_array_39 (by decide) ?_
          refine mr_Si (g := (K 1 [(depth + 1), 1] mo_5)) (As := [.ref hm, .int (depth + 1), .int 1]) (rest := [.int r_1, .ref hm]) ⟨hx, hb, hml, hown, hts0⟩ (hR1 mo_5 _ (depth + 1) 1 (fun z => hn_2 (hL_2.trans (bndM_n z)))) hP hD hK hS hA hC hZ hnt hlocks L_1138 L_1139 L_90 L_1140 k_Mo_assignment ⟨(by show _ ≤ fr0 + 7; omega), (by show _ ≤ lo0 + 102; omega)⟩ rfl rfl hl.1 (Nat.le_of_ble_eq_true rfl) d_Mo_array_40 rfl (fun q z => hX_2 q (hL_2.trans (bndM_l z))) (fun r_7 mo_7 H locs w_7 hP hD hS => ?_)
          rw [bndM_r w_7] at hL_2
          refine mr_Vv (g := (f_Mo_hang mo_7 r_1 r_7)) (As := [.int r_1, .int r_7]) (rest := []) ⟨hx, hb, hml, hown, hts0⟩ (m_Mo_hang l hlt dC dI cI cZ sa rk hm ma mo_7 _ r_1 r_7 (fun z => hn_2 (hL_2.trans (bndM_n z)))) hP hD hK hS hA hC hZ hnt hlocks L_1115 L_1117 L_69 L_90 L_1118 k_Mo_hang ⟨(by show _ ≤ fr0 + 7; omega), (by show _ ≤ lo0 + 102; omega)⟩ rfl rfl hl.1 (Nat.le_of_ble_eq_true rfl) d_Mo_array_43 rfl (fun q z => hX_2 q (hL_2.trans (bndM_l z))) (fun mo_8 H locs w_8 hP hD hS => ?_)
          rw [bndM_r w_8] at hL_2
          refine lv_aload_n hx hb d_Mo_array_46 rfl (lv_at hl 0 rfl) ?_
          refine lv_bipush (v := 63) hx hb d_Mo_array_47 (by decide) ?_
          refine mr_Vi (g := (f_Mo_isSign mo_8 63)) (As := [.int 63]) (rest := []) ⟨hx, hb, hml, hown, hts0⟩ (m_Mo_isSign l hlt dC dI cI cZ sa rk hm ma mo_8 _ 63 (fun z => hn_2 (hL_2.trans (bndM_n z)))) hP hD hK hS hA hC hZ hnt hlocks L_1053 L_1055 L_60 L_90 L_1056 k_Mo_isSign ⟨(by show _ ≤ fr0 + 7; omega), (by show _ ≤ lo0 + 102; omega)⟩ rfl rfl hl.1 (Nat.le_of_ble_eq_true rfl) d_Mo_array_49 rfl (fun q z => hX_2 q (hL_2.trans (bndM_l z))) (fun r_9 mo_9 H locs w_9 hP hD hS => ?_)
          rw [bndM_r w_9] at hL_2
          refine lv_if_ne (tgt := 72) hx hb d_Mo_array_52 (by decide) (fun c_10 => ?_) (fun c_10 => ?_)
          · rw [if_neg c_10] at hL_2
            refine lv_aload_n hx hb d_Mo_array_72 rfl (lv_at hl 0 rfl) ?_
            refine lv_bipush (v := 68) hx hb d_Mo_array_73 (by decide) ?_
            refine mr_Vi (g := (f_Mo_isSign mo_9 68)) (As := [.int 68]) (rest := []) ⟨hx, hb, hml, hown, hts0⟩ (m_Mo_isSign l hlt dC dI cI cZ sa rk hm ma mo_9 _ 68 (fun z => hn_2 (hL_2.trans (bndM_n z)))) hP hD hK hS hA hC hZ hnt hlocks L_1053 L_1055 L_60 L_90 L_1056 k_Mo_isSign ⟨(by show _ ≤ fr0 + 7; omega), (by show _ ≤ lo0 + 102; omega)⟩ rfl rfl hl.1 (Nat.le_of_ble_eq_true rfl) d_Mo_array_75 rfl (fun q z => hX_2 q (hL_2.trans (bndM_l z))) (fun r_11 mo_11 H locs w_11 hP hD hS => ?_)
            rw [bndM_r w_11] at hL_2
            refine lv_if_eq (tgt := 7) hx hb d_Mo_array_78 (by decide) (fun c_12 => ?_) (fun c_12 => ?_)
            · rw [if_pos c_12] at hL_2
              exact ih_2  mo_11 _ _ ls hP hD hS (lv_sub hl [0, 1, 2] rfl) hL_2
            · rw [if_neg c_12] at hL_2
              refine lv_aload_n hx hb d_Mo_array_81 rfl (lv_at hl 0 rfl) ?_
              refine lv_dup hx hb d_Mo_array_82 rfl ?_
              refine va_get (D := (dC, dI)) (ci := 6) (v := .int (q_at mo_11)) (C := R_Mo) (T := T_Mo) (N := 31) hx hb hts u_Mo hown hK hP 0 rfl rfl 6 (by decide) (hts _ L_927) (fun _ h9 => h9) rfl d_Mo_array_83 ?_
              refine lv_iconst (v := 1) hx hb d_Mo_array_86 (by decide) ?_
              refine lv_iadd hx hb d_Mo_array_87 ?_
              refine va_put (D := (dC, dI)) (ci := 6) (v := .int ((q_at mo_11) + 1)) (ty := .int) (C := R_Mo) (T := T_Mo) (N := 31) hx hb hts u_Mo ty_Mo tk_Mo nm_Mo hown hK hP hD hS 0 rfl rfl 6 (by decide) (hts _ L_927) (fun _ h9 => h9) rfl (by decide +kernel) rfl rfl (Nat.le_of_ble_eq_true rfl) d_Mo_array_88 (fun H locs hP hD hS => ?_)
              have hP : va_P (dC, dI) cls (wM cI cZ hm ma (s_at mo_11 ((q_at mo_11) + 1))) H := hP
              have hD : va_D A (wM cI cZ hm ma (s_at mo_11 ((q_at mo_11) + 1))) := hD
              refine lv_goto (tgt := 7) hx hb d_Mo_array_91 (by decide) ?_
              exact ih_2  (s_at mo_11 ((q_at mo_11) + 1)) _ _ ls hP hD hS (lv_sub hl [0, 1, 2] rfl) hL_2
          · rw [if_pos c_10] at hL_2
            refine lv_aload_n hx hb d_Mo_array_55 rfl (lv_at hl 0 rfl) ?_
            refine lv_bipush (v := 68) hx hb d_Mo_array_56 (by decide) ?_
            refine mr_Vi (g := (f_Mo_isSign mo_9 68)) (As := [.int 68]) (rest := []) ⟨hx, hb, hml, hown, hts0⟩ (m_Mo_isSign l hlt dC dI cI cZ sa rk hm ma mo_9 _ 68 (fun z => hn_2 (hL_2.trans (bndM_n z)))) hP hD hK hS hA hC hZ hnt hlocks L_1053 L_1055 L_60 L_90 L_1056 k_Mo_isSign ⟨(by show _ ≤ fr0 + 7; omega), (by show _ ≤ lo0 + 102; omega)⟩ rfl rfl hl.1 (Nat.le_of_ble_eq_true rfl) d_Mo_array_58 rfl (fun q z => hX_2 q (hL_2.trans (bndM_l z))) (fun r_13 mo_13 H locs w_13 hP hD hS => ?_)
            rw [bndM_r w_13] at hL_2
            refine lv_if_ne (tgt := 72) hx hb d_Mo_array_61 (by decide) (fun c_14 => ?_) (fun c_14 => ?_)
            · rw [if_neg c_14] at hL_2
              refine lv_aload_n hx hb d_Mo_array_72 rfl (lv_at hl 0 rfl) ?_
              refine lv_bipush (v := 68) hx hb d_Mo_array_73 (by decide) ?_
              refine mr_Vi (g := (f_Mo_isSign mo_13 68)) (As := [.int 68]) (rest := []) ⟨hx, hb, hml, hown, hts0⟩ (m_Mo_isSign l hlt dC dI cI cZ sa rk hm ma mo_13 _ 68 (fun z => hn_2 (hL_2.trans (bndM_n z)))) hP hD hK hS hA hC hZ hnt hlocks L_1053 L_1055 L_60 L_90 L_1056 k_Mo_isSign ⟨(by show _ ≤ fr0 + 7; omega), (by show _ ≤ lo0 + 102; omega)⟩ rfl rfl hl.1 (Nat.le_of_ble_eq_true rfl) d_Mo_array_75 rfl (fun q z => hX_2 q (hL_2.trans (bndM_l z))) (fun r_15 mo_15 H locs w_15 hP hD hS => ?_)
              rw [bndM_r w_15] at hL_2
              refine lv_if_eq (tgt := 7) hx hb d_Mo_array_78 (by decide) (fun c_16 => ?_) (fun c_16 => ?_)
              · rw [if_pos c_16] at hL_2
                exact ih_2  mo_15 _ _ ls hP hD hS (lv_sub hl [0, 1, 2] rfl) hL_2
              · rw [if_neg c_16] at hL_2
                refine lv_aload_n hx hb d_Mo_array_81 rfl (lv_at hl 0 rfl) ?_
                refine lv_dup hx hb d_Mo_array_82 rfl ?_
                refine va_get (D := (dC, dI)) (ci := 6) (v := .int (q_at mo_15)) (C := R_Mo) (T := T_Mo) (N := 31) hx hb hts u_Mo hown hK hP 0 rfl rfl 6 (by decide) (hts _ L_927) (fun _ h9 => h9) rfl d_Mo_array_83 ?_
                refine lv_iconst (v := 1) hx hb d_Mo_array_86 (by decide) ?_
                refine lv_iadd hx hb d_Mo_array_87 ?_
                refine va_put (D := (dC, dI)) (ci := 6) (v := .int ((q_at mo_15) + 1)) (ty := .int) (C := R_Mo) (T := T_Mo) (N := 31) hx hb hts u_Mo ty_Mo tk_Mo nm_Mo hown hK hP hD hS 0 rfl rfl 6 (by decide) (hts _ L_927) (fun _ h9 => h9) rfl (by decide +kernel) rfl rfl (Nat.le_of_ble_eq_true rfl) d_Mo_array_88 (fun H locs hP hD hS => ?_)
                have hP : va_P (dC, dI) cls (wM cI cZ hm ma (s_at mo_15 ((q_at mo_15) + 1))) H := hP
                have hD : va_D A (wM cI cZ hm ma (s_at mo_15 ((q_at mo_15) + 1))) := hD
                refine lv_goto (tgt := 7) hx hb d_Mo_array_91 (by decide) ?_
                exact ih_2  (s_at mo_15 ((q_at mo_15) + 1)) _ _ ls hP hD hS (lv_sub hl [0, 1, 2] rfl) hL_2
            · rw [if_pos c_14] at hL_2
              refine lv_aload_n hx hb d_Mo_array_64 rfl (lv_at hl 0 rfl) ?_
              refine lv_aload_n hx hb d_Mo_array_65 rfl (lv_at hl 0 rfl) ?_
              refine va_get (D := (dC, dI)) (ci := 6) (v := .int (q_at mo_13)) (C := R_Mo) (T := T_Mo) (N := 31) hx hb hts u_Mo hown hK hP 0 rfl rfl 6 (by decide) (hts _ L_927) (fun _ h9 => h9) rfl d_Mo_array_66 ?_
              refine mr_Vv (g := (f_Mo_refuse mo_13 (q_at mo_13))) (As := [.int (q_at mo_13)]) (rest := []) ⟨hx, hb, hml, hown, hts0⟩ (m_Mo_refuse l hlt dC dI cI cZ sa rk hm ma mo_13 _ (q_at mo_13) ) hP hD hK hS hA hC hZ hnt hlocks L_1072 L_1074 L_64 L_90 L_1075 k_Mo_refuse ⟨(by show _ ≤ fr0 + 7; omega), (by show _ ≤ lo0 + 102; omega)⟩ rfl rfl hl.1 (Nat.le_of_ble_eq_true rfl) d_Mo_array_69 rfl (fun q z => hX_2 q (hL_2.trans (bndM_l z))) (fun mo_17 H locs w_17 hP hD hS => ?_)
              rw [bndM_r w_17] at hL_2
              refine lv_aload_n hx hb d_Mo_array_72 rfl (lv_at hl 0 rfl) ?_
              refine lv_bipush (v := 68) hx hb d_Mo_array_73 (by decide) ?_
              refine mr_Vi (g := (f_Mo_isSign mo_17 68)) (As := [.int 68]) (rest := []) ⟨hx, hb, hml, hown, hts0⟩ (m_Mo_isSign l hlt dC dI cI cZ sa rk hm ma mo_17 _ 68 (fun z => hn_2 (hL_2.trans (bndM_n z)))) hP hD hK hS hA hC hZ hnt hlocks L_1053 L_1055 L_60 L_90 L_1056 k_Mo_isSign ⟨(by show _ ≤ fr0 + 7; omega), (by show _ ≤ lo0 + 102; omega)⟩ rfl rfl hl.1 (Nat.le_of_ble_eq_true rfl) d_Mo_array_75 rfl (fun q z => hX_2 q (hL_2.trans (bndM_l z))) (fun r_18 mo_18 H locs w_18 hP hD hS => ?_)
              rw [bndM_r w_18] at hL_2
              refine lv_if_eq (tgt := 7) hx hb d_Mo_array_78 (by decide) (fun c_19 => ?_) (fun c_19 => ?_)
              · rw [if_pos c_19] at hL_2
                exact ih_2  mo_18 _ _ ls hP hD hS (lv_sub hl [0, 1, 2] rfl) hL_2
              · rw [if_neg c_19] at hL_2
                refine lv_aload_n hx hb d_Mo_array_81 rfl (lv_at hl 0 rfl) ?_
                refine lv_dup hx hb d_Mo_array_82 rfl ?_
                refine va_get (D := (dC, dI)) (ci := 6) (v := .int (q_at mo_18)) (C := R_Mo) (T := T_Mo) (N := 31) hx hb hts u_Mo hown hK hP 0 rfl rfl 6 (by decide) (hts _ L_927) (fun _ h9 => h9) rfl d_Mo_array_83 ?_
                refine lv_iconst (v := 1) hx hb d_Mo_array_86 (by decide) ?_
                refine lv_iadd hx hb d_Mo_array_87 ?_
                refine va_put (D := (dC, dI)) (ci := 6) (v := .int ((q_at mo_18) + 1)) (ty := .int) (C := R_Mo) (T := T_Mo) (N := 31) hx hb hts u_Mo ty_Mo tk_Mo nm_Mo hown hK hP hD hS 0 rfl rfl 6 (by decide) (hts _ L_927) (fun _ h9 => h9) rfl (by decide +kernel) rfl rfl (Nat.le_of_ble_eq_true rfl) d_Mo_array_88 (fun H locs hP hD hS => ?_)
                have hP : va_P (dC, dI) cls (wM cI cZ hm ma (s_at mo_18 ((q_at mo_18) + 1))) H := hP
                have hD : va_D A (wM cI cZ hm ma (s_at mo_18 ((q_at mo_18) + 1))) := hD
                refine lv_goto (tgt := 7) hx hb d_Mo_array_91 (by decide) ?_
                exact ih_2  (s_at mo_18 ((q_at mo_18) + 1)) _ _ ls hP hD hS (lv_sub hl [0, 1, 2] rfl) hL_2
        · rw [if_neg c_6] at hL_2
          refine lv_aload_n hx hb d_Mo_array_25 rfl (lv_at hl 0 rfl) ?_
          refine lv_iload_n hx hb d_Mo_array_26 rfl (lv_at hl 2 rfl) ?_
          refine mr_Vv (g := (f_Mo_none mo_5 r_1)) (As := [.int r_1]) (rest := []) ⟨hx, hb, hml, hown, hts0⟩ (m_Mo_none l hlt dC dI cI cZ sa rk hm ma mo_5 _ r_1 (fun z => hn_2 (hL_2.trans (bndM_n z)))) hP hD hK hS hA hC hZ hnt hlocks L_1173 L_1175 L_73 L_90 L_1176 k_Mo_none ⟨(by show _ ≤ fr0 + 7; omega), (by show _ ≤ lo0 + 102; omega)⟩ rfl rfl hl.1 (Nat.le_of_ble_eq_true rfl) d_Mo_array_27 rfl (fun q z => hX_2 q (hL_2.trans (bndM_l z))) (fun mo_20 H locs w_20 hP hD hS => ?_)
          rw [bndM_r w_20] at hL_2
          refine lv_goto (tgt := 72) hx hb d_Mo_array_30 (by decide) ?_
          refine lv_aload_n hx hb d_Mo_array_72 rfl (lv_at hl 0 rfl) ?_
          refine lv_bipush (v := 68) hx hb d_Mo_array_73 (by decide) ?_
          refine mr_Vi (g := (f_Mo_isSign mo_20 68)) (As := [.int 68]) (rest := []) ⟨hx, hb, hml, hown, hts0⟩ (m_Mo_isSign l hlt dC dI cI cZ sa rk hm ma mo_20 _ 68 (fun z => hn_2 (hL_2.trans (bndM_n z)))) hP hD hK hS hA hC hZ hnt hlocks L_1053 L_1055 L_60 L_90 L_1056 k_Mo_isSign ⟨(by show _ ≤ fr0 + 7; omega), (by show _ ≤ lo0 + 102; omega)⟩ rfl rfl hl.1 (Nat.le_of_ble_eq_true rfl) d_Mo_array_75 rfl (fun q z => hX_2 q (hL_2.trans (bndM_l z))) (fun r_21 mo_21 H locs w_21 hP hD hS => ?_)
          rw [bndM_r w_21] at hL_2
          refine lv_if_eq (tgt := 7) hx hb d_Mo_array_78 (by decide) (fun c_22 => ?_) (fun c_22 => ?_)
          · rw [if_pos c_22] at hL_2
            exact ih_2  mo_21 _ _ ls hP hD hS (lv_sub hl [0, 1, 2] rfl) hL_2
          · rw [if_neg c_22] at hL_2
            refine lv_aload_n hx hb d_Mo_array_81 rfl (lv_at hl 0 rfl) ?_
            refine lv_dup hx hb d_Mo_array_82 rfl ?_
            refine va_get (D := (dC, dI)) (ci := 6) (v := .int (q_at mo_21)) (C := R_Mo) (T := T_Mo) (N := 31) hx hb hts u_Mo hown hK hP 0 rfl rfl 6 (by decide) (hts _ L_927) (fun _ h9 => h9) rfl d_Mo_array_83 ?_
            refine lv_iconst (v := 1) hx hb d_Mo_array_86 (by decide) ?_
            refine lv_iadd hx hb d_Mo_array_87 ?_
            refine va_put (D := (dC, dI)) (ci := 6) (v := .int ((q_at mo_21) + 1)) (ty := .int) (C := R_Mo) (T := T_Mo) (N := 31) hx hb hts u_Mo ty_Mo tk_Mo nm_Mo hown hK hP hD hS 0 rfl rfl 6 (by decide) (hts _ L_927) (fun _ h9 => h9) rfl (by decide +kernel) rfl rfl (Nat.le_of_ble_eq_true rfl) d_Mo_array_88 (fun H locs hP hD hS => ?_)
            have hP : va_P (dC, dI) cls (wM cI cZ hm ma (s_at mo_21 ((q_at mo_21) + 1))) H := hP
            have hD : va_D A (wM cI cZ hm ma (s_at mo_21 ((q_at mo_21) + 1))) := hD
            refine lv_goto (tgt := 7) hx hb d_Mo_array_91 (by decide) ?_
            exact ih_2  (s_at mo_21 ((q_at mo_21) + 1)) _ _ ls hP hD hS (lv_sub hl [0, 1, 2] rfl) hL_2
  exact lp_2 5000  mo_1 _ _ ls hP hD hS (lv_sub hl [1, 2, 0] rfl) hx_2.symm
def f_Mo_head (K : Nat → List Int32 → MO → Rm) (mo : MO) (depth : Int32) : Rm := (bndM (f_Mo_expect mo 60) (fun _ mo_1 => (bndM (K 0 [(depth + 1), 1] mo_1) (fun r_2 mo_2 => (bndM (f_Mo_expect mo_2 61) (fun _ mo_3 => (some (.inr (r_2, mo_3)))))))))
set_option maxRecDepth 100000 in
set_option maxHeartbeats 4000000 in
theorem m_Mo_head (l : Launch) (hlt : l.stackTraces = false) (dC : Nat → ClassId) (dI : Nat → Nat → Nat) (cI cZ : ClassId) (sa rk hm : Nat) (ma : Nat → Nat) (fr0 lo0 : Nat) (K : Nat → List Int32 → MO → Rm) (hR0 : ∀ (mo : MO) (sz : Nat) (p0 p1 : Int32), K 0 [p0, p1] mo ≠ none → cXi l y_Mo_expression c_Mo_expression 5 .int fr0 lo0 (dC, dI) cI cZ sa rk hm ma mo sz [.ref hm, .int p0, .int p1] (K 0 [p0, p1] mo)) (hR1 : ∀ (mo : MO) (sz : Nat) (p0 p1 : Int32), K 1 [p0, p1] mo ≠ none → cXi l y_Mo_assignment c_Mo_assignment 5 .int fr0 lo0 (dC, dI) cI cZ sa rk hm ma mo sz [.ref hm, .int p0, .int p1] (K 1 [p0, p1] mo)) (hR2 : ∀ (mo : MO) (sz : Nat) (p0 p1 p2 : Int32), K 2 [p0, p1, p2] mo ≠ none → cXi l y_Mo_binary c_Mo_binary 7 .int fr0 lo0 (dC, dI) cI cZ sa rk hm ma mo sz [.ref hm, .int p0, .int p1, .int p2] (K 2 [p0, p1, p2] mo)) (hR3 : ∀ (mo : MO) (sz : Nat) (p0 : Int32), K 3 [p0] mo ≠ none → cXi l y_Mo_unary c_Mo_unary 5 .int fr0 lo0 (dC, dI) cI cZ sa rk hm ma mo sz [.ref hm, .int p0] (K 3 [p0] mo)) (hR4 : ∀ (mo : MO) (sz : Nat) (p0 p1 : Int32), K 4 [p0, p1] mo ≠ none → cXi l y_Mo_member c_Mo_member 6 .int fr0 lo0 (dC, dI) cI cZ sa rk hm ma mo sz [.ref hm, .int p0, .int p1] (K 4 [p0, p1] mo)) (hR5 : ∀ (mo : MO) (sz : Nat) (p0 p1 : Int32), K 5 [p0, p1] mo ≠ none → cXi l y_Mo_statement c_Mo_statement 3 .int fr0 lo0 (dC, dI) cI cZ sa rk hm ma mo sz [.ref hm, .int p0, .int p1] (K 5 [p0, p1] mo)) (hR6 : ∀ (mo : MO) (sz : Nat) (p0 p1 p2 : Int32), K 6 [p0, p1, p2] mo ≠ none → cXv l y_Mo_statements c_Mo_statements 8 fr0 lo0 (dC, dI) cI cZ sa rk hm ma mo sz [.ref hm, .int p0, .int p1, .int p2] (K 6 [p0, p1, p2] mo)) (hR7 : ∀ (mo : MO) (sz : Nat) (p0 : Int32), K 7 [p0] mo ≠ none → cXi l y_Mo_block c_Mo_block 4 .int fr0 lo0 (dC, dI) cI cZ sa rk hm ma mo sz [.ref hm, .int p0] (K 7 [p0] mo)) (mo : MO) (sz : Nat) (depth : Int32) (hg : (f_Mo_head K mo depth) ≠ none) : cXi l y_Mo_head c_Mo_head 3 .int (fr0 + 8) (lo0 + 123) (dC, dI) cI cZ sa rk hm ma mo sz [.ref hm, .int depth] (f_Mo_head K mo depth) := by
  refine vx_ofW (cc := c_Mo_head) (maxL := 3) (ret := (some .int)) (by decide) rfl ?_
  intro p e s m args below meth c s₁ B hml hnt hv
  obtain ⟨rfl, hsz, hP, hK, hD0, hC, hZ⟩ := hv
  have hx := B.exec
  have hb := B.bytes
  have hr := B.returns
  have hts0 := atoms_spec (ws := wy y_Mo_head c_Mo_head 3 (some .int)) B.pre
  have hts := htsL hts0
  have hown : s.vm.findClass R_Mo = some m.cls := findClass_of_methodNamed B.named
  have hlocks := B.notSynchronized
  subst hsz
  have hD := hD0.self (sz := s.heap.size)
  generalize hAe : va_A (wM cI cZ hm ma mo) s.heap.size = A at hD hZ ⊢
  have hA : ∀ q : Nat, s.heap.size ≤ q → A q := fun q h => by rw [← hAe]; exact Or.inr h
  have hS : va_S A s.heap s.heap [] := va_S.rf
  have hl := lv_entry ([.ref hm, .int depth]) (n := 3) (Nat.le_of_ble_eq_true rfl)
  rw [lg_entry_eq]
  generalize (lg_sl ([.ref hm, .int depth]) ++ List.replicate (3 - (lg_sl ([.ref hm, .int depth])).length) Slot.unset).toArray = ls at hl ⊢
  have hl : lv_has ls 3 [(0, .ref hm), (1, .int depth)] := hl
  refine lv_aload_n hx hb d_Mo_head_0 rfl (lv_at hl 0 rfl) ?_
  refine lv_bipush (v := 60) hx hb d_Mo_head_1 (by decide) ?_
  refine mr_Vv (g := (f_Mo_expect mo 60)) (As := [.int 60]) (rest := []) ⟨hx, hb, hml, hown, hts0⟩ (m_Mo_expect l hlt dC dI cI cZ sa rk hm ma mo _ 60 (fun z => hg (by unfold f_Mo_head; rw [bndM_n z]))) hP hD hK hS hA hC hZ hnt hlocks L_1111 L_1113 L_68 L_90 L_1114 k_Mo_expect ⟨(by show _ ≤ fr0 + 8; omega), (by show _ ≤ lo0 + 123; omega)⟩ rfl rfl hl.1 (Nat.le_of_ble_eq_true rfl) d_Mo_head_3 rfl (fun q z => by unfold f_Mo_head; rw [bndM_l z]) (fun mo_1 H locs w_1 hP hD hS => ?_)
  refine lv_aload_n hx hb d_Mo_head_6 rfl (lv_at hl 0 rfl) ?_
  refine lv_iload_n hx hb d_Mo_head_7 rfl (lv_at hl 1 rfl) ?_
  refine lv_iconst (v := 1) hx hb d_Mo_head_8 (by decide) ?_
  refine lv_iadd hx hb d_Mo_head_9 ?_
  refine lv_iconst (v := 1) hx hb d_Mo_head_10 (by decide) ?_
  refine mr_Si (g := (K 0 [(depth + 1), 1] mo_1)) (As := [.ref hm, .int (depth + 1), .int 1]) (rest := []) ⟨hx, hb, hml, hown, hts0⟩ (hR0 mo_1 _ (depth + 1) 1 (fun z => hg (by unfold f_Mo_head; rw [bndM_r w_1, bndM_n z]))) hP hD hK hS hA hC hZ hnt hlocks L_1135 L_1136 L_90 L_1137 k_Mo_expression ⟨(by show _ ≤ fr0 + 8; omega), (by show _ ≤ lo0 + 123; omega)⟩ rfl rfl hl.1 (Nat.le_of_ble_eq_true rfl) d_Mo_head_11 rfl (fun q z => by unfold f_Mo_head; rw [bndM_r w_1, bndM_l z]) (fun r_2 mo_2 H locs w_2 hP hD hS => ?_)
  refine lv_istore_n (lv' := [(2, .int r_2), (0, .ref hm), (1, .int depth)]) hx hb d_Mo_head_14 rfl hl (by decide) rfl (fun ls hl => ?_)
  refine lv_aload_n hx hb d_Mo_head_15 rfl (lv_at hl 1 rfl) ?_
  refine lv_bipush (v := 61) hx hb d_Mo_head_16 (by decide) ?_
  refine mr_Vv (g := (f_Mo_expect mo_2 61)) (As := [.int 61]) (rest := []) ⟨hx, hb, hml, hown, hts0⟩ (m_Mo_expect l hlt dC dI cI cZ sa rk hm ma mo_2 _ 61 (fun z => hg (by unfold f_Mo_head; rw [bndM_r w_1, bndM_r w_2, bndM_n z]))) hP hD hK hS hA hC hZ hnt hlocks L_1111 L_1113 L_68 L_90 L_1114 k_Mo_expect ⟨(by show _ ≤ fr0 + 8; omega), (by show _ ≤ lo0 + 123; omega)⟩ rfl rfl hl.1 (Nat.le_of_ble_eq_true rfl) d_Mo_head_18 rfl (fun q z => by unfold f_Mo_head; rw [bndM_r w_1, bndM_r w_2, bndM_l z]) (fun mo_3 H locs w_3 hP hD hS => ?_)
  refine lv_iload_n hx hb d_Mo_head_21 rfl (lv_at hl 0 rfl) ?_
  exact mr_iret (v := r_2) (mo := mo_3) hx hb hr hlocks hK hP hD hS (by unfold f_Mo_head; rw [bndM_r w_1, bndM_r w_2, bndM_r w_3]) d_Mo_head_22
def f_Mo_block_L24 (K : Nat → List Int32 → MO → Rm) (depth : Int32) (e3 : Int32) : Nat → MO → Rm
  | 0, _ => none
  | fu_4 + 1, sx_4 => (bndM (f_Mo_isSign sx_4 65) (fun r_5 mo_5 => (if r_5 = 0 then (bndM (K 5 [(depth + 1), (q_labels mo_5)] mo_5) (fun r_7 mo_7 => (bndM (f_Mo_hang mo_7 e3 r_7) (fun _ mo_8 => (f_Mo_block_L24 K depth e3 fu_4  mo_8))))) else (some (.inr (0, mo_5))))))
def f_Mo_block (K : Nat → List Int32 → MO → Rm) (mo : MO) (depth : Int32) : Rm := (bndM (f_Mo_deep mo depth) (fun _ mo_1 => (bndM (f_Mo_expect mo_1 64) (fun _ mo_2 => (bndM (f_Mo_make mo_2 1 0 (q_at mo_1)) (fun r_3 mo_3 => (bndM (f_Mo_block_L24 K depth r_3 5000  mo_3) (fun _ se_4 => (some (.inr (r_3, (s_at se_4 ((q_at se_4) + 1)))))))))))))
set_option maxRecDepth 100000 in
set_option maxHeartbeats 4000000 in
theorem m_Mo_block (l : Launch) (hlt : l.stackTraces = false) (dC : Nat → ClassId) (dI : Nat → Nat → Nat) (cI cZ : ClassId) (sa rk hm : Nat) (ma : Nat → Nat) (fr0 lo0 : Nat) (K : Nat → List Int32 → MO → Rm) (hR0 : ∀ (mo : MO) (sz : Nat) (p0 p1 : Int32), K 0 [p0, p1] mo ≠ none → cXi l y_Mo_expression c_Mo_expression 5 .int fr0 lo0 (dC, dI) cI cZ sa rk hm ma mo sz [.ref hm, .int p0, .int p1] (K 0 [p0, p1] mo)) (hR1 : ∀ (mo : MO) (sz : Nat) (p0 p1 : Int32), K 1 [p0, p1] mo ≠ none → cXi l y_Mo_assignment c_Mo_assignment 5 .int fr0 lo0 (dC, dI) cI cZ sa rk hm ma mo sz [.ref hm, .int p0, .int p1] (K 1 [p0, p1] mo)) (hR2 : ∀ (mo : MO) (sz : Nat) (p0 p1 p2 : Int32), K 2 [p0, p1, p2] mo ≠ none → cXi l y_Mo_binary c_Mo_binary 7 .int fr0 lo0 (dC, dI) cI cZ sa rk hm ma mo sz [.ref hm, .int p0, .int p1, .int p2] (K 2 [p0, p1, p2] mo)) (hR3 : ∀ (mo : MO) (sz : Nat) (p0 : Int32), K 3 [p0] mo ≠ none → cXi l y_Mo_unary c_Mo_unary 5 .int fr0 lo0 (dC, dI) cI cZ sa rk hm ma mo sz [.ref hm, .int p0] (K 3 [p0] mo)) (hR4 : ∀ (mo : MO) (sz : Nat) (p0 p1 : Int32), K 4 [p0, p1] mo ≠ none → cXi l y_Mo_member c_Mo_member 6 .int fr0 lo0 (dC, dI) cI cZ sa rk hm ma mo sz [.ref hm, .int p0, .int p1] (K 4 [p0, p1] mo)) (hR5 : ∀ (mo : MO) (sz : Nat) (p0 p1 : Int32), K 5 [p0, p1] mo ≠ none → cXi l y_Mo_statement c_Mo_statement 3 .int fr0 lo0 (dC, dI) cI cZ sa rk hm ma mo sz [.ref hm, .int p0, .int p1] (K 5 [p0, p1] mo)) (hR6 : ∀ (mo : MO) (sz : Nat) (p0 p1 p2 : Int32), K 6 [p0, p1, p2] mo ≠ none → cXv l y_Mo_statements c_Mo_statements 8 fr0 lo0 (dC, dI) cI cZ sa rk hm ma mo sz [.ref hm, .int p0, .int p1, .int p2] (K 6 [p0, p1, p2] mo)) (hR7 : ∀ (mo : MO) (sz : Nat) (p0 : Int32), K 7 [p0] mo ≠ none → cXi l y_Mo_block c_Mo_block 4 .int fr0 lo0 (dC, dI) cI cZ sa rk hm ma mo sz [.ref hm, .int p0] (K 7 [p0] mo)) (mo : MO) (sz : Nat) (depth : Int32) (hg : (f_Mo_block K mo depth) ≠ none) : cXi l y_Mo_block c_Mo_block 4 .int (fr0 + 8) (lo0 + 123) (dC, dI) cI cZ sa rk hm ma mo sz [.ref hm, .int depth] (f_Mo_block K mo depth) := by
  refine vx_ofW (cc := c_Mo_block) (maxL := 4) (ret := (some .int)) (by decide) rfl ?_
  intro p e s m args below meth c s₁ B hml hnt hv
  obtain ⟨rfl, hsz, hP, hK, hD0, hC, hZ⟩ := hv
  have hx := B.exec
  have hb := B.bytes
  have hr := B.returns
  have hts0 := atoms_spec (ws := wy y_Mo_block c_Mo_block 4 (some .int)) B.pre
  have hts := htsL hts0
  have hown : s.vm.findClass R_Mo = some m.cls := findClass_of_methodNamed B.named
  have hlocks := B.notSynchronized
  subst hsz
  have hD := hD0.self (sz := s.heap.size)
  generalize hAe : va_A (wM cI cZ hm ma mo) s.heap.size = A at hD hZ ⊢
  have hA : ∀ q : Nat, s.heap.size ≤ q → A q := fun q h => by rw [← hAe]; exact Or.inr h
  have hS : va_S A s.heap s.heap [] := va_S.rf
  have hl := lv_entry ([.ref hm, .int depth]) (n := 4) (Nat.le_of_ble_eq_true rfl)
  rw [lg_entry_eq]
  generalize (lg_sl ([.ref hm, .int depth]) ++ List.replicate (4 - (lg_sl ([.ref hm, .int depth])).length) Slot.unset).toArray = ls at hl ⊢
  have hl : lv_has ls 4 [(0, .ref hm), (1, .int depth)] := hl
  refine lv_aload_n hx hb d_Mo_block_0 rfl (lv_at hl 0 rfl) ?_
  refine lv_iload_n hx hb d_Mo_block_1 rfl (lv_at hl 1 rfl) ?_
  refine mr_Vv (g := (f_Mo_deep mo depth)) (As := [.int depth]) (rest := []) ⟨hx, hb, hml, hown, hts0⟩ (m_Mo_deep l hlt dC dI cI cZ sa rk hm ma mo _ depth (fun z => hg (by unfold f_Mo_block; rw [bndM_n z]))) hP hD hK hS hA hC hZ hnt hlocks L_1068 L_1070 L_63 L_90 L_1071 k_Mo_deep ⟨(by show _ ≤ fr0 + 8; omega), (by show _ ≤ lo0 + 123; omega)⟩ rfl rfl hl.1 (Nat.le_of_ble_eq_true rfl) d_Mo_block_2 rfl (fun q z => by unfold f_Mo_block; rw [bndM_l z]) (fun mo_1 H locs w_1 hP hD hS => ?_)
  refine lv_aload_n hx hb d_Mo_block_5 rfl (lv_at hl 0 rfl) ?_
  refine va_get (D := (dC, dI)) (ci := 6) (v := .int (q_at mo_1)) (C := R_Mo) (T := T_Mo) (N := 31) hx hb hts u_Mo hown hK hP 0 rfl rfl 6 (by decide) (hts _ L_927) (fun _ h9 => h9) rfl d_Mo_block_6 ?_
  refine lv_istore_n (lv' := [(2, .int (q_at mo_1)), (0, .ref hm), (1, .int depth)]) hx hb d_Mo_block_9 rfl hl (by decide) rfl (fun ls hl => ?_)
  refine lv_aload_n hx hb d_Mo_block_10 rfl (lv_at hl 1 rfl) ?_
  refine lv_bipush (v := 64) hx hb d_Mo_block_11 (by decide) ?_
  refine mr_Vv (g := (f_Mo_expect mo_1 64)) (As := [.int 64]) (rest := []) ⟨hx, hb, hml, hown, hts0⟩ (m_Mo_expect l hlt dC dI cI cZ sa rk hm ma mo_1 _ 64 (fun z => hg (by unfold f_Mo_block; rw [bndM_r w_1, bndM_n z]))) hP hD hK hS hA hC hZ hnt hlocks L_1111 L_1113 L_68 L_90 L_1114 k_Mo_expect ⟨(by show _ ≤ fr0 + 8; omega), (by show _ ≤ lo0 + 123; omega)⟩ rfl rfl hl.1 (Nat.le_of_ble_eq_true rfl) d_Mo_block_13 rfl (fun q z => by unfold f_Mo_block; rw [bndM_r w_1, bndM_l z]) (fun mo_2 H locs w_2 hP hD hS => ?_)
  refine lv_aload_n hx hb d_Mo_block_16 rfl (lv_at hl 1 rfl) ?_
  refine lv_iconst (v := 1) hx hb d_Mo_block_17 (by decide) ?_
  refine lv_iconst (v := 0) hx hb d_Mo_block_18 (by decide) ?_
  refine lv_iload_n hx hb d_Mo_block_19 rfl (lv_at hl 0 rfl) ?_
  refine mr_Vi (g := (f_Mo_make mo_2 1 0 (q_at mo_1))) (As := [.int 1, .int 0, .int (q_at mo_1)]) (rest := []) ⟨hx, hb, hml, hown, hts0⟩ (m_Mo_make l hlt dC dI cI cZ sa rk hm ma mo_2 _ 1 0 (q_at mo_1) (fun z => hg (by unfold f_Mo_block; rw [bndM_r w_1, bndM_r w_2, bndM_n z]))) hP hD hK hS hA hC hZ hnt hlocks L_1046 L_1048 L_59 L_90 L_1049 k_Mo_make ⟨(by show _ ≤ fr0 + 8; omega), (by show _ ≤ lo0 + 123; omega)⟩ rfl rfl hl.1 (Nat.le_of_ble_eq_true rfl) d_Mo_block_20 rfl (fun q z => by unfold f_Mo_block; rw [bndM_r w_1, bndM_r w_2, bndM_l z]) (fun r_3 mo_3 H locs w_3 hP hD hS => ?_)
  refine lv_istore_n (lv' := [(3, .int r_3), (2, .int (q_at mo_1)), (0, .ref hm), (1, .int depth)]) hx hb d_Mo_block_23 rfl hl (by decide) rfl (fun ls hl => ?_)
  obtain ⟨x_4, hx_4⟩ : ∃ z, f_Mo_block_L24 K depth r_3 5000  mo_3 = z := ⟨_, rfl⟩
  have hn_4 : x_4 ≠ none := (fun z => hg (by unfold f_Mo_block; rw [bndM_r w_1, bndM_r w_2, bndM_r w_3, bndM_n (hx_4.trans z)]))
  have hX_4 : ∀ q, x_4 = some (.inl q) → (f_Mo_block K mo depth) = some (.inl q) := (fun q z => by unfold f_Mo_block; rw [bndM_r w_1, bndM_r w_2, bndM_r w_3, bndM_l (hx_4.trans z)])
  have lp_4 : ∀ (fu : Nat) (sx_4 : MO) (H : Heap) (locs : List Loc) (ls : Array Slot), va_P (dC, dI) cls (wM cI cZ hm ma sx_4) H → va_D A (wM cI cZ hm ma sx_4) → va_S A s.heap H locs → lv_has ls 4 [(0, .ref hm), (1, .int depth), (2, .int (q_at mo_1)), (3, .int r_3)] → x_4 = f_Mo_block_L24 K depth r_3 fu  sx_4 → W p l e (headSpec (wy y_Mo_block c_Mo_block 4 (some .int)) { frames := (fr0 + 8), cells := 1, slots := 6, locals := (lo0 + 123) }).room s m [.ref hm, .int depth].toArray below meth c H locs 0 0 (vx_MQ below (va_Qi (fun r (u : MO) => (f_Mo_block K mo depth) = some (.inr (r, u))) (wB (dC, dI) cI cZ A (wM cI cZ hm ma)) A) (xM (dC, dI) cI cZ hm ma (f_Mo_block K mo depth) A) [.ref hm, .int depth].toArray s (mcM (f_Mo_block K mo depth)) (msM (f_Mo_block K mo depth)) A) (F0 m 24 ls []) := by
    intro fu
    induction fu with
    | zero => intro  sx_4 H locs ls hP hD hS hl hL_4; exact absurd (hL_4.trans rfl) hn_4
    | succ fu_4 ih_4 =>
      intro  sx_4 H locs ls hP hD hS hl hL_4
      rw [f_Mo_block_L24] at hL_4
      refine lv_aload_n hx hb d_Mo_block_24 rfl (lv_at hl 0 rfl) ?_
      refine lv_bipush (v := 65) hx hb d_Mo_block_25 (by decide) ?_
      refine mr_Vi (g := (f_Mo_isSign sx_4 65)) (As := [.int 65]) (rest := []) ⟨hx, hb, hml, hown, hts0⟩ (m_Mo_isSign l hlt dC dI cI cZ sa rk hm ma sx_4 _ 65 (fun z => hn_4 (hL_4.trans (bndM_n z)))) hP hD hK hS hA hC hZ hnt hlocks L_1053 L_1055 L_60 L_90 L_1056 k_Mo_isSign ⟨(by show _ ≤ fr0 + 8; omega), (by show _ ≤ lo0 + 123; omega)⟩ rfl rfl hl.1 (Nat.le_of_ble_eq_true rfl) d_Mo_block_27 rfl (fun q z => hX_4 q (hL_4.trans (bndM_l z))) (fun r_5 mo_5 H locs w_5 hP hD hS => ?_)
      rw [bndM_r w_5] at hL_4
      refine lv_if_ne (tgt := 52) hx hb d_Mo_block_30 (by decide) (fun c_6 => ?_) (fun c_6 => ?_)
      · rw [if_neg c_6] at hL_4
        obtain ⟨se_4, hse_4⟩ : ∃ z : MO, z = mo_5 := ⟨_, rfl⟩
        have hP : va_P (dC, dI) cls (wM cI cZ hm ma se_4) H := by rw [hse_4]; exact hP
        have hD : va_D A (wM cI cZ hm ma se_4) := by rw [hse_4]; exact hD
        have we_4 : f_Mo_block_L24 K depth r_3 5000  mo_3 = some (.inr (0, se_4)) := by rw [hse_4]; exact hx_4.trans hL_4
        have hl := lv_sub hl (l' := [(0, .ref hm), (1, .int depth), (2, .int (q_at mo_1)), (3, .int r_3)]) [0, 1, 2, 3] rfl
        refine lv_aload_n hx hb d_Mo_block_52 rfl (lv_at hl 0 rfl) ?_
        refine lv_dup hx hb d_Mo_block_53 rfl ?_
        refine va_get (D := (dC, dI)) (ci := 6) (v := .int (q_at se_4)) (C := R_Mo) (T := T_Mo) (N := 31) hx hb hts u_Mo hown hK hP 0 rfl rfl 6 (by decide) (hts _ L_927) (fun _ h9 => h9) rfl d_Mo_block_54 ?_
        refine lv_iconst (v := 1) hx hb d_Mo_block_57 (by decide) ?_
        refine lv_iadd hx hb d_Mo_block_58 ?_
        refine va_put (D := (dC, dI)) (ci := 6) (v := .int ((q_at se_4) + 1)) (ty := .int) (C := R_Mo) (T := T_Mo) (N := 31) hx hb hts u_Mo ty_Mo tk_Mo nm_Mo hown hK hP hD hS 0 rfl rfl 6 (by decide) (hts _ L_927) (fun _ h9 => h9) rfl (by decide +kernel) rfl rfl (Nat.le_of_ble_eq_true rfl) d_Mo_block_59 (fun H locs hP hD hS => ?_)
        have hP : va_P (dC, dI) cls (wM cI cZ hm ma (s_at se_4 ((q_at se_4) + 1))) H := hP
        have hD : va_D A (wM cI cZ hm ma (s_at se_4 ((q_at se_4) + 1))) := hD
        refine lv_iload_n hx hb d_Mo_block_62 rfl (lv_at hl 3 rfl) ?_
        exact mr_iret (v := r_3) (mo := (s_at se_4 ((q_at se_4) + 1))) hx hb hr hlocks hK hP hD hS (by unfold f_Mo_block; rw [bndM_r w_1, bndM_r w_2, bndM_r w_3, bndM_r we_4]) d_Mo_block_63
      · rw [if_pos c_6] at hL_4
        refine lv_aload_n hx hb d_Mo_block_33 rfl (lv_at hl 0 rfl) ?_
        refine lv_iload_n hx hb d_Mo_block_34 rfl (lv_at hl 3 rfl) ?_
        refine lv_aload_n hx hb d_Mo_block_35 rfl (lv_at hl 0 rfl) ?_
        refine lv_iload_n hx hb d_Mo_block_36 rfl (lv_at hl 1 rfl) ?_
        refine lv_iconst (v := 1) hx hb d_Mo_block_37 (by decide) ?_
        refine lv_iadd hx hb d_Mo_block_38 ?_
        refine lv_aload_n hx hb d_Mo_block_39 rfl (lv_at hl 0 rfl) ?_
        refine va_get (D := (dC, dI)) (ci := 6) (v := .int (q_labels mo_5)) (C := R_Mo) (T := T_Mo) (N := 31) hx hb hts u_Mo hown hK hP 0 rfl rfl 22 (by decide) (hts _ L_943) (fun _ h9 => h9) rfl d_Mo_block_40 ?_
        refine mr_Si (g := (K 5 [(depth + 1), (q_labels mo_5)] mo_5)) (As := [.ref hm, .int (depth + 1), .int (q_labels mo_5)]) (rest := [.int r_3, .ref hm]) ⟨hx, hb, hml, hown, hts0⟩ (hR5 mo_5 _ (depth + 1) (q_labels mo_5) (fun z => hn_4 (hL_4.trans (bndM_n z)))) hP hD hK hS hA hC hZ hnt hlocks L_1122 L_1123 L_90 L_1124 k_Mo_statement ⟨(by show _ ≤ fr0 + 8; omega), (by show _ ≤ lo0 + 123; omega)⟩ rfl rfl hl.1 (Nat.le_of_ble_eq_true rfl) d_Mo_block_43 rfl (fun q z => hX_4 q (hL_4.trans (bndM_l z))) (fun r_7 mo_7 H locs w_7 hP hD hS => ?_)
        rw [bndM_r w_7] at hL_4
        refine mr_Vv (g := (f_Mo_hang mo_7 r_3 r_7)) (As := [.int r_3, .int r_7]) (rest := []) ⟨hx, hb, hml, hown, hts0⟩ (m_Mo_hang l hlt dC dI cI cZ sa rk hm ma mo_7 _ r_3 r_7 (fun z => hn_4 (hL_4.trans (bndM_n z)))) hP hD hK hS hA hC hZ hnt hlocks L_1115 L_1117 L_69 L_90 L_1118 k_Mo_hang ⟨(by show _ ≤ fr0 + 8; omega), (by show _ ≤ lo0 + 123; omega)⟩ rfl rfl hl.1 (Nat.le_of_ble_eq_true rfl) d_Mo_block_46 rfl (fun q z => hX_4 q (hL_4.trans (bndM_l z))) (fun mo_8 H locs w_8 hP hD hS => ?_)
        rw [bndM_r w_8] at hL_4
        refine lv_goto (tgt := 24) hx hb d_Mo_block_49 (by decide) ?_
        exact ih_4  mo_8 _ _ ls hP hD hS (lv_sub hl [0, 1, 2, 3] rfl) hL_4
  exact lp_4 5000  mo_3 _ _ ls hP hD hS (lv_sub hl [2, 3, 1, 0] rfl) hx_4.symm
