def f_Mo_numberAll_L124  : Nat → Int32 → MO → Rm
  | 0, _, _ => none
  | fu_4 + 1, x2, sx_4 => (if (q_nodes sx_4) ≤ x2 then (some (.inr (0, sx_4))) else (if inb x2 2600 then (if inb ((q_order sx_4) (x2 : Int32).toNatClampNeg) 2600 then (f_Mo_numberAll_L124 fu_4 (x2 + 1) (s_number sx_4 (upd (q_number sx_4) (((q_order sx_4) (x2 : Int32).toNatClampNeg) : Int32).toNatClampNeg x2))) else none) else none))
def f_Mo_numberAll_L84 (e1 : Int32) : Nat → Int32 → Int32 → MO → Rm
  | 0, _, _, _ => none
  | fu_13 + 1, x4, x5, sx_13 => (if x5 < 0 then (some (.inr (0, sx_13))) else (if inb (e1 + (x4 + (-1))) 2600 then (if inb x5 2600 then (f_Mo_numberAll_L84 e1 fu_13 (x4 + (-1)) ((q_next sx_13) (x5 : Int32).toNatClampNeg) (s_number sx_13 (upd (q_number sx_13) ((e1 + (x4 + (-1))) : Int32).toNatClampNeg x5))) else none) else none))
def f_Mo_numberAll_L53  : Nat → Int32 → Int32 → MO → Rm
  | 0, _, _, _ => none
  | fu_11 + 1, x3, x4, sx_11 => (if x4 < 0 then (some (.inr (x3, sx_11))) else (if inb x4 2600 then (f_Mo_numberAll_L53 fu_11 (x3 + 1) ((q_next sx_11) (x4 : Int32).toNatClampNeg) sx_11) else none))
def f_Mo_numberAll_L9  : Nat → Int32 → MO → Rm
  | 0, _, _ => none
  | fu_2 + 1, x1, sx_2 => (if x1 ≤ 0 then (some (.inr (0, sx_2))) else (if inb (x1 + (-1)) 2600 then (if inb (q_nodes sx_2) 2600 then (if inb ((q_number sx_2) ((x1 + (-1)) : Int32).toNatClampNeg) 2600 then (bndM (f_Mo_numberAll_L53 5000 0 ((q_first sx_2) (((q_number sx_2) ((x1 + (-1)) : Int32).toNatClampNeg) : Int32).toNatClampNeg) (s_nodes (s_order sx_2 (upd (q_order sx_2) ((q_nodes sx_2) : Int32).toNatClampNeg ((q_number sx_2) ((x1 + (-1)) : Int32).toNatClampNeg))) ((q_nodes sx_2) + 1))) (fun rv_11 se_11 => (bndM (f_Mo_numberAll_L84 (x1 + (-1)) 5000 rv_11 ((q_first se_11) (((q_number sx_2) ((x1 + (-1)) : Int32).toNatClampNeg) : Int32).toNatClampNeg) se_11) (fun _ se_13 => (f_Mo_numberAll_L9 fu_2 ((x1 + (-1)) + rv_11) se_13))))) else none) else none) else none))
def f_Mo_numberAll (mo : MO)  : Rm := (if inb 0 2600 then (bndM (f_Mo_numberAll_L9 5000 1 (s_number mo (upd (q_number mo) (0 : Int32).toNatClampNeg 0))) (fun _ se_2 => (bndM (f_Mo_numberAll_L124 5000 0 se_2) (fun _ se_4 => (some (.inr (0, se_4))))))) else none)
set_option maxRecDepth 100000 in
set_option maxHeartbeats 4000000 in
theorem m_Mo_numberAll (l : Launch) (hlt : l.stackTraces = false) (dC : Nat → ClassId) (dI : Nat → Nat → Nat) (cI cZ : ClassId) (sa rk hm : Nat) (ma : Nat → Nat)  (mo : MO) (sz : Nat)  (hg : (f_Mo_numberAll mo) ≠ none) : cXv l y_Mo_numberAll c_Mo_numberAll 6 (0) (0) (dC, dI) cI cZ sa rk hm ma mo sz [.ref hm] (f_Mo_numberAll mo) := by
  refine vx_ofW (cc := c_Mo_numberAll) (maxL := 6) (ret := none) (by decide) rfl ?_
  intro p e s m args below meth c s₁ B hml hnt hv
  obtain ⟨rfl, hsz, hP, hK, hD0, hC, hZ⟩ := hv
  have hx := B.exec
  have hb := B.bytes
  have hr := B.returns
  have hts0 := atoms_spec (ws := wy y_Mo_numberAll c_Mo_numberAll 6 none) B.pre
  have hts := htsL hts0
  have hown : s.vm.findClass R_Mo = some m.cls := findClass_of_methodNamed B.named
  have hlocks := B.notSynchronized
  subst hsz
  have hD := hD0.self (sz := s.heap.size)
  generalize hAe : va_A (wM cI cZ hm ma mo) s.heap.size = A at hD hZ ⊢
  have hA : ∀ q : Nat, s.heap.size ≤ q → A q := fun q h => by rw [← hAe]; exact Or.inr h
  have hS : va_S A s.heap s.heap [] := va_S.rf
  have hl := lv_entry ([.ref hm]) (n := 6) (Nat.le_of_ble_eq_true rfl)
  rw [lg_entry_eq]
  generalize (lg_sl ([.ref hm]) ++ List.replicate (6 - (lg_sl ([.ref hm])).length) Slot.unset).toArray = ls at hl ⊢
  have hl : lv_has ls 6 [(0, .ref hm)] := hl
  refine lv_iconst (v := 1) hx hb d_Mo_numberAll_0 (by decide) ?_
  refine lv_istore_n (lv' := [(1, .int 1), (0, .ref hm)]) hx hb d_Mo_numberAll_1 rfl hl (by decide) rfl (fun ls hl => ?_)
  refine lv_aload_n hx hb d_Mo_numberAll_2 rfl (lv_at hl 1 rfl) ?_
  refine va_get (D := (dC, dI)) (ci := 6) (v := .ref (ma 11)) (C := R_Mo) (T := T_Mo) (N := 31) hx hb hts u_Mo hown hK hP 0 rfl rfl 17 (by decide) (hts _ L_938) (fun _ h9 => h9) rfl d_Mo_numberAll_3 ?_
  refine lv_iconst (v := 0) hx hb d_Mo_numberAll_6 (by decide) ?_
  refine lv_iconst (v := 0) hx hb d_Mo_numberAll_7 (by decide) ?_
  by_cases cb_1 : inb 0 2600
  case neg => exact absurd (by unfold f_Mo_numberAll; rw [if_neg cb_1]) hg
  refine va_iast (D := (dC, dI)) hx hb hK hP hD hS 12 0 rfl rfl cb_1 d_Mo_numberAll_8 (fun H locs hP hD hS => ?_)
  have hP : va_P (dC, dI) cls (wM cI cZ hm ma (s_number mo (upd (q_number mo) (0 : Int32).toNatClampNeg 0))) H := hP
  have hD : va_D A (wM cI cZ hm ma (s_number mo (upd (q_number mo) (0 : Int32).toNatClampNeg 0))) := hD
  obtain ⟨x_2, hx_2⟩ : ∃ z, f_Mo_numberAll_L9 5000 1 (s_number mo (upd (q_number mo) (0 : Int32).toNatClampNeg 0)) = z := ⟨_, rfl⟩
  have hn_2 : x_2 ≠ none := (fun z => hg (by unfold f_Mo_numberAll; rw [if_pos cb_1, bndM_n (hx_2.trans z)]))
  have hX_2 : ∀ q, x_2 = some (.inl q) → (f_Mo_numberAll mo) = some (.inl q) := (fun q z => by unfold f_Mo_numberAll; rw [if_pos cb_1, bndM_l (hx_2.trans z)])
  have lp_2 : ∀ (fu : Nat) (x1 : Int32) (sx_2 : MO) (H : Heap) (locs : List Loc) (ls : Array Slot), va_P (dC, dI) cls (wM cI cZ hm ma sx_2) H → va_D A (wM cI cZ hm ma sx_2) → va_S A s.heap H locs → lv_has ls 6 [(0, .ref hm), (1, .int x1)] → x_2 = f_Mo_numberAll_L9 fu x1 sx_2 → W p l e (headSpec (wy y_Mo_numberAll c_Mo_numberAll 6 none) { frames := (0), cells := 1, slots := 6, locals := (0) }).room s m [.ref hm].toArray below meth c H locs 0 0 (vx_MQ below (va_Qv (fun u : MO => (f_Mo_numberAll mo) = some (.inr (0, u))) (wB (dC, dI) cI cZ A (wM cI cZ hm ma)) A) (xM (dC, dI) cI cZ hm ma (f_Mo_numberAll mo) A) [.ref hm].toArray s (mcM (f_Mo_numberAll mo)) (msM (f_Mo_numberAll mo)) A) (F0 m 9 ls []) := by
    intro fu
    induction fu with
    | zero => intro x1 sx_2 H locs ls hP hD hS hl hL_2; exact absurd (hL_2.trans rfl) hn_2
    | succ fu_2 ih_2 =>
      intro x1 sx_2 H locs ls hP hD hS hl hL_2
      rw [f_Mo_numberAll_L9] at hL_2
      refine lv_iload_n hx hb d_Mo_numberAll_9 rfl (lv_at hl 1 rfl) ?_
      refine lv_if_le (tgt := 122) hx hb d_Mo_numberAll_10 (by decide) (fun c_3 => ?_) (fun c_3 => ?_)
      · rw [if_pos c_3] at hL_2
        obtain ⟨se_2, hse_2⟩ : ∃ z : MO, z = sx_2 := ⟨_, rfl⟩
        have hP : va_P (dC, dI) cls (wM cI cZ hm ma se_2) H := by rw [hse_2]; exact hP
        have hD : va_D A (wM cI cZ hm ma se_2) := by rw [hse_2]; exact hD
        have we_2 : f_Mo_numberAll_L9 5000 1 (s_number mo (upd (q_number mo) (0 : Int32).toNatClampNeg 0)) = some (.inr (0, se_2)) := by rw [hse_2]; exact hx_2.trans hL_2
        have hl := lv_sub hl (l' := [(0, .ref hm)]) [0] rfl
        refine lv_iconst (v := 0) hx hb d_Mo_numberAll_122 (by decide) ?_
        refine lv_istore_n (lv' := [(2, .int 0), (0, .ref hm)]) hx hb d_Mo_numberAll_123 rfl hl (by decide) rfl (fun ls hl => ?_)
        obtain ⟨x_4, hx_4⟩ : ∃ z, f_Mo_numberAll_L124 5000 0 se_2 = z := ⟨_, rfl⟩
        have hn_4 : x_4 ≠ none := (fun z => hg (by unfold f_Mo_numberAll; rw [if_pos cb_1, bndM_r we_2, bndM_n (hx_4.trans z)]))
        have hX_4 : ∀ q, x_4 = some (.inl q) → (f_Mo_numberAll mo) = some (.inl q) := (fun q z => by unfold f_Mo_numberAll; rw [if_pos cb_1, bndM_r we_2, bndM_l (hx_4.trans z)])
        have lp_4 : ∀ (fu : Nat) (x2 : Int32) (sx_4 : MO) (H : Heap) (locs : List Loc) (ls : Array Slot), va_P (dC, dI) cls (wM cI cZ hm ma sx_4) H → va_D A (wM cI cZ hm ma sx_4) → va_S A s.heap H locs → lv_has ls 6 [(0, .ref hm), (2, .int x2)] → x_4 = f_Mo_numberAll_L124 fu x2 sx_4 → W p l e (headSpec (wy y_Mo_numberAll c_Mo_numberAll 6 none) { frames := (0), cells := 1, slots := 6, locals := (0) }).room s m [.ref hm].toArray below meth c H locs 0 0 (vx_MQ below (va_Qv (fun u : MO => (f_Mo_numberAll mo) = some (.inr (0, u))) (wB (dC, dI) cI cZ A (wM cI cZ hm ma)) A) (xM (dC, dI) cI cZ hm ma (f_Mo_numberAll mo) A) [.ref hm].toArray s (mcM (f_Mo_numberAll mo)) (msM (f_Mo_numberAll mo)) A) (F0 m 124 ls []) := by
          intro fu
          induction fu with
          | zero => intro x2 sx_4 H locs ls hP hD hS hl hL_4; exact absurd (hL_4.trans rfl) hn_4
          | succ fu_4 ih_4 =>
            intro x2 sx_4 H locs ls hP hD hS hl hL_4
            rw [f_Mo_numberAll_L124] at hL_4
            refine lv_iload_n hx hb d_Mo_numberAll_124 rfl (lv_at hl 1 rfl) ?_
            refine lv_aload_n hx hb d_Mo_numberAll_125 rfl (lv_at hl 0 rfl) ?_
            refine va_get (D := (dC, dI)) (ci := 6) (v := .int (q_nodes sx_4)) (C := R_Mo) (T := T_Mo) (N := 31) hx hb hts u_Mo hown hK hP 0 rfl rfl 15 (by decide) (hts _ L_936) (fun _ h9 => h9) rfl d_Mo_numberAll_126 ?_
            refine lv_icmp_ge (tgt := 150) hx hb d_Mo_numberAll_129 (by decide) (fun c_5 => ?_) (fun c_5 => ?_)
            · rw [if_pos c_5] at hL_4
              obtain ⟨se_4, hse_4⟩ : ∃ z : MO, z = sx_4 := ⟨_, rfl⟩
              have hP : va_P (dC, dI) cls (wM cI cZ hm ma se_4) H := by rw [hse_4]; exact hP
              have hD : va_D A (wM cI cZ hm ma se_4) := by rw [hse_4]; exact hD
              have we_4 : f_Mo_numberAll_L124 5000 0 se_2 = some (.inr (0, se_4)) := by rw [hse_4]; exact hx_4.trans hL_4
              have hl := lv_sub hl (l' := [(0, .ref hm)]) [0] rfl
              exact mr_vret (mo := se_4) hx hb hr hlocks hK hP hD hS (by unfold f_Mo_numberAll; rw [if_pos cb_1, bndM_r we_2, bndM_r we_4]) d_Mo_numberAll_150
            · rw [if_neg c_5] at hL_4
              refine lv_aload_n hx hb d_Mo_numberAll_132 rfl (lv_at hl 0 rfl) ?_
              refine va_get (D := (dC, dI)) (ci := 6) (v := .ref (ma 11)) (C := R_Mo) (T := T_Mo) (N := 31) hx hb hts u_Mo hown hK hP 0 rfl rfl 17 (by decide) (hts _ L_938) (fun _ h9 => h9) rfl d_Mo_numberAll_133 ?_
              refine lv_aload_n hx hb d_Mo_numberAll_136 rfl (lv_at hl 0 rfl) ?_
              refine va_get (D := (dC, dI)) (ci := 6) (v := .ref (ma 10)) (C := R_Mo) (T := T_Mo) (N := 31) hx hb hts u_Mo hown hK hP 0 rfl rfl 16 (by decide) (hts _ L_937) (fun _ h9 => h9) rfl d_Mo_numberAll_137 ?_
              refine lv_iload_n hx hb d_Mo_numberAll_140 rfl (lv_at hl 1 rfl) ?_
              by_cases cb_6 : inb x2 2600
              case neg => exact absurd (hL_4.trans (if_neg cb_6)) hn_4
              rw [if_pos cb_6] at hL_4
              refine va_iald (D := (dC, dI)) hx hb hK hP 11 0 rfl rfl cb_6 d_Mo_numberAll_141 ?_
              refine lv_iload_n hx hb d_Mo_numberAll_142 rfl (lv_at hl 1 rfl) ?_
              by_cases cb_7 : inb ((q_order sx_4) (x2 : Int32).toNatClampNeg) 2600
              case neg => exact absurd (hL_4.trans (if_neg cb_7)) hn_4
              rw [if_pos cb_7] at hL_4
              refine va_iast (D := (dC, dI)) hx hb hK hP hD hS 12 0 rfl rfl cb_7 d_Mo_numberAll_143 (fun H locs hP hD hS => ?_)
              have hP : va_P (dC, dI) cls (wM cI cZ hm ma (s_number sx_4 (upd (q_number sx_4) (((q_order sx_4) (x2 : Int32).toNatClampNeg) : Int32).toNatClampNeg x2))) H := hP
              have hD : va_D A (wM cI cZ hm ma (s_number sx_4 (upd (q_number sx_4) (((q_order sx_4) (x2 : Int32).toNatClampNeg) : Int32).toNatClampNeg x2))) := hD
              refine lv_iinc (v := (x2 + 1)) (lv' := [(2, .int (x2 + 1)), (0, .ref hm)]) hx hb d_Mo_numberAll_144 hl (k := 1) rfl rfl (by decide) rfl (fun ls hl => ?_)
              refine lv_goto (tgt := 124) hx hb d_Mo_numberAll_147 (by decide) ?_
              exact ih_4 (x2 + 1) (s_number sx_4 (upd (q_number sx_4) (((q_order sx_4) (x2 : Int32).toNatClampNeg) : Int32).toNatClampNeg x2)) _ _ ls hP hD hS (lv_sub hl [1, 0] rfl) hL_4
        exact lp_4 5000 0 se_2 _ _ ls hP hD hS (lv_sub hl [1, 0] rfl) hx_4.symm
      · rw [if_neg c_3] at hL_2
        refine lv_iinc (v := (x1 + (-1))) (lv' := [(1, .int (x1 + (-1))), (0, .ref hm)]) hx hb d_Mo_numberAll_13 hl (k := 1) rfl rfl (by decide) rfl (fun ls hl => ?_)
        refine lv_aload_n hx hb d_Mo_numberAll_16 rfl (lv_at hl 1 rfl) ?_
        refine va_get (D := (dC, dI)) (ci := 6) (v := .ref (ma 11)) (C := R_Mo) (T := T_Mo) (N := 31) hx hb hts u_Mo hown hK hP 0 rfl rfl 17 (by decide) (hts _ L_938) (fun _ h9 => h9) rfl d_Mo_numberAll_17 ?_
        refine lv_iload_n hx hb d_Mo_numberAll_20 rfl (lv_at hl 0 rfl) ?_
        by_cases cb_8 : inb (x1 + (-1)) 2600
        case neg => exact absurd (hL_2.trans (if_neg cb_8)) hn_2
        rw [if_pos cb_8] at hL_2
        refine va_iald (D := (dC, dI)) hx hb hK hP 12 0 rfl rfl cb_8 d_Mo_numberAll_21 ?_
        refine lv_istore_n (lv' := [(2, .int ((q_number sx_2) ((x1 + (-1)) : Int32).toNatClampNeg)), (1, .int (x1 + (-1))), (0, .ref hm)]) hx hb d_Mo_numberAll_22 rfl hl (by decide) rfl (fun ls hl => ?_)
        refine lv_aload_n hx hb d_Mo_numberAll_23 rfl (lv_at hl 2 rfl) ?_
        refine va_get (D := (dC, dI)) (ci := 6) (v := .ref (ma 10)) (C := R_Mo) (T := T_Mo) (N := 31) hx hb hts u_Mo hown hK hP 0 rfl rfl 16 (by decide) (hts _ L_937) (fun _ h9 => h9) rfl d_Mo_numberAll_24 ?_
        refine lv_aload_n hx hb d_Mo_numberAll_27 rfl (lv_at hl 2 rfl) ?_
        refine va_get (D := (dC, dI)) (ci := 6) (v := .int (q_nodes sx_2)) (C := R_Mo) (T := T_Mo) (N := 31) hx hb hts u_Mo hown hK hP 0 rfl rfl 15 (by decide) (hts _ L_936) (fun _ h9 => h9) rfl d_Mo_numberAll_28 ?_
        refine lv_iload_n hx hb d_Mo_numberAll_31 rfl (lv_at hl 0 rfl) ?_
        by_cases cb_9 : inb (q_nodes sx_2) 2600
        case neg => exact absurd (hL_2.trans (if_neg cb_9)) hn_2
        rw [if_pos cb_9] at hL_2
        refine va_iast (D := (dC, dI)) hx hb hK hP hD hS 11 0 rfl rfl cb_9 d_Mo_numberAll_32 (fun H locs hP hD hS => ?_)
        have hP : va_P (dC, dI) cls (wM cI cZ hm ma (s_order sx_2 (upd (q_order sx_2) ((q_nodes sx_2) : Int32).toNatClampNeg ((q_number sx_2) ((x1 + (-1)) : Int32).toNatClampNeg)))) H := hP
        have hD : va_D A (wM cI cZ hm ma (s_order sx_2 (upd (q_order sx_2) ((q_nodes sx_2) : Int32).toNatClampNeg ((q_number sx_2) ((x1 + (-1)) : Int32).toNatClampNeg)))) := hD
        refine lv_aload_n hx hb d_Mo_numberAll_33 rfl (lv_at hl 2 rfl) ?_
        refine lv_dup hx hb d_Mo_numberAll_34 rfl ?_
        refine va_get (D := (dC, dI)) (ci := 6) (v := .int (q_nodes sx_2)) (C := R_Mo) (T := T_Mo) (N := 31) hx hb hts u_Mo hown hK hP 0 rfl rfl 15 (by decide) (hts _ L_936) (fun _ h9 => h9) rfl d_Mo_numberAll_35 ?_
        refine lv_iconst (v := 1) hx hb d_Mo_numberAll_38 (by decide) ?_
        refine lv_iadd hx hb d_Mo_numberAll_39 ?_
        refine va_put (D := (dC, dI)) (ci := 6) (v := .int ((q_nodes sx_2) + 1)) (ty := .int) (C := R_Mo) (T := T_Mo) (N := 31) hx hb hts u_Mo ty_Mo tk_Mo nm_Mo hown hK hP hD hS 0 rfl rfl 15 (by decide) (hts _ L_936) (fun _ h9 => h9) rfl (by decide +kernel) rfl rfl (Nat.le_of_ble_eq_true rfl) d_Mo_numberAll_40 (fun H locs hP hD hS => ?_)
        have hP : va_P (dC, dI) cls (wM cI cZ hm ma (s_nodes (s_order sx_2 (upd (q_order sx_2) ((q_nodes sx_2) : Int32).toNatClampNeg ((q_number sx_2) ((x1 + (-1)) : Int32).toNatClampNeg))) ((q_nodes sx_2) + 1))) H := hP
        have hD : va_D A (wM cI cZ hm ma (s_nodes (s_order sx_2 (upd (q_order sx_2) ((q_nodes sx_2) : Int32).toNatClampNeg ((q_number sx_2) ((x1 + (-1)) : Int32).toNatClampNeg))) ((q_nodes sx_2) + 1))) := hD
        refine lv_iconst (v := 0) hx hb d_Mo_numberAll_43 (by decide) ?_
        refine lv_istore_n (lv' := [(3, .int 0), (2, .int ((q_number sx_2) ((x1 + (-1)) : Int32).toNatClampNeg)), (1, .int (x1 + (-1))), (0, .ref hm)]) hx hb d_Mo_numberAll_44 rfl hl (by decide) rfl (fun ls hl => ?_)
        refine lv_aload_n hx hb d_Mo_numberAll_45 rfl (lv_at hl 3 rfl) ?_
        refine va_get (D := (dC, dI)) (ci := 6) (v := .ref (ma 7)) (C := R_Mo) (T := T_Mo) (N := 31) hx hb hts u_Mo hown hK hP 0 rfl rfl 12 (by decide) (hts _ L_933) (fun _ h9 => h9) rfl d_Mo_numberAll_46 ?_
        refine lv_iload_n hx hb d_Mo_numberAll_49 rfl (lv_at hl 1 rfl) ?_
        by_cases cb_10 : inb ((q_number sx_2) ((x1 + (-1)) : Int32).toNatClampNeg) 2600
        case neg => exact absurd (hL_2.trans (if_neg cb_10)) hn_2
        rw [if_pos cb_10] at hL_2
        refine va_iald (D := (dC, dI)) hx hb hK hP 8 0 rfl rfl cb_10 d_Mo_numberAll_50 ?_
        refine lv_istore (lv' := [(4, .int ((q_first sx_2) (((q_number sx_2) ((x1 + (-1)) : Int32).toNatClampNeg) : Int32).toNatClampNeg)), (3, .int 0), (2, .int ((q_number sx_2) ((x1 + (-1)) : Int32).toNatClampNeg)), (1, .int (x1 + (-1))), (0, .ref hm)]) hx hb d_Mo_numberAll_51 hl (by decide) rfl (fun ls hl => ?_)
        obtain ⟨x_11, hx_11⟩ : ∃ z, f_Mo_numberAll_L53 5000 0 ((q_first sx_2) (((q_number sx_2) ((x1 + (-1)) : Int32).toNatClampNeg) : Int32).toNatClampNeg) (s_nodes (s_order sx_2 (upd (q_order sx_2) ((q_nodes sx_2) : Int32).toNatClampNeg ((q_number sx_2) ((x1 + (-1)) : Int32).toNatClampNeg))) ((q_nodes sx_2) + 1)) = z := ⟨_, rfl⟩
        have hn_11 : x_11 ≠ none := (fun z => hn_2 (hL_2.trans (bndM_n (hx_11.trans z))))
        have hX_11 : ∀ q, x_11 = some (.inl q) → (f_Mo_numberAll mo) = some (.inl q) := (fun q z => hX_2 q (hL_2.trans (bndM_l (hx_11.trans z))))
        have lp_11 : ∀ (fu : Nat) (x3 x4 : Int32) (sx_11 : MO) (H : Heap) (locs : List Loc) (ls : Array Slot), va_P (dC, dI) cls (wM cI cZ hm ma sx_11) H → va_D A (wM cI cZ hm ma sx_11) → va_S A s.heap H locs → lv_has ls 6 [(0, .ref hm), (1, .int (x1 + (-1))), (2, .int ((q_number sx_2) ((x1 + (-1)) : Int32).toNatClampNeg)), (3, .int x3), (4, .int x4)] → x_11 = f_Mo_numberAll_L53 fu x3 x4 sx_11 → W p l e (headSpec (wy y_Mo_numberAll c_Mo_numberAll 6 none) { frames := (0), cells := 1, slots := 6, locals := (0) }).room s m [.ref hm].toArray below meth c H locs 0 0 (vx_MQ below (va_Qv (fun u : MO => (f_Mo_numberAll mo) = some (.inr (0, u))) (wB (dC, dI) cI cZ A (wM cI cZ hm ma)) A) (xM (dC, dI) cI cZ hm ma (f_Mo_numberAll mo) A) [.ref hm].toArray s (mcM (f_Mo_numberAll mo)) (msM (f_Mo_numberAll mo)) A) (F0 m 53 ls []) := by
          intro fu
          induction fu with
          | zero => intro x3 x4 sx_11 H locs ls hP hD hS hl hL_11; exact absurd (hL_11.trans rfl) hn_11
          | succ fu_11 ih_11 =>
            intro x3 x4 sx_11 H locs ls hP hD hS hl hL_11
            rw [f_Mo_numberAll_L53] at hL_11
            refine lv_iload hx hb d_Mo_numberAll_53 (lv_at hl 4 rfl) ?_
            refine lv_if_lt (tgt := 73) hx hb d_Mo_numberAll_55 (by decide) (fun c_12 => ?_) (fun c_12 => ?_)
            · rw [if_pos c_12] at hL_11
              obtain ⟨se_11, hse_11⟩ : ∃ z : MO, z = sx_11 := ⟨_, rfl⟩
              have hP : va_P (dC, dI) cls (wM cI cZ hm ma se_11) H := by rw [hse_11]; exact hP
              have hD : va_D A (wM cI cZ hm ma se_11) := by rw [hse_11]; exact hD
              obtain ⟨rv_11, hrv_11⟩ : ∃ z : Int32, z = x3 := ⟨_, rfl⟩
              have we_11 : f_Mo_numberAll_L53 5000 0 ((q_first sx_2) (((q_number sx_2) ((x1 + (-1)) : Int32).toNatClampNeg) : Int32).toNatClampNeg) (s_nodes (s_order sx_2 (upd (q_order sx_2) ((q_nodes sx_2) : Int32).toNatClampNeg ((q_number sx_2) ((x1 + (-1)) : Int32).toNatClampNeg))) ((q_nodes sx_2) + 1)) = some (.inr (rv_11, se_11)) := by rw [hrv_11, hse_11]; exact hx_11.trans hL_11
              have hl : lv_has ls 6 [(0, .ref hm), (1, .int (x1 + (-1))), (2, .int ((q_number sx_2) ((x1 + (-1)) : Int32).toNatClampNeg)), (3, .int rv_11)] := by rw [hrv_11]; exact lv_sub hl [0, 1, 2, 3] rfl
              rw [bndM_r we_11] at hL_2
              refine lv_iload_n hx hb d_Mo_numberAll_73 rfl (lv_at hl 3 rfl) ?_
              refine lv_istore (lv' := [(4, .int rv_11), (0, .ref hm), (1, .int (x1 + (-1))), (2, .int ((q_number sx_2) ((x1 + (-1)) : Int32).toNatClampNeg)), (3, .int rv_11)]) hx hb d_Mo_numberAll_74 hl (by decide) rfl (fun ls hl => ?_)
              refine lv_aload_n hx hb d_Mo_numberAll_76 rfl (lv_at hl 1 rfl) ?_
              refine va_get (D := (dC, dI)) (ci := 6) (v := .ref (ma 7)) (C := R_Mo) (T := T_Mo) (N := 31) hx hb hts u_Mo hown hK hP 0 rfl rfl 12 (by decide) (hts _ L_933) (fun _ h9 => h9) rfl d_Mo_numberAll_77 ?_
              refine lv_iload_n hx hb d_Mo_numberAll_80 rfl (lv_at hl 3 rfl) ?_
              refine va_iald (D := (dC, dI)) hx hb hK hP 8 0 rfl rfl cb_10 d_Mo_numberAll_81 ?_
              refine lv_istore (lv' := [(5, .int ((q_first se_11) (((q_number sx_2) ((x1 + (-1)) : Int32).toNatClampNeg) : Int32).toNatClampNeg)), (4, .int rv_11), (0, .ref hm), (1, .int (x1 + (-1))), (2, .int ((q_number sx_2) ((x1 + (-1)) : Int32).toNatClampNeg)), (3, .int rv_11)]) hx hb d_Mo_numberAll_82 hl (by decide) rfl (fun ls hl => ?_)
              obtain ⟨x_13, hx_13⟩ : ∃ z, f_Mo_numberAll_L84 (x1 + (-1)) 5000 rv_11 ((q_first se_11) (((q_number sx_2) ((x1 + (-1)) : Int32).toNatClampNeg) : Int32).toNatClampNeg) se_11 = z := ⟨_, rfl⟩
              have hn_13 : x_13 ≠ none := (fun z => hn_2 (hL_2.trans (bndM_n (hx_13.trans z))))
              have hX_13 : ∀ q, x_13 = some (.inl q) → (f_Mo_numberAll mo) = some (.inl q) := (fun q z => hX_2 q (hL_2.trans (bndM_l (hx_13.trans z))))
              have lp_13 : ∀ (fu : Nat) (x4 x5 : Int32) (sx_13 : MO) (H : Heap) (locs : List Loc) (ls : Array Slot), va_P (dC, dI) cls (wM cI cZ hm ma sx_13) H → va_D A (wM cI cZ hm ma sx_13) → va_S A s.heap H locs → lv_has ls 6 [(0, .ref hm), (1, .int (x1 + (-1))), (2, .int ((q_number sx_2) ((x1 + (-1)) : Int32).toNatClampNeg)), (3, .int rv_11), (4, .int x4), (5, .int x5)] → x_13 = f_Mo_numberAll_L84 (x1 + (-1)) fu x4 x5 sx_13 → W p l e (headSpec (wy y_Mo_numberAll c_Mo_numberAll 6 none) { frames := (0), cells := 1, slots := 6, locals := (0) }).room s m [.ref hm].toArray below meth c H locs 0 0 (vx_MQ below (va_Qv (fun u : MO => (f_Mo_numberAll mo) = some (.inr (0, u))) (wB (dC, dI) cI cZ A (wM cI cZ hm ma)) A) (xM (dC, dI) cI cZ hm ma (f_Mo_numberAll mo) A) [.ref hm].toArray s (mcM (f_Mo_numberAll mo)) (msM (f_Mo_numberAll mo)) A) (F0 m 84 ls []) := by
                intro fu
                induction fu with
                | zero => intro x4 x5 sx_13 H locs ls hP hD hS hl hL_13; exact absurd (hL_13.trans rfl) hn_13
                | succ fu_13 ih_13 =>
                  intro x4 x5 sx_13 H locs ls hP hD hS hl hL_13
                  rw [f_Mo_numberAll_L84] at hL_13
                  refine lv_iload hx hb d_Mo_numberAll_84 (lv_at hl 5 rfl) ?_
                  refine lv_if_lt (tgt := 115) hx hb d_Mo_numberAll_86 (by decide) (fun c_14 => ?_) (fun c_14 => ?_)
                  · rw [if_pos c_14] at hL_13
                    obtain ⟨se_13, hse_13⟩ : ∃ z : MO, z = sx_13 := ⟨_, rfl⟩
                    have hP : va_P (dC, dI) cls (wM cI cZ hm ma se_13) H := by rw [hse_13]; exact hP
                    have hD : va_D A (wM cI cZ hm ma se_13) := by rw [hse_13]; exact hD
                    have we_13 : f_Mo_numberAll_L84 (x1 + (-1)) 5000 rv_11 ((q_first se_11) (((q_number sx_2) ((x1 + (-1)) : Int32).toNatClampNeg) : Int32).toNatClampNeg) se_11 = some (.inr (0, se_13)) := by rw [hse_13]; exact hx_13.trans hL_13
                    have hl := lv_sub hl (l' := [(0, .ref hm), (1, .int (x1 + (-1))), (2, .int ((q_number sx_2) ((x1 + (-1)) : Int32).toNatClampNeg)), (3, .int rv_11)]) [0, 1, 2, 3] rfl
                    rw [bndM_r we_13] at hL_2
                    refine lv_iload_n hx hb d_Mo_numberAll_115 rfl (lv_at hl 1 rfl) ?_
                    refine lv_iload_n hx hb d_Mo_numberAll_116 rfl (lv_at hl 3 rfl) ?_
                    refine lv_iadd hx hb d_Mo_numberAll_117 ?_
                    refine lv_istore_n (lv' := [(1, .int ((x1 + (-1)) + rv_11)), (0, .ref hm), (2, .int ((q_number sx_2) ((x1 + (-1)) : Int32).toNatClampNeg)), (3, .int rv_11)]) hx hb d_Mo_numberAll_118 rfl hl (by decide) rfl (fun ls hl => ?_)
                    refine lv_goto (tgt := 9) hx hb d_Mo_numberAll_119 (by decide) ?_
                    exact ih_2 ((x1 + (-1)) + rv_11) se_13 _ _ ls hP hD hS (lv_sub hl [1, 0] rfl) hL_2
                  · rw [if_neg c_14] at hL_13
                    refine lv_iinc (v := (x4 + (-1))) (lv' := [(4, .int (x4 + (-1))), (0, .ref hm), (1, .int (x1 + (-1))), (2, .int ((q_number sx_2) ((x1 + (-1)) : Int32).toNatClampNeg)), (3, .int rv_11), (5, .int x5)]) hx hb d_Mo_numberAll_89 hl (k := 4) rfl rfl (by decide) rfl (fun ls hl => ?_)
                    refine lv_aload_n hx hb d_Mo_numberAll_92 rfl (lv_at hl 1 rfl) ?_
                    refine va_get (D := (dC, dI)) (ci := 6) (v := .ref (ma 11)) (C := R_Mo) (T := T_Mo) (N := 31) hx hb hts u_Mo hown hK hP 0 rfl rfl 17 (by decide) (hts _ L_938) (fun _ h9 => h9) rfl d_Mo_numberAll_93 ?_
                    refine lv_iload_n hx hb d_Mo_numberAll_96 rfl (lv_at hl 2 rfl) ?_
                    refine lv_iload hx hb d_Mo_numberAll_97 (lv_at hl 0 rfl) ?_
                    refine lv_iadd hx hb d_Mo_numberAll_99 ?_
                    refine lv_iload hx hb d_Mo_numberAll_100 (lv_at hl 5 rfl) ?_
                    by_cases cb_15 : inb ((x1 + (-1)) + (x4 + (-1))) 2600
                    case neg => exact absurd (hL_13.trans (if_neg cb_15)) hn_13
                    rw [if_pos cb_15] at hL_13
                    refine va_iast (D := (dC, dI)) hx hb hK hP hD hS 12 0 rfl rfl cb_15 d_Mo_numberAll_102 (fun H locs hP hD hS => ?_)
                    have hP : va_P (dC, dI) cls (wM cI cZ hm ma (s_number sx_13 (upd (q_number sx_13) (((x1 + (-1)) + (x4 + (-1))) : Int32).toNatClampNeg x5))) H := hP
                    have hD : va_D A (wM cI cZ hm ma (s_number sx_13 (upd (q_number sx_13) (((x1 + (-1)) + (x4 + (-1))) : Int32).toNatClampNeg x5))) := hD
                    refine lv_aload_n hx hb d_Mo_numberAll_103 rfl (lv_at hl 1 rfl) ?_
                    refine va_get (D := (dC, dI)) (ci := 6) (v := .ref (ma 9)) (C := R_Mo) (T := T_Mo) (N := 31) hx hb hts u_Mo hown hK hP 0 rfl rfl 14 (by decide) (hts _ L_935) (fun _ h9 => h9) rfl d_Mo_numberAll_104 ?_
                    refine lv_iload hx hb d_Mo_numberAll_107 (lv_at hl 5 rfl) ?_
                    by_cases cb_16 : inb x5 2600
                    case neg => exact absurd (hL_13.trans (if_neg cb_16)) hn_13
                    rw [if_pos cb_16] at hL_13
                    refine va_iald (D := (dC, dI)) hx hb hK hP 10 0 rfl rfl cb_16 d_Mo_numberAll_109 ?_
                    refine lv_istore (lv' := [(5, .int ((q_next sx_13) (x5 : Int32).toNatClampNeg)), (4, .int (x4 + (-1))), (0, .ref hm), (1, .int (x1 + (-1))), (2, .int ((q_number sx_2) ((x1 + (-1)) : Int32).toNatClampNeg)), (3, .int rv_11)]) hx hb d_Mo_numberAll_110 hl (by decide) rfl (fun ls hl => ?_)
                    refine lv_goto (tgt := 84) hx hb d_Mo_numberAll_112 (by decide) ?_
                    exact ih_13 (x4 + (-1)) ((q_next sx_13) (x5 : Int32).toNatClampNeg) (s_number sx_13 (upd (q_number sx_13) (((x1 + (-1)) + (x4 + (-1))) : Int32).toNatClampNeg x5)) _ _ ls hP hD hS (lv_sub hl [2, 3, 4, 5, 1, 0] rfl) hL_13
              exact lp_13 5000 rv_11 ((q_first se_11) (((q_number sx_2) ((x1 + (-1)) : Int32).toNatClampNeg) : Int32).toNatClampNeg) se_11 _ _ ls hP hD hS (lv_sub hl [2, 3, 4, 5, 1, 0] rfl) hx_13.symm
            · rw [if_neg c_12] at hL_11
              refine lv_iinc (v := (x3 + 1)) (lv' := [(3, .int (x3 + 1)), (0, .ref hm), (1, .int (x1 + (-1))), (2, .int ((q_number sx_2) ((x1 + (-1)) : Int32).toNatClampNeg)), (4, .int x4)]) hx hb d_Mo_numberAll_58 hl (k := 3) rfl rfl (by decide) rfl (fun ls hl => ?_)
              refine lv_aload_n hx hb d_Mo_numberAll_61 rfl (lv_at hl 1 rfl) ?_
              refine va_get (D := (dC, dI)) (ci := 6) (v := .ref (ma 9)) (C := R_Mo) (T := T_Mo) (N := 31) hx hb hts u_Mo hown hK hP 0 rfl rfl 14 (by decide) (hts _ L_935) (fun _ h9 => h9) rfl d_Mo_numberAll_62 ?_
              refine lv_iload hx hb d_Mo_numberAll_65 (lv_at hl 4 rfl) ?_
              by_cases cb_17 : inb x4 2600
              case neg => exact absurd (hL_11.trans (if_neg cb_17)) hn_11
              rw [if_pos cb_17] at hL_11
              refine va_iald (D := (dC, dI)) hx hb hK hP 10 0 rfl rfl cb_17 d_Mo_numberAll_67 ?_
              refine lv_istore (lv' := [(4, .int ((q_next sx_11) (x4 : Int32).toNatClampNeg)), (3, .int (x3 + 1)), (0, .ref hm), (1, .int (x1 + (-1))), (2, .int ((q_number sx_2) ((x1 + (-1)) : Int32).toNatClampNeg))]) hx hb d_Mo_numberAll_68 hl (by decide) rfl (fun ls hl => ?_)
              refine lv_goto (tgt := 53) hx hb d_Mo_numberAll_70 (by decide) ?_
              exact ih_11 (x3 + 1) ((q_next sx_11) (x4 : Int32).toNatClampNeg) sx_11 _ _ ls hP hD hS (lv_sub hl [2, 3, 4, 1, 0] rfl) hL_11
        exact lp_11 5000 0 ((q_first sx_2) (((q_number sx_2) ((x1 + (-1)) : Int32).toNatClampNeg) : Int32).toNatClampNeg) (s_nodes (s_order sx_2 (upd (q_order sx_2) ((q_nodes sx_2) : Int32).toNatClampNeg ((q_number sx_2) ((x1 + (-1)) : Int32).toNatClampNeg))) ((q_nodes sx_2) + 1)) _ _ ls hP hD hS (lv_sub hl [4, 3, 2, 1, 0] rfl) hx_11.symm
  exact lp_2 5000 1 (s_number mo (upd (q_number mo) (0 : Int32).toNatClampNeg 0)) _ _ ls hP hD hS (lv_sub hl [1, 0] rfl) hx_2.symm
