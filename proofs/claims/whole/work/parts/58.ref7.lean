def f_Mo_node (mo : MO) (k : Int32) (what : Int32) : Rm := (if what < 0 then (bndM (f_Mo_throwing mo 1 0) (fun r_2 mo_2 => (if r_2 = 0 then (if inb k 2600 then (if what = 0 then (if inb ((q_order mo_2) (k : Int32).toNatClampNeg) 2600 then (some (.inr (((q_kind mo_2) (((q_order mo_2) (k : Int32).toNatClampNeg) : Int32).toNatClampNeg), mo_2))) else none) else (if what = 1 then (bndM (f_Mo_childrenOf mo_2 ((q_order mo_2) (k : Int32).toNatClampNeg)) (fun r_10 mo_10 => (some (.inr (r_10, mo_10))))) else (if what = 2 then (if inb ((q_order mo_2) (k : Int32).toNatClampNeg) 2600 then (some (.inr (((q_value mo_2) (((q_order mo_2) (k : Int32).toNatClampNeg) : Int32).toNatClampNeg), mo_2))) else none) else (if inb ((q_order mo_2) (k : Int32).toNatClampNeg) 2600 then (some (.inr (((q_spot mo_2) (((q_order mo_2) (k : Int32).toNatClampNeg) : Int32).toNatClampNeg), mo_2))) else none)))) else none) else (some (.inr (0, mo_2)))))) else (if what ≤ 3 then (if k < 0 then (bndM (f_Mo_throwing mo 0 1) (fun r_14 mo_14 => (if r_14 = 0 then (if inb k 2600 then (if what = 0 then (if inb ((q_order mo_14) (k : Int32).toNatClampNeg) 2600 then (some (.inr (((q_kind mo_14) (((q_order mo_14) (k : Int32).toNatClampNeg) : Int32).toNatClampNeg), mo_14))) else none) else (if what = 1 then (bndM (f_Mo_childrenOf mo_14 ((q_order mo_14) (k : Int32).toNatClampNeg)) (fun r_22 mo_22 => (some (.inr (r_22, mo_22))))) else (if what = 2 then (if inb ((q_order mo_14) (k : Int32).toNatClampNeg) 2600 then (some (.inr (((q_value mo_14) (((q_order mo_14) (k : Int32).toNatClampNeg) : Int32).toNatClampNeg), mo_14))) else none) else (if inb ((q_order mo_14) (k : Int32).toNatClampNeg) 2600 then (some (.inr (((q_spot mo_14) (((q_order mo_14) (k : Int32).toNatClampNeg) : Int32).toNatClampNeg), mo_14))) else none)))) else none) else (some (.inr (0, mo_14)))))) else (if k < (q_nodes mo) then (bndM (f_Mo_throwing mo 0 0) (fun r_25 mo_25 => (if r_25 = 0 then (if inb k 2600 then (if what = 0 then (if inb ((q_order mo_25) (k : Int32).toNatClampNeg) 2600 then (some (.inr (((q_kind mo_25) (((q_order mo_25) (k : Int32).toNatClampNeg) : Int32).toNatClampNeg), mo_25))) else none) else (if what = 1 then (bndM (f_Mo_childrenOf mo_25 ((q_order mo_25) (k : Int32).toNatClampNeg)) (fun r_33 mo_33 => (some (.inr (r_33, mo_33))))) else (if what = 2 then (if inb ((q_order mo_25) (k : Int32).toNatClampNeg) 2600 then (some (.inr (((q_value mo_25) (((q_order mo_25) (k : Int32).toNatClampNeg) : Int32).toNatClampNeg), mo_25))) else none) else (if inb ((q_order mo_25) (k : Int32).toNatClampNeg) 2600 then (some (.inr (((q_spot mo_25) (((q_order mo_25) (k : Int32).toNatClampNeg) : Int32).toNatClampNeg), mo_25))) else none)))) else none) else (some (.inr (0, mo_25)))))) else (bndM (f_Mo_throwing mo 0 1) (fun r_35 mo_35 => (if r_35 = 0 then (if inb k 2600 then (if what = 0 then (if inb ((q_order mo_35) (k : Int32).toNatClampNeg) 2600 then (some (.inr (((q_kind mo_35) (((q_order mo_35) (k : Int32).toNatClampNeg) : Int32).toNatClampNeg), mo_35))) else none) else (if what = 1 then (bndM (f_Mo_childrenOf mo_35 ((q_order mo_35) (k : Int32).toNatClampNeg)) (fun r_43 mo_43 => (some (.inr (r_43, mo_43))))) else (if what = 2 then (if inb ((q_order mo_35) (k : Int32).toNatClampNeg) 2600 then (some (.inr (((q_value mo_35) (((q_order mo_35) (k : Int32).toNatClampNeg) : Int32).toNatClampNeg), mo_35))) else none) else (if inb ((q_order mo_35) (k : Int32).toNatClampNeg) 2600 then (some (.inr (((q_spot mo_35) (((q_order mo_35) (k : Int32).toNatClampNeg) : Int32).toNatClampNeg), mo_35))) else none)))) else none) else (some (.inr (0, mo_35)))))))) else (bndM (f_Mo_throwing mo 1 0) (fun r_45 mo_45 => (if r_45 = 0 then (if inb k 2600 then (if what = 0 then (if inb ((q_order mo_45) (k : Int32).toNatClampNeg) 2600 then (some (.inr (((q_kind mo_45) (((q_order mo_45) (k : Int32).toNatClampNeg) : Int32).toNatClampNeg), mo_45))) else none) else (if what = 1 then (bndM (f_Mo_childrenOf mo_45 ((q_order mo_45) (k : Int32).toNatClampNeg)) (fun r_53 mo_53 => (some (.inr (r_53, mo_53))))) else (if what = 2 then (if inb ((q_order mo_45) (k : Int32).toNatClampNeg) 2600 then (some (.inr (((q_value mo_45) (((q_order mo_45) (k : Int32).toNatClampNeg) : Int32).toNatClampNeg), mo_45))) else none) else (if inb ((q_order mo_45) (k : Int32).toNatClampNeg) 2600 then (some (.inr (((q_spot mo_45) (((q_order mo_45) (k : Int32).toNatClampNeg) : Int32).toNatClampNeg), mo_45))) else none)))) else none) else (some (.inr (0, mo_45))))))))
set_option maxRecDepth 100000 in
set_option maxHeartbeats 4000000 in
theorem m_Mo_node (l : Launch) (hlt : l.stackTraces = false) (dC : Nat → ClassId) (dI : Nat → Nat → Nat) (cI cZ : ClassId) (sa rk hm : Nat) (ma : Nat → Nat)  (mo : MO) (sz : Nat) (k : Int32) (what : Int32) (hg : (f_Mo_node mo k what) ≠ none) : cXi l y_Mo_node c_Mo_node 5 .int (1) (23) (dC, dI) cI cZ sa rk hm ma mo sz [.ref hm, .int k, .int what] (f_Mo_node mo k what) := by
  refine vx_ofW (cc := c_Mo_node) (maxL := 5) (ret := (some .int)) (by decide) rfl ?_
  intro p e s m args below meth c s₁ B hml hnt hv
  obtain ⟨rfl, hsz, hP, hK, hD0, hC, hZ⟩ := hv
  have hx := B.exec
  have hb := B.bytes
  have hr := B.returns
  have hts0 := atoms_spec (ws := wy y_Mo_node c_Mo_node 5 (some .int)) B.pre
  have hts := htsL hts0
  have hown : s.vm.findClass R_Mo = some m.cls := findClass_of_methodNamed B.named
  have hlocks := B.notSynchronized
  subst hsz
  have hD := hD0.self (sz := s.heap.size)
  generalize hAe : va_A (wM cI cZ hm ma mo) s.heap.size = A at hD hZ ⊢
  have hA : ∀ q : Nat, s.heap.size ≤ q → A q := fun q h => by rw [← hAe]; exact Or.inr h
  have hS : va_S A s.heap s.heap [] := va_S.rf
  have hl := lv_entry ([.ref hm, .int k, .int what]) (n := 5) (Nat.le_of_ble_eq_true rfl)
  rw [lg_entry_eq]
  generalize (lg_sl ([.ref hm, .int k, .int what]) ++ List.replicate (5 - (lg_sl ([.ref hm, .int k, .int what])).length) Slot.unset).toArray = ls at hl ⊢
  have hl : lv_has ls 5 [(0, .ref hm), (1, .int k), (2, .int what)] := hl
  refine lv_iload_n hx hb d_Mo_node_0 rfl (lv_at hl 2 rfl) ?_
  refine lv_if_lt (tgt := 9) hx hb d_Mo_node_1 (by decide) (fun c_1 => ?_) (fun c_1 => ?_)
  · refine lv_iconst (v := 1) hx hb d_Mo_node_9 (by decide) ?_
    refine lv_goto (tgt := 14) hx hb d_Mo_node_10 (by decide) ?_
    refine lv_istore_n (lv' := [(3, .int 1), (0, .ref hm), (1, .int k), (2, .int what)]) hx hb d_Mo_node_14 rfl hl (by decide) rfl (fun ls hl => ?_)
    refine lv_aload_n hx hb d_Mo_node_15 rfl (lv_at hl 1 rfl) ?_
    refine lv_iload_n hx hb d_Mo_node_16 rfl (lv_at hl 0 rfl) ?_
    refine lv_iload_n hx hb d_Mo_node_17 rfl (lv_at hl 0 rfl) ?_
    refine lv_if_ne (tgt := 37) hx hb d_Mo_node_18 (by decide) (fun _ => ?_) (fun q9 => absurd q9 (by decide))
    refine lv_iconst (v := 0) hx hb d_Mo_node_37 (by decide) ?_
    refine mr_Vi (g := (f_Mo_throwing mo 1 0)) (As := [.int 1, .int 0]) (rest := []) ⟨hx, hb, hml, hown, hts0⟩ (m_Mo_throwing l hlt dC dI cI cZ sa rk hm ma mo _ 1 0 (fun z => hg (by unfold f_Mo_node; rw [if_pos c_1, bndM_n z]))) hP hD hK hS hA hC hZ hnt hlocks L_1029 L_1031 L_56 L_90 L_1032 k_Mo_throwing ⟨(by show _ ≤ 1; omega), (by show _ ≤ 23; omega)⟩ rfl rfl hl.1 (Nat.le_of_ble_eq_true rfl) d_Mo_node_38 rfl (fun q z => by unfold f_Mo_node; rw [if_pos c_1, bndM_l z]) (fun r_2 mo_2 H locs w_2 hP hD hS => ?_)
    refine lv_if_eq (tgt := 46) hx hb d_Mo_node_41 (by decide) (fun c_3 => ?_) (fun c_3 => ?_)
    · refine lv_aload_n hx hb d_Mo_node_46 rfl (lv_at hl 1 rfl) ?_
      refine va_get (D := (dC, dI)) (ci := 6) (v := .ref (ma 10)) (C := R_Mo) (T := T_Mo) (N := 31) hx hb hts u_Mo hown hK hP 0 rfl rfl 16 (by decide) (hts _ L_937) (fun _ h9 => h9) rfl d_Mo_node_47 ?_
      refine lv_iload_n hx hb d_Mo_node_50 rfl (lv_at hl 2 rfl) ?_
      by_cases cb_4 : inb k 2600
      case neg => exact absurd (by unfold f_Mo_node; rw [if_pos c_1, bndM_r w_2, if_pos c_3, if_neg cb_4]) hg
      refine va_iald (D := (dC, dI)) hx hb hK hP 11 0 rfl rfl cb_4 d_Mo_node_51 ?_
      refine lv_istore (lv' := [(4, .int ((q_order mo_2) (k : Int32).toNatClampNeg)), (3, .int 1), (0, .ref hm), (1, .int k), (2, .int what)]) hx hb d_Mo_node_52 hl (by decide) rfl (fun ls hl => ?_)
      refine lv_iload_n hx hb d_Mo_node_54 rfl (lv_at hl 4 rfl) ?_
      refine lv_if_ne (tgt := 68) hx hb d_Mo_node_55 (by decide) (fun c_5 => ?_) (fun c_5 => ?_)
      · refine lv_iload_n hx hb d_Mo_node_68 rfl (lv_at hl 4 rfl) ?_
        refine lv_iconst (v := 1) hx hb d_Mo_node_69 (by decide) ?_
        refine lv_icmp_ne (tgt := 82) hx hb d_Mo_node_70 (by decide) (fun c_6 => ?_) (fun c_6 => ?_)
        · refine lv_iload_n hx hb d_Mo_node_82 rfl (lv_at hl 4 rfl) ?_
          refine lv_iconst (v := 2) hx hb d_Mo_node_83 (by decide) ?_
          refine lv_icmp_ne (tgt := 97) hx hb d_Mo_node_84 (by decide) (fun c_7 => ?_) (fun c_7 => ?_)
          · refine lv_aload_n hx hb d_Mo_node_97 rfl (lv_at hl 2 rfl) ?_
            refine va_get (D := (dC, dI)) (ci := 6) (v := .ref (ma 6)) (C := R_Mo) (T := T_Mo) (N := 31) hx hb hts u_Mo hown hK hP 0 rfl rfl 11 (by decide) (hts _ L_932) (fun _ h9 => h9) rfl d_Mo_node_98 ?_
            refine lv_iload hx hb d_Mo_node_101 (lv_at hl 0 rfl) ?_
            by_cases cb_8 : inb ((q_order mo_2) (k : Int32).toNatClampNeg) 2600
            case neg => exact absurd (by unfold f_Mo_node; rw [if_pos c_1, bndM_r w_2, if_pos c_3, if_pos cb_4, if_neg c_5, if_neg c_6, if_neg c_7, if_neg cb_8]) hg
            refine va_iald (D := (dC, dI)) hx hb hK hP 7 0 rfl rfl cb_8 d_Mo_node_103 ?_
            exact mr_iret (v := ((q_spot mo_2) (((q_order mo_2) (k : Int32).toNatClampNeg) : Int32).toNatClampNeg)) (mo := mo_2) hx hb hr hlocks hK hP hD hS (by unfold f_Mo_node; rw [if_pos c_1, bndM_r w_2, if_pos c_3, if_pos cb_4, if_neg c_5, if_neg c_6, if_neg c_7, if_pos cb_8]) d_Mo_node_104
          · refine lv_aload_n hx hb d_Mo_node_87 rfl (lv_at hl 2 rfl) ?_
            refine va_get (D := (dC, dI)) (ci := 6) (v := .ref (ma 5)) (C := R_Mo) (T := T_Mo) (N := 31) hx hb hts u_Mo hown hK hP 0 rfl rfl 10 (by decide) (hts _ L_931) (fun _ h9 => h9) rfl d_Mo_node_88 ?_
            refine lv_iload hx hb d_Mo_node_91 (lv_at hl 0 rfl) ?_
            by_cases cb_9 : inb ((q_order mo_2) (k : Int32).toNatClampNeg) 2600
            case neg => exact absurd (by unfold f_Mo_node; rw [if_pos c_1, bndM_r w_2, if_pos c_3, if_pos cb_4, if_neg c_5, if_neg c_6, if_pos c_7, if_neg cb_9]) hg
            refine va_iald (D := (dC, dI)) hx hb hK hP 6 0 rfl rfl cb_9 d_Mo_node_93 ?_
            refine lv_goto (tgt := 104) hx hb d_Mo_node_94 (by decide) ?_
            exact mr_iret (v := ((q_value mo_2) (((q_order mo_2) (k : Int32).toNatClampNeg) : Int32).toNatClampNeg)) (mo := mo_2) hx hb hr hlocks hK hP hD hS (by unfold f_Mo_node; rw [if_pos c_1, bndM_r w_2, if_pos c_3, if_pos cb_4, if_neg c_5, if_neg c_6, if_pos c_7, if_pos cb_9]) d_Mo_node_104
        · refine lv_aload_n hx hb d_Mo_node_73 rfl (lv_at hl 2 rfl) ?_
          refine lv_iload hx hb d_Mo_node_74 (lv_at hl 0 rfl) ?_
          refine mr_Vi (g := (f_Mo_childrenOf mo_2 ((q_order mo_2) (k : Int32).toNatClampNeg))) (As := [.int ((q_order mo_2) (k : Int32).toNatClampNeg)]) (rest := []) ⟨hx, hb, hml, hown, hts0⟩ (m_Mo_childrenOf l hlt dC dI cI cZ sa rk hm ma mo_2 _ ((q_order mo_2) (k : Int32).toNatClampNeg) (fun z => hg (by unfold f_Mo_node; rw [if_pos c_1, bndM_r w_2, if_pos c_3, if_pos cb_4, if_neg c_5, if_pos c_6, bndM_n z]))) hP hD hK hS hA hC hZ hnt hlocks L_1273 L_1275 L_81 L_90 L_1276 k_Mo_childrenOf ⟨(by show _ ≤ 1; omega), (by show _ ≤ 23; omega)⟩ rfl rfl hl.1 (Nat.le_of_ble_eq_true rfl) d_Mo_node_76 rfl (fun q z => by unfold f_Mo_node; rw [if_pos c_1, bndM_r w_2, if_pos c_3, if_pos cb_4, if_neg c_5, if_pos c_6, bndM_l z]) (fun r_10 mo_10 H locs w_10 hP hD hS => ?_)
          refine lv_goto (tgt := 104) hx hb d_Mo_node_79 (by decide) ?_
          exact mr_iret (v := r_10) (mo := mo_10) hx hb hr hlocks hK hP hD hS (by unfold f_Mo_node; rw [if_pos c_1, bndM_r w_2, if_pos c_3, if_pos cb_4, if_neg c_5, if_pos c_6, bndM_r w_10]) d_Mo_node_104
      · refine lv_aload_n hx hb d_Mo_node_58 rfl (lv_at hl 2 rfl) ?_
        refine va_get (D := (dC, dI)) (ci := 6) (v := .ref (ma 4)) (C := R_Mo) (T := T_Mo) (N := 31) hx hb hts u_Mo hown hK hP 0 rfl rfl 9 (by decide) (hts _ L_930) (fun _ h9 => h9) rfl d_Mo_node_59 ?_
        refine lv_iload hx hb d_Mo_node_62 (lv_at hl 0 rfl) ?_
        by_cases cb_11 : inb ((q_order mo_2) (k : Int32).toNatClampNeg) 2600
        case neg => exact absurd (by unfold f_Mo_node; rw [if_pos c_1, bndM_r w_2, if_pos c_3, if_pos cb_4, if_pos c_5, if_neg cb_11]) hg
        refine va_iald (D := (dC, dI)) hx hb hK hP 5 0 rfl rfl cb_11 d_Mo_node_64 ?_
        refine lv_goto (tgt := 104) hx hb d_Mo_node_65 (by decide) ?_
        exact mr_iret (v := ((q_kind mo_2) (((q_order mo_2) (k : Int32).toNatClampNeg) : Int32).toNatClampNeg)) (mo := mo_2) hx hb hr hlocks hK hP hD hS (by unfold f_Mo_node; rw [if_pos c_1, bndM_r w_2, if_pos c_3, if_pos cb_4, if_pos c_5, if_pos cb_11]) d_Mo_node_104
    · refine lv_iconst (v := 0) hx hb d_Mo_node_44 (by decide) ?_
      exact mr_iret (v := 0) (mo := mo_2) hx hb hr hlocks hK hP hD hS (by unfold f_Mo_node; rw [if_pos c_1, bndM_r w_2, if_neg c_3]) d_Mo_node_45
  · refine lv_iload_n hx hb d_Mo_node_4 rfl (lv_at hl 2 rfl) ?_
    refine lv_iconst (v := 3) hx hb d_Mo_node_5 (by decide) ?_
    refine lv_icmp_le (tgt := 13) hx hb d_Mo_node_6 (by decide) (fun c_12 => ?_) (fun c_12 => ?_)
    · refine lv_iconst (v := 0) hx hb d_Mo_node_13 (by decide) ?_
      refine lv_istore_n (lv' := [(3, .int 0), (0, .ref hm), (1, .int k), (2, .int what)]) hx hb d_Mo_node_14 rfl hl (by decide) rfl (fun ls hl => ?_)
      refine lv_aload_n hx hb d_Mo_node_15 rfl (lv_at hl 1 rfl) ?_
      refine lv_iload_n hx hb d_Mo_node_16 rfl (lv_at hl 0 rfl) ?_
      refine lv_iload_n hx hb d_Mo_node_17 rfl (lv_at hl 0 rfl) ?_
      refine lv_if_ne (tgt := 37) hx hb d_Mo_node_18 (by decide) (fun q9 => absurd q9 (by decide)) (fun _ => ?_)
      refine lv_iload_n hx hb d_Mo_node_21 rfl (lv_at hl 2 rfl) ?_
      refine lv_if_lt (tgt := 33) hx hb d_Mo_node_22 (by decide) (fun c_13 => ?_) (fun c_13 => ?_)
      · refine lv_iconst (v := 1) hx hb d_Mo_node_33 (by decide) ?_
        refine lv_goto (tgt := 38) hx hb d_Mo_node_34 (by decide) ?_
        refine mr_Vi (g := (f_Mo_throwing mo 0 1)) (As := [.int 0, .int 1]) (rest := []) ⟨hx, hb, hml, hown, hts0⟩ (m_Mo_throwing l hlt dC dI cI cZ sa rk hm ma mo _ 0 1 (fun z => hg (by unfold f_Mo_node; rw [if_neg c_1, if_pos c_12, if_pos c_13, bndM_n z]))) hP hD hK hS hA hC hZ hnt hlocks L_1029 L_1031 L_56 L_90 L_1032 k_Mo_throwing ⟨(by show _ ≤ 1; omega), (by show _ ≤ 23; omega)⟩ rfl rfl hl.1 (Nat.le_of_ble_eq_true rfl) d_Mo_node_38 rfl (fun q z => by unfold f_Mo_node; rw [if_neg c_1, if_pos c_12, if_pos c_13, bndM_l z]) (fun r_14 mo_14 H locs w_14 hP hD hS => ?_)
        refine lv_if_eq (tgt := 46) hx hb d_Mo_node_41 (by decide) (fun c_15 => ?_) (fun c_15 => ?_)
        · refine lv_aload_n hx hb d_Mo_node_46 rfl (lv_at hl 1 rfl) ?_
          refine va_get (D := (dC, dI)) (ci := 6) (v := .ref (ma 10)) (C := R_Mo) (T := T_Mo) (N := 31) hx hb hts u_Mo hown hK hP 0 rfl rfl 16 (by decide) (hts _ L_937) (fun _ h9 => h9) rfl d_Mo_node_47 ?_
          refine lv_iload_n hx hb d_Mo_node_50 rfl (lv_at hl 2 rfl) ?_
          by_cases cb_16 : inb k 2600
          case neg => exact absurd (by unfold f_Mo_node; rw [if_neg c_1, if_pos c_12, if_pos c_13, bndM_r w_14, if_pos c_15, if_neg cb_16]) hg
          refine va_iald (D := (dC, dI)) hx hb hK hP 11 0 rfl rfl cb_16 d_Mo_node_51 ?_
          refine lv_istore (lv' := [(4, .int ((q_order mo_14) (k : Int32).toNatClampNeg)), (3, .int 0), (0, .ref hm), (1, .int k), (2, .int what)]) hx hb d_Mo_node_52 hl (by decide) rfl (fun ls hl => ?_)
          refine lv_iload_n hx hb d_Mo_node_54 rfl (lv_at hl 4 rfl) ?_
          refine lv_if_ne (tgt := 68) hx hb d_Mo_node_55 (by decide) (fun c_17 => ?_) (fun c_17 => ?_)
          · refine lv_iload_n hx hb d_Mo_node_68 rfl (lv_at hl 4 rfl) ?_
            refine lv_iconst (v := 1) hx hb d_Mo_node_69 (by decide) ?_
            refine lv_icmp_ne (tgt := 82) hx hb d_Mo_node_70 (by decide) (fun c_18 => ?_) (fun c_18 => ?_)
            · refine lv_iload_n hx hb d_Mo_node_82 rfl (lv_at hl 4 rfl) ?_
              refine lv_iconst (v := 2) hx hb d_Mo_node_83 (by decide) ?_
              refine lv_icmp_ne (tgt := 97) hx hb d_Mo_node_84 (by decide) (fun c_19 => ?_) (fun c_19 => ?_)
              · refine lv_aload_n hx hb d_Mo_node_97 rfl (lv_at hl 2 rfl) ?_
                refine va_get (D := (dC, dI)) (ci := 6) (v := .ref (ma 6)) (C := R_Mo) (T := T_Mo) (N := 31) hx hb hts u_Mo hown hK hP 0 rfl rfl 11 (by decide) (hts _ L_932) (fun _ h9 => h9) rfl d_Mo_node_98 ?_
                refine lv_iload hx hb d_Mo_node_101 (lv_at hl 0 rfl) ?_
                by_cases cb_20 : inb ((q_order mo_14) (k : Int32).toNatClampNeg) 2600
                case neg => exact absurd (by unfold f_Mo_node; rw [if_neg c_1, if_pos c_12, if_pos c_13, bndM_r w_14, if_pos c_15, if_pos cb_16, if_neg c_17, if_neg c_18, if_neg c_19, if_neg cb_20]) hg
                refine va_iald (D := (dC, dI)) hx hb hK hP 7 0 rfl rfl cb_20 d_Mo_node_103 ?_
                exact mr_iret (v := ((q_spot mo_14) (((q_order mo_14) (k : Int32).toNatClampNeg) : Int32).toNatClampNeg)) (mo := mo_14) hx hb hr hlocks hK hP hD hS (by unfold f_Mo_node; rw [if_neg c_1, if_pos c_12, if_pos c_13, bndM_r w_14, if_pos c_15, if_pos cb_16, if_neg c_17, if_neg c_18, if_neg c_19, if_pos cb_20]) d_Mo_node_104
              · refine lv_aload_n hx hb d_Mo_node_87 rfl (lv_at hl 2 rfl) ?_
                refine va_get (D := (dC, dI)) (ci := 6) (v := .ref (ma 5)) (C := R_Mo) (T := T_Mo) (N := 31) hx hb hts u_Mo hown hK hP 0 rfl rfl 10 (by decide) (hts _ L_931) (fun _ h9 => h9) rfl d_Mo_node_88 ?_
                refine lv_iload hx hb d_Mo_node_91 (lv_at hl 0 rfl) ?_
                by_cases cb_21 : inb ((q_order mo_14) (k : Int32).toNatClampNeg) 2600
                case neg => exact absurd (by unfold f_Mo_node; rw [if_neg c_1, if_pos c_12, if_pos c_13, bndM_r w_14, if_pos c_15, if_pos cb_16, if_neg c_17, if_neg c_18, if_pos c_19, if_neg cb_21]) hg
                refine va_iald (D := (dC, dI)) hx hb hK hP 6 0 rfl rfl cb_21 d_Mo_node_93 ?_
                refine lv_goto (tgt := 104) hx hb d_Mo_node_94 (by decide) ?_
                exact mr_iret (v := ((q_value mo_14) (((q_order mo_14) (k : Int32).toNatClampNeg) : Int32).toNatClampNeg)) (mo := mo_14) hx hb hr hlocks hK hP hD hS (by unfold f_Mo_node; rw [if_neg c_1, if_pos c_12, if_pos c_13, bndM_r w_14, if_pos c_15, if_pos cb_16, if_neg c_17, if_neg c_18, if_pos c_19, if_pos cb_21]) d_Mo_node_104
            · refine lv_aload_n hx hb d_Mo_node_73 rfl (lv_at hl 2 rfl) ?_
              refine lv_iload hx hb d_Mo_node_74 (lv_at hl 0 rfl) ?_
              refine mr_Vi (g := (f_Mo_childrenOf mo_14 ((q_order mo_14) (k : Int32).toNatClampNeg))) (As := [.int ((q_order mo_14) (k : Int32).toNatClampNeg)]) (rest := []) ⟨hx, hb, hml, hown, hts0⟩ (m_Mo_childrenOf l hlt dC dI cI cZ sa rk hm ma mo_14 _ ((q_order mo_14) (k : Int32).toNatClampNeg) (fun z => hg (by unfold f_Mo_node; rw [if_neg c_1, if_pos c_12, if_pos c_13, bndM_r w_14, if_pos c_15, if_pos cb_16, if_neg c_17, if_pos c_18, bndM_n z]))) hP hD hK hS hA hC hZ hnt hlocks L_1273 L_1275 L_81 L_90 L_1276 k_Mo_childrenOf ⟨(by show _ ≤ 1; omega), (by show _ ≤ 23; omega)⟩ rfl rfl hl.1 (Nat.le_of_ble_eq_true rfl) d_Mo_node_76 rfl (fun q z => by unfold f_Mo_node; rw [if_neg c_1, if_pos c_12, if_pos c_13, bndM_r w_14, if_pos c_15, if_pos cb_16, if_neg c_17, if_pos c_18, bndM_l z]) (fun r_22 mo_22 H locs w_22 hP hD hS => ?_)
              refine lv_goto (tgt := 104) hx hb d_Mo_node_79 (by decide) ?_
              exact mr_iret (v := r_22) (mo := mo_22) hx hb hr hlocks hK hP hD hS (by unfold f_Mo_node; rw [if_neg c_1, if_pos c_12, if_pos c_13, bndM_r w_14, if_pos c_15, if_pos cb_16, if_neg c_17, if_pos c_18, bndM_r w_22]) d_Mo_node_104
          · refine lv_aload_n hx hb d_Mo_node_58 rfl (lv_at hl 2 rfl) ?_
            refine va_get (D := (dC, dI)) (ci := 6) (v := .ref (ma 4)) (C := R_Mo) (T := T_Mo) (N := 31) hx hb hts u_Mo hown hK hP 0 rfl rfl 9 (by decide) (hts _ L_930) (fun _ h9 => h9) rfl d_Mo_node_59 ?_
            refine lv_iload hx hb d_Mo_node_62 (lv_at hl 0 rfl) ?_
            by_cases cb_23 : inb ((q_order mo_14) (k : Int32).toNatClampNeg) 2600
            case neg => exact absurd (by unfold f_Mo_node; rw [if_neg c_1, if_pos c_12, if_pos c_13, bndM_r w_14, if_pos c_15, if_pos cb_16, if_pos c_17, if_neg cb_23]) hg
            refine va_iald (D := (dC, dI)) hx hb hK hP 5 0 rfl rfl cb_23 d_Mo_node_64 ?_
            refine lv_goto (tgt := 104) hx hb d_Mo_node_65 (by decide) ?_
            exact mr_iret (v := ((q_kind mo_14) (((q_order mo_14) (k : Int32).toNatClampNeg) : Int32).toNatClampNeg)) (mo := mo_14) hx hb hr hlocks hK hP hD hS (by unfold f_Mo_node; rw [if_neg c_1, if_pos c_12, if_pos c_13, bndM_r w_14, if_pos c_15, if_pos cb_16, if_pos c_17, if_pos cb_23]) d_Mo_node_104
        · refine lv_iconst (v := 0) hx hb d_Mo_node_44 (by decide) ?_
          exact mr_iret (v := 0) (mo := mo_14) hx hb hr hlocks hK hP hD hS (by unfold f_Mo_node; rw [if_neg c_1, if_pos c_12, if_pos c_13, bndM_r w_14, if_neg c_15]) d_Mo_node_45
      · refine lv_iload_n hx hb d_Mo_node_25 rfl (lv_at hl 2 rfl) ?_
        refine lv_aload_n hx hb d_Mo_node_26 rfl (lv_at hl 1 rfl) ?_
        refine va_get (D := (dC, dI)) (ci := 6) (v := .int (q_nodes mo)) (C := R_Mo) (T := T_Mo) (N := 31) hx hb hts u_Mo hown hK hP 0 rfl rfl 15 (by decide) (hts _ L_936) (fun _ h9 => h9) rfl d_Mo_node_27 ?_
        refine lv_icmp_lt (tgt := 37) hx hb d_Mo_node_30 (by decide) (fun c_24 => ?_) (fun c_24 => ?_)
        · refine lv_iconst (v := 0) hx hb d_Mo_node_37 (by decide) ?_
          refine mr_Vi (g := (f_Mo_throwing mo 0 0)) (As := [.int 0, .int 0]) (rest := []) ⟨hx, hb, hml, hown, hts0⟩ (m_Mo_throwing l hlt dC dI cI cZ sa rk hm ma mo _ 0 0 (fun z => hg (by unfold f_Mo_node; rw [if_neg c_1, if_pos c_12, if_neg c_13, if_pos c_24, bndM_n z]))) hP hD hK hS hA hC hZ hnt hlocks L_1029 L_1031 L_56 L_90 L_1032 k_Mo_throwing ⟨(by show _ ≤ 1; omega), (by show _ ≤ 23; omega)⟩ rfl rfl hl.1 (Nat.le_of_ble_eq_true rfl) d_Mo_node_38 rfl (fun q z => by unfold f_Mo_node; rw [if_neg c_1, if_pos c_12, if_neg c_13, if_pos c_24, bndM_l z]) (fun r_25 mo_25 H locs w_25 hP hD hS => ?_)
          refine lv_if_eq (tgt := 46) hx hb d_Mo_node_41 (by decide) (fun c_26 => ?_) (fun c_26 => ?_)
          · refine lv_aload_n hx hb d_Mo_node_46 rfl (lv_at hl 1 rfl) ?_
            refine va_get (D := (dC, dI)) (ci := 6) (v := .ref (ma 10)) (C := R_Mo) (T := T_Mo) (N := 31) hx hb hts u_Mo hown hK hP 0 rfl rfl 16 (by decide) (hts _ L_937) (fun _ h9 => h9) rfl d_Mo_node_47 ?_
            refine lv_iload_n hx hb d_Mo_node_50 rfl (lv_at hl 2 rfl) ?_
            by_cases cb_27 : inb k 2600
            case neg => exact absurd (by unfold f_Mo_node; rw [if_neg c_1, if_pos c_12, if_neg c_13, if_pos c_24, bndM_r w_25, if_pos c_26, if_neg cb_27]) hg
            refine va_iald (D := (dC, dI)) hx hb hK hP 11 0 rfl rfl cb_27 d_Mo_node_51 ?_
            refine lv_istore (lv' := [(4, .int ((q_order mo_25) (k : Int32).toNatClampNeg)), (3, .int 0), (0, .ref hm), (1, .int k), (2, .int what)]) hx hb d_Mo_node_52 hl (by decide) rfl (fun ls hl => ?_)
            refine lv_iload_n hx hb d_Mo_node_54 rfl (lv_at hl 4 rfl) ?_
            refine lv_if_ne (tgt := 68) hx hb d_Mo_node_55 (by decide) (fun c_28 => ?_) (fun c_28 => ?_)
            · refine lv_iload_n hx hb d_Mo_node_68 rfl (lv_at hl 4 rfl) ?_
              refine lv_iconst (v := 1) hx hb d_Mo_node_69 (by decide) ?_
              refine lv_icmp_ne (tgt := 82) hx hb d_Mo_node_70 (by decide) (fun c_29 => ?_) (fun c_29 => ?_)
              · refine lv_iload_n hx hb d_Mo_node_82 rfl (lv_at hl 4 rfl) ?_
                refine lv_iconst (v := 2) hx hb d_Mo_node_83 (by decide) ?_
                refine lv_icmp_ne (tgt := 97) hx hb d_Mo_node_84 (by decide) (fun c_30 => ?_) (fun c_30 => ?_)
                · refine lv_aload_n hx hb d_Mo_node_97 rfl (lv_at hl 2 rfl) ?_
                  refine va_get (D := (dC, dI)) (ci := 6) (v := .ref (ma 6)) (C := R_Mo) (T := T_Mo) (N := 31) hx hb hts u_Mo hown hK hP 0 rfl rfl 11 (by decide) (hts _ L_932) (fun _ h9 => h9) rfl d_Mo_node_98 ?_
                  refine lv_iload hx hb d_Mo_node_101 (lv_at hl 0 rfl) ?_
                  by_cases cb_31 : inb ((q_order mo_25) (k : Int32).toNatClampNeg) 2600
                  case neg => exact absurd (by unfold f_Mo_node; rw [if_neg c_1, if_pos c_12, if_neg c_13, if_pos c_24, bndM_r w_25, if_pos c_26, if_pos cb_27, if_neg c_28, if_neg c_29, if_neg c_30, if_neg cb_31]) hg
                  refine va_iald (D := (dC, dI)) hx hb hK hP 7 0 rfl rfl cb_31 d_Mo_node_103 ?_
                  exact mr_iret (v := ((q_spot mo_25) (((q_order mo_25) (k : Int32).toNatClampNeg) : Int32).toNatClampNeg)) (mo := mo_25) hx hb hr hlocks hK hP hD hS (by unfold f_Mo_node; rw [if_neg c_1, if_pos c_12, if_neg c_13, if_pos c_24, bndM_r w_25, if_pos c_26, if_pos cb_27, if_neg c_28, if_neg c_29, if_neg c_30, if_pos cb_31]) d_Mo_node_104
                · refine lv_aload_n hx hb d_Mo_node_87 rfl (lv_at hl 2 rfl) ?_
                  refine va_get (D := (dC, dI)) (ci := 6) (v := .ref (ma 5)) (C := R_Mo) (T := T_Mo) (N := 31) hx hb hts u_Mo hown hK hP 0 rfl rfl 10 (by decide) (hts _ L_931) (fun _ h9 => h9) rfl d_Mo_node_88 ?_
                  refine lv_iload hx hb d_Mo_node_91 (lv_at hl 0 rfl) ?_
                  by_cases cb_32 : inb ((q_order mo_25) (k : Int32).toNatClampNeg) 2600
                  case neg => exact absurd (by unfold f_Mo_node; rw [if_neg c_1, if_pos c_12, if_neg c_13, if_pos c_24, bndM_r w_25, if_pos c_26, if_pos cb_27, if_neg c_28, if_neg c_29, if_pos c_30, if_neg cb_32]) hg
                  refine va_iald (D := (dC, dI)) hx hb hK hP 6 0 rfl rfl cb_32 d_Mo_node_93 ?_
                  refine lv_goto (tgt := 104) hx hb d_Mo_node_94 (by decide) ?_
                  exact mr_iret (v := ((q_value mo_25) (((q_order mo_25) (k : Int32).toNatClampNeg) : Int32).toNatClampNeg)) (mo := mo_25) hx hb hr hlocks hK hP hD hS (by unfold f_Mo_node; rw [if_neg c_1, if_pos c_12, if_neg c_13, if_pos c_24, bndM_r w_25, if_pos c_26, if_pos cb_27, if_neg c_28, if_neg c_29, if_pos c_30, if_pos cb_32]) d_Mo_node_104
              · refine lv_aload_n hx hb d_Mo_node_73 rfl (lv_at hl 2 rfl) ?_
                refine lv_iload hx hb d_Mo_node_74 (lv_at hl 0 rfl) ?_
                refine mr_Vi (g := (f_Mo_childrenOf mo_25 ((q_order mo_25) (k : Int32).toNatClampNeg))) (As := [.int ((q_order mo_25) (k : Int32).toNatClampNeg)]) (rest := []) ⟨hx, hb, hml, hown, hts0⟩ (m_Mo_childrenOf l hlt dC dI cI cZ sa rk hm ma mo_25 _ ((q_order mo_25) (k : Int32).toNatClampNeg) (fun z => hg (by unfold f_Mo_node; rw [if_neg c_1, if_pos c_12, if_neg c_13, if_pos c_24, bndM_r w_25, if_pos c_26, if_pos cb_27, if_neg c_28, if_pos c_29, bndM_n z]))) hP hD hK hS hA hC hZ hnt hlocks L_1273 L_1275 L_81 L_90 L_1276 k_Mo_childrenOf ⟨(by show _ ≤ 1; omega), (by show _ ≤ 23; omega)⟩ rfl rfl hl.1 (Nat.le_of_ble_eq_true rfl) d_Mo_node_76 rfl (fun q z => by unfold f_Mo_node; rw [if_neg c_1, if_pos c_12, if_neg c_13, if_pos c_24, bndM_r w_25, if_pos c_26, if_pos cb_27, if_neg c_28, if_pos c_29, bndM_l z]) (fun r_33 mo_33 H locs w_33 hP hD hS => ?_)
                refine lv_goto (tgt := 104) hx hb d_Mo_node_79 (by decide) ?_
                exact mr_iret (v := r_33) (mo := mo_33) hx hb hr hlocks hK hP hD hS (by unfold f_Mo_node; rw [if_neg c_1, if_pos c_12, if_neg c_13, if_pos c_24, bndM_r w_25, if_pos c_26, if_pos cb_27, if_neg c_28, if_pos c_29, bndM_r w_33]) d_Mo_node_104
            · refine lv_aload_n hx hb d_Mo_node_58 rfl (lv_at hl 2 rfl) ?_
              refine va_get (D := (dC, dI)) (ci := 6) (v := .ref (ma 4)) (C := R_Mo) (T := T_Mo) (N := 31) hx hb hts u_Mo hown hK hP 0 rfl rfl 9 (by decide) (hts _ L_930) (fun _ h9 => h9) rfl d_Mo_node_59 ?_
              refine lv_iload hx hb d_Mo_node_62 (lv_at hl 0 rfl) ?_
              by_cases cb_34 : inb ((q_order mo_25) (k : Int32).toNatClampNeg) 2600
              case neg => exact absurd (by unfold f_Mo_node; rw [if_neg c_1, if_pos c_12, if_neg c_13, if_pos c_24, bndM_r w_25, if_pos c_26, if_pos cb_27, if_pos c_28, if_neg cb_34]) hg
              refine va_iald (D := (dC, dI)) hx hb hK hP 5 0 rfl rfl cb_34 d_Mo_node_64 ?_
              refine lv_goto (tgt := 104) hx hb d_Mo_node_65 (by decide) ?_
              exact mr_iret (v := ((q_kind mo_25) (((q_order mo_25) (k : Int32).toNatClampNeg) : Int32).toNatClampNeg)) (mo := mo_25) hx hb hr hlocks hK hP hD hS (by unfold f_Mo_node; rw [if_neg c_1, if_pos c_12, if_neg c_13, if_pos c_24, bndM_r w_25, if_pos c_26, if_pos cb_27, if_pos c_28, if_pos cb_34]) d_Mo_node_104
          · refine lv_iconst (v := 0) hx hb d_Mo_node_44 (by decide) ?_
            exact mr_iret (v := 0) (mo := mo_25) hx hb hr hlocks hK hP hD hS (by unfold f_Mo_node; rw [if_neg c_1, if_pos c_12, if_neg c_13, if_pos c_24, bndM_r w_25, if_neg c_26]) d_Mo_node_45
        · refine lv_iconst (v := 1) hx hb d_Mo_node_33 (by decide) ?_
          refine lv_goto (tgt := 38) hx hb d_Mo_node_34 (by decide) ?_
          refine mr_Vi (g := (f_Mo_throwing mo 0 1)) (As := [.int 0, .int 1]) (rest := []) ⟨hx, hb, hml, hown, hts0⟩ (m_Mo_throwing l hlt dC dI cI cZ sa rk hm ma mo _ 0 1 (fun z => hg (by unfold f_Mo_node; rw [if_neg c_1, if_pos c_12, if_neg c_13, if_neg c_24, bndM_n z]))) hP hD hK hS hA hC hZ hnt hlocks L_1029 L_1031 L_56 L_90 L_1032 k_Mo_throwing ⟨(by show _ ≤ 1; omega), (by show _ ≤ 23; omega)⟩ rfl rfl hl.1 (Nat.le_of_ble_eq_true rfl) d_Mo_node_38 rfl (fun q z => by unfold f_Mo_node; rw [if_neg c_1, if_pos c_12, if_neg c_13, if_neg c_24, bndM_l z]) (fun r_35 mo_35 H locs w_35 hP hD hS => ?_)
          refine lv_if_eq (tgt := 46) hx hb d_Mo_node_41 (by decide) (fun c_36 => ?_) (fun c_36 => ?_)
          · refine lv_aload_n hx hb d_Mo_node_46 rfl (lv_at hl 1 rfl) ?_
            refine va_get (D := (dC, dI)) (ci := 6) (v := .ref (ma 10)) (C := R_Mo) (T := T_Mo) (N := 31) hx hb hts u_Mo hown hK hP 0 rfl rfl 16 (by decide) (hts _ L_937) (fun _ h9 => h9) rfl d_Mo_node_47 ?_
            refine lv_iload_n hx hb d_Mo_node_50 rfl (lv_at hl 2 rfl) ?_
            by_cases cb_37 : inb k 2600
            case neg => exact absurd (by unfold f_Mo_node; rw [if_neg c_1, if_pos c_12, if_neg c_13, if_neg c_24, bndM_r w_35, if_pos c_36, if_neg cb_37]) hg
            refine va_iald (D := (dC, dI)) hx hb hK hP 11 0 rfl rfl cb_37 d_Mo_node_51 ?_
            refine lv_istore (lv' := [(4, .int ((q_order mo_35) (k : Int32).toNatClampNeg)), (3, .int 0), (0, .ref hm), (1, .int k), (2, .int what)]) hx hb d_Mo_node_52 hl (by decide) rfl (fun ls hl => ?_)
            refine lv_iload_n hx hb d_Mo_node_54 rfl (lv_at hl 4 rfl) ?_
            refine lv_if_ne (tgt := 68) hx hb d_Mo_node_55 (by decide) (fun c_38 => ?_) (fun c_38 => ?_)
            · refine lv_iload_n hx hb d_Mo_node_68 rfl (lv_at hl 4 rfl) ?_
              refine lv_iconst (v := 1) hx hb d_Mo_node_69 (by decide) ?_
              refine lv_icmp_ne (tgt := 82) hx hb d_Mo_node_70 (by decide) (fun c_39 => ?_) (fun c_39 => ?_)
              · refine lv_iload_n hx hb d_Mo_node_82 rfl (lv_at hl 4 rfl) ?_
                refine lv_iconst (v := 2) hx hb d_Mo_node_83 (by decide) ?_
                refine lv_icmp_ne (tgt := 97) hx hb d_Mo_node_84 (by decide) (fun c_40 => ?_) (fun c_40 => ?_)
                · refine lv_aload_n hx hb d_Mo_node_97 rfl (lv_at hl 2 rfl) ?_
                  refine va_get (D := (dC, dI)) (ci := 6) (v := .ref (ma 6)) (C := R_Mo) (T := T_Mo) (N := 31) hx hb hts u_Mo hown hK hP 0 rfl rfl 11 (by decide) (hts _ L_932) (fun _ h9 => h9) rfl d_Mo_node_98 ?_
                  refine lv_iload hx hb d_Mo_node_101 (lv_at hl 0 rfl) ?_
                  by_cases cb_41 : inb ((q_order mo_35) (k : Int32).toNatClampNeg) 2600
                  case neg => exact absurd (by unfold f_Mo_node; rw [if_neg c_1, if_pos c_12, if_neg c_13, if_neg c_24, bndM_r w_35, if_pos c_36, if_pos cb_37, if_neg c_38, if_neg c_39, if_neg c_40, if_neg cb_41]) hg
                  refine va_iald (D := (dC, dI)) hx hb hK hP 7 0 rfl rfl cb_41 d_Mo_node_103 ?_
                  exact mr_iret (v := ((q_spot mo_35) (((q_order mo_35) (k : Int32).toNatClampNeg) : Int32).toNatClampNeg)) (mo := mo_35) hx hb hr hlocks hK hP hD hS (by unfold f_Mo_node; rw [if_neg c_1, if_pos c_12, if_neg c_13, if_neg c_24, bndM_r w_35, if_pos c_36, if_pos cb_37, if_neg c_38, if_neg c_39, if_neg c_40, if_pos cb_41]) d_Mo_node_104
                · refine lv_aload_n hx hb d_Mo_node_87 rfl (lv_at hl 2 rfl) ?_
                  refine va_get (D := (dC, dI)) (ci := 6) (v := .ref (ma 5)) (C := R_Mo) (T := T_Mo) (N := 31) hx hb hts u_Mo hown hK hP 0 rfl rfl 10 (by decide) (hts _ L_931) (fun _ h9 => h9) rfl d_Mo_node_88 ?_
                  refine lv_iload hx hb d_Mo_node_91 (lv_at hl 0 rfl) ?_
                  by_cases cb_42 : inb ((q_order mo_35) (k : Int32).toNatClampNeg) 2600
                  case neg => exact absurd (by unfold f_Mo_node; rw [if_neg c_1, if_pos c_12, if_neg c_13, if_neg c_24, bndM_r w_35, if_pos c_36, if_pos cb_37, if_neg c_38, if_neg c_39, if_pos c_40, if_neg cb_42]) hg
                  refine va_iald (D := (dC, dI)) hx hb hK hP 6 0 rfl rfl cb_42 d_Mo_node_93 ?_
                  refine lv_goto (tgt := 104) hx hb d_Mo_node_94 (by decide) ?_
                  exact mr_iret (v := ((q_value mo_35) (((q_order mo_35) (k : Int32).toNatClampNeg) : Int32).toNatClampNeg)) (mo := mo_35) hx hb hr hlocks hK hP hD hS (by unfold f_Mo_node; rw [if_neg c_1, if_pos c_12, if_neg c_13, if_neg c_24, bndM_r w_35, if_pos c_36, if_pos cb_37, if_neg c_38, if_neg c_39, if_pos c_40, if_pos cb_42]) d_Mo_node_104
              · refine lv_aload_n hx hb d_Mo_node_73 rfl (lv_at hl 2 rfl) ?_
                refine lv_iload hx hb d_Mo_node_74 (lv_at hl 0 rfl) ?_
                refine mr_Vi (g := (f_Mo_childrenOf mo_35 ((q_order mo_35) (k : Int32).toNatClampNeg))) (As := [.int ((q_order mo_35) (k : Int32).toNatClampNeg)]) (rest := []) ⟨hx, hb, hml, hown, hts0⟩ (m_Mo_childrenOf l hlt dC dI cI cZ sa rk hm ma mo_35 _ ((q_order mo_35) (k : Int32).toNatClampNeg) (fun z => hg (by unfold f_Mo_node; rw [if_neg c_1, if_pos c_12, if_neg c_13, if_neg c_24, bndM_r w_35, if_pos c_36, if_pos cb_37, if_neg c_38, if_pos c_39, bndM_n z]))) hP hD hK hS hA hC hZ hnt hlocks L_1273 L_1275 L_81 L_90 L_1276 k_Mo_childrenOf ⟨(by show _ ≤ 1; omega), (by show _ ≤ 23; omega)⟩ rfl rfl hl.1 (Nat.le_of_ble_eq_true rfl) d_Mo_node_76 rfl (fun q z => by unfold f_Mo_node; rw [if_neg c_1, if_pos c_12, if_neg c_13, if_neg c_24, bndM_r w_35, if_pos c_36, if_pos cb_37, if_neg c_38, if_pos c_39, bndM_l z]) (fun r_43 mo_43 H locs w_43 hP hD hS => ?_)
                refine lv_goto (tgt := 104) hx hb d_Mo_node_79 (by decide) ?_
                exact mr_iret (v := r_43) (mo := mo_43) hx hb hr hlocks hK hP hD hS (by unfold f_Mo_node; rw [if_neg c_1, if_pos c_12, if_neg c_13, if_neg c_24, bndM_r w_35, if_pos c_36, if_pos cb_37, if_neg c_38, if_pos c_39, bndM_r w_43]) d_Mo_node_104
            · refine lv_aload_n hx hb d_Mo_node_58 rfl (lv_at hl 2 rfl) ?_
              refine va_get (D := (dC, dI)) (ci := 6) (v := .ref (ma 4)) (C := R_Mo) (T := T_Mo) (N := 31) hx hb hts u_Mo hown hK hP 0 rfl rfl 9 (by decide) (hts _ L_930) (fun _ h9 => h9) rfl d_Mo_node_59 ?_
              refine lv_iload hx hb d_Mo_node_62 (lv_at hl 0 rfl) ?_
              by_cases cb_44 : inb ((q_order mo_35) (k : Int32).toNatClampNeg) 2600
              case neg => exact absurd (by unfold f_Mo_node; rw [if_neg c_1, if_pos c_12, if_neg c_13, if_neg c_24, bndM_r w_35, if_pos c_36, if_pos cb_37, if_pos c_38, if_neg cb_44]) hg
              refine va_iald (D := (dC, dI)) hx hb hK hP 5 0 rfl rfl cb_44 d_Mo_node_64 ?_
              refine lv_goto (tgt := 104) hx hb d_Mo_node_65 (by decide) ?_
              exact mr_iret (v := ((q_kind mo_35) (((q_order mo_35) (k : Int32).toNatClampNeg) : Int32).toNatClampNeg)) (mo := mo_35) hx hb hr hlocks hK hP hD hS (by unfold f_Mo_node; rw [if_neg c_1, if_pos c_12, if_neg c_13, if_neg c_24, bndM_r w_35, if_pos c_36, if_pos cb_37, if_pos c_38, if_pos cb_44]) d_Mo_node_104
          · refine lv_iconst (v := 0) hx hb d_Mo_node_44 (by decide) ?_
            exact mr_iret (v := 0) (mo := mo_35) hx hb hr hlocks hK hP hD hS (by unfold f_Mo_node; rw [if_neg c_1, if_pos c_12, if_neg c_13, if_neg c_24, bndM_r w_35, if_neg c_36]) d_Mo_node_45
    · refine lv_iconst (v := 1) hx hb d_Mo_node_9 (by decide) ?_
      refine lv_goto (tgt := 14) hx hb d_Mo_node_10 (by decide) ?_
      refine lv_istore_n (lv' := [(3, .int 1), (0, .ref hm), (1, .int k), (2, .int what)]) hx hb d_Mo_node_14 rfl hl (by decide) rfl (fun ls hl => ?_)
      refine lv_aload_n hx hb d_Mo_node_15 rfl (lv_at hl 1 rfl) ?_
      refine lv_iload_n hx hb d_Mo_node_16 rfl (lv_at hl 0 rfl) ?_
      refine lv_iload_n hx hb d_Mo_node_17 rfl (lv_at hl 0 rfl) ?_
      refine lv_if_ne (tgt := 37) hx hb d_Mo_node_18 (by decide) (fun _ => ?_) (fun q9 => absurd q9 (by decide))
      refine lv_iconst (v := 0) hx hb d_Mo_node_37 (by decide) ?_
      refine mr_Vi (g := (f_Mo_throwing mo 1 0)) (As := [.int 1, .int 0]) (rest := []) ⟨hx, hb, hml, hown, hts0⟩ (m_Mo_throwing l hlt dC dI cI cZ sa rk hm ma mo _ 1 0 (fun z => hg (by unfold f_Mo_node; rw [if_neg c_1, if_neg c_12, bndM_n z]))) hP hD hK hS hA hC hZ hnt hlocks L_1029 L_1031 L_56 L_90 L_1032 k_Mo_throwing ⟨(by show _ ≤ 1; omega), (by show _ ≤ 23; omega)⟩ rfl rfl hl.1 (Nat.le_of_ble_eq_true rfl) d_Mo_node_38 rfl (fun q z => by unfold f_Mo_node; rw [if_neg c_1, if_neg c_12, bndM_l z]) (fun r_45 mo_45 H locs w_45 hP hD hS => ?_)
      refine lv_if_eq (tgt := 46) hx hb d_Mo_node_41 (by decide) (fun c_46 => ?_) (fun c_46 => ?_)
      · refine lv_aload_n hx hb d_Mo_node_46 rfl (lv_at hl 1 rfl) ?_
        refine va_get (D := (dC, dI)) (ci := 6) (v := .ref (ma 10)) (C := R_Mo) (T := T_Mo) (N := 31) hx hb hts u_Mo hown hK hP 0 rfl rfl 16 (by decide) (hts _ L_937) (fun _ h9 => h9) rfl d_Mo_node_47 ?_
        refine lv_iload_n hx hb d_Mo_node_50 rfl (lv_at hl 2 rfl) ?_
        by_cases cb_47 : inb k 2600
        case neg => exact absurd (by unfold f_Mo_node; rw [if_neg c_1, if_neg c_12, bndM_r w_45, if_pos c_46, if_neg cb_47]) hg
        refine va_iald (D := (dC, dI)) hx hb hK hP 11 0 rfl rfl cb_47 d_Mo_node_51 ?_
        refine lv_istore (lv' := [(4, .int ((q_order mo_45) (k : Int32).toNatClampNeg)), (3, .int 1), (0, .ref hm), (1, .int k), (2, .int what)]) hx hb d_Mo_node_52 hl (by decide) rfl (fun ls hl => ?_)
        refine lv_iload_n hx hb d_Mo_node_54 rfl (lv_at hl 4 rfl) ?_
        refine lv_if_ne (tgt := 68) hx hb d_Mo_node_55 (by decide) (fun c_48 => ?_) (fun c_48 => ?_)
        · refine lv_iload_n hx hb d_Mo_node_68 rfl (lv_at hl 4 rfl) ?_
          refine lv_iconst (v := 1) hx hb d_Mo_node_69 (by decide) ?_
          refine lv_icmp_ne (tgt := 82) hx hb d_Mo_node_70 (by decide) (fun c_49 => ?_) (fun c_49 => ?_)
          · refine lv_iload_n hx hb d_Mo_node_82 rfl (lv_at hl 4 rfl) ?_
            refine lv_iconst (v := 2) hx hb d_Mo_node_83 (by decide) ?_
            refine lv_icmp_ne (tgt := 97) hx hb d_Mo_node_84 (by decide) (fun c_50 => ?_) (fun c_50 => ?_)
            · refine lv_aload_n hx hb d_Mo_node_97 rfl (lv_at hl 2 rfl) ?_
              refine va_get (D := (dC, dI)) (ci := 6) (v := .ref (ma 6)) (C := R_Mo) (T := T_Mo) (N := 31) hx hb hts u_Mo hown hK hP 0 rfl rfl 11 (by decide) (hts _ L_932) (fun _ h9 => h9) rfl d_Mo_node_98 ?_
              refine lv_iload hx hb d_Mo_node_101 (lv_at hl 0 rfl) ?_
              by_cases cb_51 : inb ((q_order mo_45) (k : Int32).toNatClampNeg) 2600
              case neg => exact absurd (by unfold f_Mo_node; rw [if_neg c_1, if_neg c_12, bndM_r w_45, if_pos c_46, if_pos cb_47, if_neg c_48, if_neg c_49, if_neg c_50, if_neg cb_51]) hg
              refine va_iald (D := (dC, dI)) hx hb hK hP 7 0 rfl rfl cb_51 d_Mo_node_103 ?_
              exact mr_iret (v := ((q_spot mo_45) (((q_order mo_45) (k : Int32).toNatClampNeg) : Int32).toNatClampNeg)) (mo := mo_45) hx hb hr hlocks hK hP hD hS (by unfold f_Mo_node; rw [if_neg c_1, if_neg c_12, bndM_r w_45, if_pos c_46, if_pos cb_47, if_neg c_48, if_neg c_49, if_neg c_50, if_pos cb_51]) d_Mo_node_104
            · refine lv_aload_n hx hb d_Mo_node_87 rfl (lv_at hl 2 rfl) ?_
              refine va_get (D := (dC, dI)) (ci := 6) (v := .ref (ma 5)) (C := R_Mo) (T := T_Mo) (N := 31) hx hb hts u_Mo hown hK hP 0 rfl rfl 10 (by decide) (hts _ L_931) (fun _ h9 => h9) rfl d_Mo_node_88 ?_
              refine lv_iload hx hb d_Mo_node_91 (lv_at hl 0 rfl) ?_
              by_cases cb_52 : inb ((q_order mo_45) (k : Int32).toNatClampNeg) 2600
              case neg => exact absurd (by unfold f_Mo_node; rw [if_neg c_1, if_neg c_12, bndM_r w_45, if_pos c_46, if_pos cb_47, if_neg c_48, if_neg c_49, if_pos c_50, if_neg cb_52]) hg
              refine va_iald (D := (dC, dI)) hx hb hK hP 6 0 rfl rfl cb_52 d_Mo_node_93 ?_
              refine lv_goto (tgt := 104) hx hb d_Mo_node_94 (by decide) ?_
              exact mr_iret (v := ((q_value mo_45) (((q_order mo_45) (k : Int32).toNatClampNeg) : Int32).toNatClampNeg)) (mo := mo_45) hx hb hr hlocks hK hP hD hS (by unfold f_Mo_node; rw [if_neg c_1, if_neg c_12, bndM_r w_45, if_pos c_46, if_pos cb_47, if_neg c_48, if_neg c_49, if_pos c_50, if_pos cb_52]) d_Mo_node_104
          · refine lv_aload_n hx hb d_Mo_node_73 rfl (lv_at hl 2 rfl) ?_
            refine lv_iload hx hb d_Mo_node_74 (lv_at hl 0 rfl) ?_
            refine mr_Vi (g := (f_Mo_childrenOf mo_45 ((q_order mo_45) (k : Int32).toNatClampNeg))) (As := [.int ((q_order mo_45) (k : Int32).toNatClampNeg)]) (rest := []) ⟨hx, hb, hml, hown, hts0⟩ (m_Mo_childrenOf l hlt dC dI cI cZ sa rk hm ma mo_45 _ ((q_order mo_45) (k : Int32).toNatClampNeg) (fun z => hg (by unfold f_Mo_node; rw [if_neg c_1, if_neg c_12, bndM_r w_45, if_pos c_46, if_pos cb_47, if_neg c_48, if_pos c_49, bndM_n z]))) hP hD hK hS hA hC hZ hnt hlocks L_1273 L_1275 L_81 L_90 L_1276 k_Mo_childrenOf ⟨(by show _ ≤ 1; omega), (by show _ ≤ 23; omega)⟩ rfl rfl hl.1 (Nat.le_of_ble_eq_true rfl) d_Mo_node_76 rfl (fun q z => by unfold f_Mo_node; rw [if_neg c_1, if_neg c_12, bndM_r w_45, if_pos c_46, if_pos cb_47, if_neg c_48, if_pos c_49, bndM_l z]) (fun r_53 mo_53 H locs w_53 hP hD hS => ?_)
            refine lv_goto (tgt := 104) hx hb d_Mo_node_79 (by decide) ?_
            exact mr_iret (v := r_53) (mo := mo_53) hx hb hr hlocks hK hP hD hS (by unfold f_Mo_node; rw [if_neg c_1, if_neg c_12, bndM_r w_45, if_pos c_46, if_pos cb_47, if_neg c_48, if_pos c_49, bndM_r w_53]) d_Mo_node_104
        · refine lv_aload_n hx hb d_Mo_node_58 rfl (lv_at hl 2 rfl) ?_
          refine va_get (D := (dC, dI)) (ci := 6) (v := .ref (ma 4)) (C := R_Mo) (T := T_Mo) (N := 31) hx hb hts u_Mo hown hK hP 0 rfl rfl 9 (by decide) (hts _ L_930) (fun _ h9 => h9) rfl d_Mo_node_59 ?_
          refine lv_iload hx hb d_Mo_node_62 (lv_at hl 0 rfl) ?_
          by_cases cb_54 : inb ((q_order mo_45) (k : Int32).toNatClampNeg) 2600
          case neg => exact absurd (by unfold f_Mo_node; rw [if_neg c_1, if_neg c_12, bndM_r w_45, if_pos c_46, if_pos cb_47, if_pos c_48, if_neg cb_54]) hg
          refine va_iald (D := (dC, dI)) hx hb hK hP 5 0 rfl rfl cb_54 d_Mo_node_64 ?_
          refine lv_goto (tgt := 104) hx hb d_Mo_node_65 (by decide) ?_
          exact mr_iret (v := ((q_kind mo_45) (((q_order mo_45) (k : Int32).toNatClampNeg) : Int32).toNatClampNeg)) (mo := mo_45) hx hb hr hlocks hK hP hD hS (by unfold f_Mo_node; rw [if_neg c_1, if_neg c_12, bndM_r w_45, if_pos c_46, if_pos cb_47, if_pos c_48, if_pos cb_54]) d_Mo_node_104
      · refine lv_iconst (v := 0) hx hb d_Mo_node_44 (by decide) ?_
        exact mr_iret (v := 0) (mo := mo_45) hx hb hr hlocks hK hP hD hS (by unfold f_Mo_node; rw [if_neg c_1, if_neg c_12, bndM_r w_45, if_neg c_46]) d_Mo_node_45
def f_Mo_child_L71 (k : Int32) (i : Int32) : Nat → Int32 → Int32 → MO → Rm
  | 0, _, _, _ => none
  | fu_6 + 1, x4, x5, sx_6 => (if i ≤ x5 then (some (.inr (x4, sx_6))) else (if inb x4 2600 then (f_Mo_child_L71 k i fu_6 ((q_next sx_6) (x4 : Int32).toNatClampNeg) (x5 + 1) sx_6) else none))
def f_Mo_child (mo : MO) (k : Int32) (i : Int32) : Rm := (if k < 0 then (bndM (f_Mo_throwing mo 1 0) (fun r_2 mo_2 => (if r_2 = 0 then (if inb k 2600 then (if inb ((q_order mo_2) (k : Int32).toNatClampNeg) 2600 then (bndM (f_Mo_child_L71 k i 5000 ((q_first mo_2) (((q_order mo_2) (k : Int32).toNatClampNeg) : Int32).toNatClampNeg) 0 mo_2) (fun rv_6 se_6 => (if inb rv_6 2600 then (some (.inr (((q_number se_6) (rv_6 : Int32).toNatClampNeg), se_6))) else none))) else none) else none) else (some (.inr (0, mo_2)))))) else (if (q_nodes mo) ≤ k then (bndM (f_Mo_throwing mo 1 0) (fun r_11 mo_11 => (if r_11 = 0 then (if inb k 2600 then (if inb ((q_order mo_11) (k : Int32).toNatClampNeg) 2600 then (bndM (f_Mo_child_L71 k i 5000 ((q_first mo_11) (((q_order mo_11) (k : Int32).toNatClampNeg) : Int32).toNatClampNeg) 0 mo_11) (fun rv_15 se_15 => (if inb rv_15 2600 then (some (.inr (((q_number se_15) (rv_15 : Int32).toNatClampNeg), se_15))) else none))) else none) else none) else (some (.inr (0, mo_11)))))) else (if 0 ≤ i then (if inb k 2600 then (bndM (f_Mo_childrenOf mo ((q_order mo) (k : Int32).toNatClampNeg)) (fun r_21 mo_21 => (if i < r_21 then (bndM (f_Mo_throwing mo_21 0 0) (fun r_23 mo_23 => (if r_23 = 0 then (if inb ((q_order mo_23) (k : Int32).toNatClampNeg) 2600 then (bndM (f_Mo_child_L71 k i 5000 ((q_first mo_23) (((q_order mo_23) (k : Int32).toNatClampNeg) : Int32).toNatClampNeg) 0 mo_23) (fun rv_26 se_26 => (if inb rv_26 2600 then (some (.inr (((q_number se_26) (rv_26 : Int32).toNatClampNeg), se_26))) else none))) else none) else (some (.inr (0, mo_23)))))) else (bndM (f_Mo_throwing mo_21 1 0) (fun r_30 mo_30 => (if r_30 = 0 then (if inb ((q_order mo_30) (k : Int32).toNatClampNeg) 2600 then (bndM (f_Mo_child_L71 k i 5000 ((q_first mo_30) (((q_order mo_30) (k : Int32).toNatClampNeg) : Int32).toNatClampNeg) 0 mo_30) (fun rv_33 se_33 => (if inb rv_33 2600 then (some (.inr (((q_number se_33) (rv_33 : Int32).toNatClampNeg), se_33))) else none))) else none) else (some (.inr (0, mo_30))))))))) else none) else (bndM (f_Mo_throwing mo 1 0) (fun r_37 mo_37 => (if r_37 = 0 then (if inb k 2600 then (if inb ((q_order mo_37) (k : Int32).toNatClampNeg) 2600 then (bndM (f_Mo_child_L71 k i 5000 ((q_first mo_37) (((q_order mo_37) (k : Int32).toNatClampNeg) : Int32).toNatClampNeg) 0 mo_37) (fun rv_41 se_41 => (if inb rv_41 2600 then (some (.inr (((q_number se_41) (rv_41 : Int32).toNatClampNeg), se_41))) else none))) else none) else none) else (some (.inr (0, mo_37)))))))))
set_option maxRecDepth 100000 in
set_option maxHeartbeats 4000000 in
theorem m_Mo_child (l : Launch) (hlt : l.stackTraces = false) (dC : Nat → ClassId) (dI : Nat → Nat → Nat) (cI cZ : ClassId) (sa rk hm : Nat) (ma : Nat → Nat)  (mo : MO) (sz : Nat) (k : Int32) (i : Int32) (hg : (f_Mo_child mo k i) ≠ none) : cXi l y_Mo_child c_Mo_child 6 .int (1) (23) (dC, dI) cI cZ sa rk hm ma mo sz [.ref hm, .int k, .int i] (f_Mo_child mo k i) := by
  refine vx_ofW (cc := c_Mo_child) (maxL := 6) (ret := (some .int)) (by decide) rfl ?_
  intro p e s m args below meth c s₁ B hml hnt hv
  obtain ⟨rfl, hsz, hP, hK, hD0, hC, hZ⟩ := hv
  have hx := B.exec
  have hb := B.bytes
  have hr := B.returns
  have hts0 := atoms_spec (ws := wy y_Mo_child c_Mo_child 6 (some .int)) B.pre
  have hts := htsL hts0
  have hown : s.vm.findClass R_Mo = some m.cls := findClass_of_methodNamed B.named
  have hlocks := B.notSynchronized
  subst hsz
  have hD := hD0.self (sz := s.heap.size)
  generalize hAe : va_A (wM cI cZ hm ma mo) s.heap.size = A at hD hZ ⊢
  have hA : ∀ q : Nat, s.heap.size ≤ q → A q := fun q h => by rw [← hAe]; exact Or.inr h
  have hS : va_S A s.heap s.heap [] := va_S.rf
  have hl := lv_entry ([.ref hm, .int k, .int i]) (n := 6) (Nat.le_of_ble_eq_true rfl)
  rw [lg_entry_eq]
  generalize (lg_sl ([.ref hm, .int k, .int i]) ++ List.replicate (6 - (lg_sl ([.ref hm, .int k, .int i])).length) Slot.unset).toArray = ls at hl ⊢
  have hl : lv_has ls 6 [(0, .ref hm), (1, .int k), (2, .int i)] := hl
  refine lv_iload_n hx hb d_Mo_child_0 rfl (lv_at hl 1 rfl) ?_
  refine lv_if_lt (tgt := 16) hx hb d_Mo_child_1 (by decide) (fun c_1 => ?_) (fun c_1 => ?_)
  · refine lv_iconst (v := 1) hx hb d_Mo_child_16 (by decide) ?_
    refine lv_goto (tgt := 21) hx hb d_Mo_child_17 (by decide) ?_
    refine lv_istore_n (lv' := [(3, .int 1), (0, .ref hm), (1, .int k), (2, .int i)]) hx hb d_Mo_child_21 rfl hl (by decide) rfl (fun ls hl => ?_)
    refine lv_aload_n hx hb d_Mo_child_22 rfl (lv_at hl 1 rfl) ?_
    refine lv_iload_n hx hb d_Mo_child_23 rfl (lv_at hl 0 rfl) ?_
    refine lv_if_ne (tgt := 41) hx hb d_Mo_child_24 (by decide) (fun _ => ?_) (fun q9 => absurd q9 (by decide))
    refine lv_iconst (v := 1) hx hb d_Mo_child_41 (by decide) ?_
    refine lv_goto (tgt := 46) hx hb d_Mo_child_42 (by decide) ?_
    refine lv_iconst (v := 0) hx hb d_Mo_child_46 (by decide) ?_
    refine mr_Vi (g := (f_Mo_throwing mo 1 0)) (As := [.int 1, .int 0]) (rest := []) ⟨hx, hb, hml, hown, hts0⟩ (m_Mo_throwing l hlt dC dI cI cZ sa rk hm ma mo _ 1 0 (fun z => hg (by unfold f_Mo_child; rw [if_pos c_1, bndM_n z]))) hP hD hK hS hA hC hZ hnt hlocks L_1029 L_1031 L_56 L_90 L_1032 k_Mo_throwing ⟨(by show _ ≤ 1; omega), (by show _ ≤ 23; omega)⟩ rfl rfl hl.1 (Nat.le_of_ble_eq_true rfl) d_Mo_child_47 rfl (fun q z => by unfold f_Mo_child; rw [if_pos c_1, bndM_l z]) (fun r_2 mo_2 H locs w_2 hP hD hS => ?_)
    refine lv_if_eq (tgt := 55) hx hb d_Mo_child_50 (by decide) (fun c_3 => ?_) (fun c_3 => ?_)
    · refine lv_aload_n hx hb d_Mo_child_55 rfl (lv_at hl 1 rfl) ?_
      refine va_get (D := (dC, dI)) (ci := 6) (v := .ref (ma 7)) (C := R_Mo) (T := T_Mo) (N := 31) hx hb hts u_Mo hown hK hP 0 rfl rfl 12 (by decide) (hts _ L_933) (fun _ h9 => h9) rfl d_Mo_child_56 ?_
      refine lv_aload_n hx hb d_Mo_child_59 rfl (lv_at hl 1 rfl) ?_
      refine va_get (D := (dC, dI)) (ci := 6) (v := .ref (ma 10)) (C := R_Mo) (T := T_Mo) (N := 31) hx hb hts u_Mo hown hK hP 0 rfl rfl 16 (by decide) (hts _ L_937) (fun _ h9 => h9) rfl d_Mo_child_60 ?_
      refine lv_iload_n hx hb d_Mo_child_63 rfl (lv_at hl 2 rfl) ?_
      by_cases cb_4 : inb k 2600
      case neg => exact absurd (by unfold f_Mo_child; rw [if_pos c_1, bndM_r w_2, if_pos c_3, if_neg cb_4]) hg
      refine va_iald (D := (dC, dI)) hx hb hK hP 11 0 rfl rfl cb_4 d_Mo_child_64 ?_
      by_cases cb_5 : inb ((q_order mo_2) (k : Int32).toNatClampNeg) 2600
      case neg => exact absurd (by unfold f_Mo_child; rw [if_pos c_1, bndM_r w_2, if_pos c_3, if_pos cb_4, if_neg cb_5]) hg
      refine va_iald (D := (dC, dI)) hx hb hK hP 8 0 rfl rfl cb_5 d_Mo_child_65 ?_
      refine lv_istore (lv' := [(4, .int ((q_first mo_2) (((q_order mo_2) (k : Int32).toNatClampNeg) : Int32).toNatClampNeg)), (3, .int 1), (0, .ref hm), (1, .int k), (2, .int i)]) hx hb d_Mo_child_66 hl (by decide) rfl (fun ls hl => ?_)
      refine lv_iconst (v := 0) hx hb d_Mo_child_68 (by decide) ?_
      refine lv_istore (lv' := [(5, .int 0), (4, .int ((q_first mo_2) (((q_order mo_2) (k : Int32).toNatClampNeg) : Int32).toNatClampNeg)), (3, .int 1), (0, .ref hm), (1, .int k), (2, .int i)]) hx hb d_Mo_child_69 hl (by decide) rfl (fun ls hl => ?_)
      obtain ⟨x_6, hx_6⟩ : ∃ z, f_Mo_child_L71 k i 5000 ((q_first mo_2) (((q_order mo_2) (k : Int32).toNatClampNeg) : Int32).toNatClampNeg) 0 mo_2 = z := ⟨_, rfl⟩
      have hn_6 : x_6 ≠ none := (fun z => hg (by unfold f_Mo_child; rw [if_pos c_1, bndM_r w_2, if_pos c_3, if_pos cb_4, if_pos cb_5, bndM_n (hx_6.trans z)]))
      have hX_6 : ∀ q, x_6 = some (.inl q) → (f_Mo_child mo k i) = some (.inl q) := (fun q z => by unfold f_Mo_child; rw [if_pos c_1, bndM_r w_2, if_pos c_3, if_pos cb_4, if_pos cb_5, bndM_l (hx_6.trans z)])
      have lp_6 : ∀ (fu : Nat) (x4 x5 : Int32) (sx_6 : MO) (H : Heap) (locs : List Loc) (ls : Array Slot), va_P (dC, dI) cls (wM cI cZ hm ma sx_6) H → va_D A (wM cI cZ hm ma sx_6) → va_S A s.heap H locs → lv_has ls 6 [(0, .ref hm), (1, .int k), (2, .int i), (3, .int 1), (4, .int x4), (5, .int x5)] → x_6 = f_Mo_child_L71 k i fu x4 x5 sx_6 → W p l e (headSpec (wy y_Mo_child c_Mo_child 6 (some .int)) { frames := (1), cells := 1, slots := 6, locals := (23) }).room s m [.ref hm, .int k, .int i].toArray below meth c H locs 0 0 (vx_MQ below (va_Qi (fun r (u : MO) => (f_Mo_child mo k i) = some (.inr (r, u))) (wB (dC, dI) cI cZ A (wM cI cZ hm ma)) A) (xM (dC, dI) cI cZ hm ma (f_Mo_child mo k i) A) [.ref hm, .int k, .int i].toArray s (mcM (f_Mo_child mo k i)) (msM (f_Mo_child mo k i)) A) (F0 m 71 ls []) := by
        intro fu
        induction fu with
        | zero => intro x4 x5 sx_6 H locs ls hP hD hS hl hL_6; exact absurd (hL_6.trans rfl) hn_6
        | succ fu_6 ih_6 =>
          intro x4 x5 sx_6 H locs ls hP hD hS hl hL_6
          rw [f_Mo_child_L71] at hL_6
          refine lv_iload hx hb d_Mo_child_71 (lv_at hl 5 rfl) ?_
          refine lv_iload_n hx hb d_Mo_child_73 rfl (lv_at hl 2 rfl) ?_
          refine lv_icmp_ge (tgt := 92) hx hb d_Mo_child_74 (by decide) (fun c_7 => ?_) (fun c_7 => ?_)
          · rw [if_pos c_7] at hL_6
            obtain ⟨se_6, hse_6⟩ : ∃ z : MO, z = sx_6 := ⟨_, rfl⟩
            have hP : va_P (dC, dI) cls (wM cI cZ hm ma se_6) H := by rw [hse_6]; exact hP
            have hD : va_D A (wM cI cZ hm ma se_6) := by rw [hse_6]; exact hD
            obtain ⟨rv_6, hrv_6⟩ : ∃ z : Int32, z = x4 := ⟨_, rfl⟩
            have we_6 : f_Mo_child_L71 k i 5000 ((q_first mo_2) (((q_order mo_2) (k : Int32).toNatClampNeg) : Int32).toNatClampNeg) 0 mo_2 = some (.inr (rv_6, se_6)) := by rw [hrv_6, hse_6]; exact hx_6.trans hL_6
            have hl : lv_has ls 6 [(0, .ref hm), (1, .int k), (2, .int i), (3, .int 1), (4, .int rv_6)] := by rw [hrv_6]; exact lv_sub hl [0, 1, 2, 3, 4] rfl
            refine lv_aload_n hx hb d_Mo_child_92 rfl (lv_at hl 0 rfl) ?_
            refine va_get (D := (dC, dI)) (ci := 6) (v := .ref (ma 11)) (C := R_Mo) (T := T_Mo) (N := 31) hx hb hts u_Mo hown hK hP 0 rfl rfl 17 (by decide) (hts _ L_938) (fun _ h9 => h9) rfl d_Mo_child_93 ?_
            refine lv_iload hx hb d_Mo_child_96 (lv_at hl 4 rfl) ?_
            by_cases cb_8 : inb rv_6 2600
            case neg => exact absurd (by unfold f_Mo_child; rw [if_pos c_1, bndM_r w_2, if_pos c_3, if_pos cb_4, if_pos cb_5, bndM_r we_6, if_neg cb_8]) hg
            refine va_iald (D := (dC, dI)) hx hb hK hP 12 0 rfl rfl cb_8 d_Mo_child_98 ?_
            exact mr_iret (v := ((q_number se_6) (rv_6 : Int32).toNatClampNeg)) (mo := se_6) hx hb hr hlocks hK hP hD hS (by unfold f_Mo_child; rw [if_pos c_1, bndM_r w_2, if_pos c_3, if_pos cb_4, if_pos cb_5, bndM_r we_6, if_pos cb_8]) d_Mo_child_99
          · rw [if_neg c_7] at hL_6
            refine lv_aload_n hx hb d_Mo_child_77 rfl (lv_at hl 0 rfl) ?_
            refine va_get (D := (dC, dI)) (ci := 6) (v := .ref (ma 9)) (C := R_Mo) (T := T_Mo) (N := 31) hx hb hts u_Mo hown hK hP 0 rfl rfl 14 (by decide) (hts _ L_935) (fun _ h9 => h9) rfl d_Mo_child_78 ?_
            refine lv_iload hx hb d_Mo_child_81 (lv_at hl 4 rfl) ?_
            by_cases cb_9 : inb x4 2600
            case neg => exact absurd (hL_6.trans (if_neg cb_9)) hn_6
            rw [if_pos cb_9] at hL_6
            refine va_iald (D := (dC, dI)) hx hb hK hP 10 0 rfl rfl cb_9 d_Mo_child_83 ?_
            refine lv_istore (lv' := [(4, .int ((q_next sx_6) (x4 : Int32).toNatClampNeg)), (0, .ref hm), (1, .int k), (2, .int i), (3, .int 1), (5, .int x5)]) hx hb d_Mo_child_84 hl (by decide) rfl (fun ls hl => ?_)
            refine lv_iinc (v := (x5 + 1)) (lv' := [(5, .int (x5 + 1)), (4, .int ((q_next sx_6) (x4 : Int32).toNatClampNeg)), (0, .ref hm), (1, .int k), (2, .int i), (3, .int 1)]) hx hb d_Mo_child_86 hl (k := 5) rfl rfl (by decide) rfl (fun ls hl => ?_)
            refine lv_goto (tgt := 71) hx hb d_Mo_child_89 (by decide) ?_
            exact ih_6 ((q_next sx_6) (x4 : Int32).toNatClampNeg) (x5 + 1) sx_6 _ _ ls hP hD hS (lv_sub hl [2, 3, 4, 5, 1, 0] rfl) hL_6
      exact lp_6 5000 ((q_first mo_2) (((q_order mo_2) (k : Int32).toNatClampNeg) : Int32).toNatClampNeg) 0 mo_2 _ _ ls hP hD hS (lv_sub hl [3, 4, 5, 2, 1, 0] rfl) hx_6.symm
    · refine lv_iconst (v := 0) hx hb d_Mo_child_53 (by decide) ?_
      exact mr_iret (v := 0) (mo := mo_2) hx hb hr hlocks hK hP hD hS (by unfold f_Mo_child; rw [if_pos c_1, bndM_r w_2, if_neg c_3]) d_Mo_child_54
  · refine lv_iload_n hx hb d_Mo_child_4 rfl (lv_at hl 1 rfl) ?_
    refine lv_aload_n hx hb d_Mo_child_5 rfl (lv_at hl 0 rfl) ?_
    refine va_get (D := (dC, dI)) (ci := 6) (v := .int (q_nodes mo)) (C := R_Mo) (T := T_Mo) (N := 31) hx hb hts u_Mo hown hK hP 0 rfl rfl 15 (by decide) (hts _ L_936) (fun _ h9 => h9) rfl d_Mo_child_6 ?_
    refine lv_icmp_ge (tgt := 16) hx hb d_Mo_child_9 (by decide) (fun c_10 => ?_) (fun c_10 => ?_)
    · refine lv_iconst (v := 1) hx hb d_Mo_child_16 (by decide) ?_
      refine lv_goto (tgt := 21) hx hb d_Mo_child_17 (by decide) ?_
      refine lv_istore_n (lv' := [(3, .int 1), (0, .ref hm), (1, .int k), (2, .int i)]) hx hb d_Mo_child_21 rfl hl (by decide) rfl (fun ls hl => ?_)
      refine lv_aload_n hx hb d_Mo_child_22 rfl (lv_at hl 1 rfl) ?_
      refine lv_iload_n hx hb d_Mo_child_23 rfl (lv_at hl 0 rfl) ?_
      refine lv_if_ne (tgt := 41) hx hb d_Mo_child_24 (by decide) (fun _ => ?_) (fun q9 => absurd q9 (by decide))
      refine lv_iconst (v := 1) hx hb d_Mo_child_41 (by decide) ?_
      refine lv_goto (tgt := 46) hx hb d_Mo_child_42 (by decide) ?_
      refine lv_iconst (v := 0) hx hb d_Mo_child_46 (by decide) ?_
      refine mr_Vi (g := (f_Mo_throwing mo 1 0)) (As := [.int 1, .int 0]) (rest := []) ⟨hx, hb, hml, hown, hts0⟩ (m_Mo_throwing l hlt dC dI cI cZ sa rk hm ma mo _ 1 0 (fun z => hg (by unfold f_Mo_child; rw [if_neg c_1, if_pos c_10, bndM_n z]))) hP hD hK hS hA hC hZ hnt hlocks L_1029 L_1031 L_56 L_90 L_1032 k_Mo_throwing ⟨(by show _ ≤ 1; omega), (by show _ ≤ 23; omega)⟩ rfl rfl hl.1 (Nat.le_of_ble_eq_true rfl) d_Mo_child_47 rfl (fun q z => by unfold f_Mo_child; rw [if_neg c_1, if_pos c_10, bndM_l z]) (fun r_11 mo_11 H locs w_11 hP hD hS => ?_)
      refine lv_if_eq (tgt := 55) hx hb d_Mo_child_50 (by decide) (fun c_12 => ?_) (fun c_12 => ?_)
      · refine lv_aload_n hx hb d_Mo_child_55 rfl (lv_at hl 1 rfl) ?_
        refine va_get (D := (dC, dI)) (ci := 6) (v := .ref (ma 7)) (C := R_Mo) (T := T_Mo) (N := 31) hx hb hts u_Mo hown hK hP 0 rfl rfl 12 (by decide) (hts _ L_933) (fun _ h9 => h9) rfl d_Mo_child_56 ?_
        refine lv_aload_n hx hb d_Mo_child_59 rfl (lv_at hl 1 rfl) ?_
        refine va_get (D := (dC, dI)) (ci := 6) (v := .ref (ma 10)) (C := R_Mo) (T := T_Mo) (N := 31) hx hb hts u_Mo hown hK hP 0 rfl rfl 16 (by decide) (hts _ L_937) (fun _ h9 => h9) rfl d_Mo_child_60 ?_
        refine lv_iload_n hx hb d_Mo_child_63 rfl (lv_at hl 2 rfl) ?_
        by_cases cb_13 : inb k 2600
        case neg => exact absurd (by unfold f_Mo_child; rw [if_neg c_1, if_pos c_10, bndM_r w_11, if_pos c_12, if_neg cb_13]) hg
        refine va_iald (D := (dC, dI)) hx hb hK hP 11 0 rfl rfl cb_13 d_Mo_child_64 ?_
        by_cases cb_14 : inb ((q_order mo_11) (k : Int32).toNatClampNeg) 2600
        case neg => exact absurd (by unfold f_Mo_child; rw [if_neg c_1, if_pos c_10, bndM_r w_11, if_pos c_12, if_pos cb_13, if_neg cb_14]) hg
        refine va_iald (D := (dC, dI)) hx hb hK hP 8 0 rfl rfl cb_14 d_Mo_child_65 ?_
        refine lv_istore (lv' := [(4, .int ((q_first mo_11) (((q_order mo_11) (k : Int32).toNatClampNeg) : Int32).toNatClampNeg)), (3, .int 1), (0, .ref hm), (1, .int k), (2, .int i)]) hx hb d_Mo_child_66 hl (by decide) rfl (fun ls hl => ?_)
        refine lv_iconst (v := 0) hx hb d_Mo_child_68 (by decide) ?_
        refine lv_istore (lv' := [(5, .int 0), (4, .int ((q_first mo_11) (((q_order mo_11) (k : Int32).toNatClampNeg) : Int32).toNatClampNeg)), (3, .int 1), (0, .ref hm), (1, .int k), (2, .int i)]) hx hb d_Mo_child_69 hl (by decide) rfl (fun ls hl => ?_)
        obtain ⟨x_15, hx_15⟩ : ∃ z, f_Mo_child_L71 k i 5000 ((q_first mo_11) (((q_order mo_11) (k : Int32).toNatClampNeg) : Int32).toNatClampNeg) 0 mo_11 = z := ⟨_, rfl⟩
        have hn_15 : x_15 ≠ none := (fun z => hg (by unfold f_Mo_child; rw [if_neg c_1, if_pos c_10, bndM_r w_11, if_pos c_12, if_pos cb_13, if_pos cb_14, bndM_n (hx_15.trans z)]))
        have hX_15 : ∀ q, x_15 = some (.inl q) → (f_Mo_child mo k i) = some (.inl q) := (fun q z => by unfold f_Mo_child; rw [if_neg c_1, if_pos c_10, bndM_r w_11, if_pos c_12, if_pos cb_13, if_pos cb_14, bndM_l (hx_15.trans z)])
        have lp_15 : ∀ (fu : Nat) (x4 x5 : Int32) (sx_15 : MO) (H : Heap) (locs : List Loc) (ls : Array Slot), va_P (dC, dI) cls (wM cI cZ hm ma sx_15) H → va_D A (wM cI cZ hm ma sx_15) → va_S A s.heap H locs → lv_has ls 6 [(0, .ref hm), (1, .int k), (2, .int i), (3, .int 1), (4, .int x4), (5, .int x5)] → x_15 = f_Mo_child_L71 k i fu x4 x5 sx_15 → W p l e (headSpec (wy y_Mo_child c_Mo_child 6 (some .int)) { frames := (1), cells := 1, slots := 6, locals := (23) }).room s m [.ref hm, .int k, .int i].toArray below meth c H locs 0 0 (vx_MQ below (va_Qi (fun r (u : MO) => (f_Mo_child mo k i) = some (.inr (r, u))) (wB (dC, dI) cI cZ A (wM cI cZ hm ma)) A) (xM (dC, dI) cI cZ hm ma (f_Mo_child mo k i) A) [.ref hm, .int k, .int i].toArray s (mcM (f_Mo_child mo k i)) (msM (f_Mo_child mo k i)) A) (F0 m 71 ls []) := by
          intro fu
          induction fu with
          | zero => intro x4 x5 sx_15 H locs ls hP hD hS hl hL_15; exact absurd (hL_15.trans rfl) hn_15
          | succ fu_15 ih_15 =>
            intro x4 x5 sx_15 H locs ls hP hD hS hl hL_15
            rw [f_Mo_child_L71] at hL_15
            refine lv_iload hx hb d_Mo_child_71 (lv_at hl 5 rfl) ?_
            refine lv_iload_n hx hb d_Mo_child_73 rfl (lv_at hl 2 rfl) ?_
            refine lv_icmp_ge (tgt := 92) hx hb d_Mo_child_74 (by decide) (fun c_16 => ?_) (fun c_16 => ?_)
            · rw [if_pos c_16] at hL_15
              obtain ⟨se_15, hse_15⟩ : ∃ z : MO, z = sx_15 := ⟨_, rfl⟩
              have hP : va_P (dC, dI) cls (wM cI cZ hm ma se_15) H := by rw [hse_15]; exact hP
              have hD : va_D A (wM cI cZ hm ma se_15) := by rw [hse_15]; exact hD
              obtain ⟨rv_15, hrv_15⟩ : ∃ z : Int32, z = x4 := ⟨_, rfl⟩
              have we_15 : f_Mo_child_L71 k i 5000 ((q_first mo_11) (((q_order mo_11) (k : Int32).toNatClampNeg) : Int32).toNatClampNeg) 0 mo_11 = some (.inr (rv_15, se_15)) := by rw [hrv_15, hse_15]; exact hx_15.trans hL_15
              have hl : lv_has ls 6 [(0, .ref hm), (1, .int k), (2, .int i), (3, .int 1), (4, .int rv_15)] := by rw [hrv_15]; exact lv_sub hl [0, 1, 2, 3, 4] rfl
              refine lv_aload_n hx hb d_Mo_child_92 rfl (lv_at hl 0 rfl) ?_
              refine va_get (D := (dC, dI)) (ci := 6) (v := .ref (ma 11)) (C := R_Mo) (T := T_Mo) (N := 31) hx hb hts u_Mo hown hK hP 0 rfl rfl 17 (by decide) (hts _ L_938) (fun _ h9 => h9) rfl d_Mo_child_93 ?_
              refine lv_iload hx hb d_Mo_child_96 (lv_at hl 4 rfl) ?_
              by_cases cb_17 : inb rv_15 2600
              case neg => exact absurd (by unfold f_Mo_child; rw [if_neg c_1, if_pos c_10, bndM_r w_11, if_pos c_12, if_pos cb_13, if_pos cb_14, bndM_r we_15, if_neg cb_17]) hg
              refine va_iald (D := (dC, dI)) hx hb hK hP 12 0 rfl rfl cb_17 d_Mo_child_98 ?_
              exact mr_iret (v := ((q_number se_15) (rv_15 : Int32).toNatClampNeg)) (mo := se_15) hx hb hr hlocks hK hP hD hS (by unfold f_Mo_child; rw [if_neg c_1, if_pos c_10, bndM_r w_11, if_pos c_12, if_pos cb_13, if_pos cb_14, bndM_r we_15, if_pos cb_17]) d_Mo_child_99
            · rw [if_neg c_16] at hL_15
              refine lv_aload_n hx hb d_Mo_child_77 rfl (lv_at hl 0 rfl) ?_
              refine va_get (D := (dC, dI)) (ci := 6) (v := .ref (ma 9)) (C := R_Mo) (T := T_Mo) (N := 31) hx hb hts u_Mo hown hK hP 0 rfl rfl 14 (by decide) (hts _ L_935) (fun _ h9 => h9) rfl d_Mo_child_78 ?_
              refine lv_iload hx hb d_Mo_child_81 (lv_at hl 4 rfl) ?_
              by_cases cb_18 : inb x4 2600
              case neg => exact absurd (hL_15.trans (if_neg cb_18)) hn_15
              rw [if_pos cb_18] at hL_15
              refine va_iald (D := (dC, dI)) hx hb hK hP 10 0 rfl rfl cb_18 d_Mo_child_83 ?_
              refine lv_istore (lv' := [(4, .int ((q_next sx_15) (x4 : Int32).toNatClampNeg)), (0, .ref hm), (1, .int k), (2, .int i), (3, .int 1), (5, .int x5)]) hx hb d_Mo_child_84 hl (by decide) rfl (fun ls hl => ?_)
              refine lv_iinc (v := (x5 + 1)) (lv' := [(5, .int (x5 + 1)), (4, .int ((q_next sx_15) (x4 : Int32).toNatClampNeg)), (0, .ref hm), (1, .int k), (2, .int i), (3, .int 1)]) hx hb d_Mo_child_86 hl (k := 5) rfl rfl (by decide) rfl (fun ls hl => ?_)
              refine lv_goto (tgt := 71) hx hb d_Mo_child_89 (by decide) ?_
              exact ih_15 ((q_next sx_15) (x4 : Int32).toNatClampNeg) (x5 + 1) sx_15 _ _ ls hP hD hS (lv_sub hl [2, 3, 4, 5, 1, 0] rfl) hL_15
        exact lp_15 5000 ((q_first mo_11) (((q_order mo_11) (k : Int32).toNatClampNeg) : Int32).toNatClampNeg) 0 mo_11 _ _ ls hP hD hS (lv_sub hl [3, 4, 5, 2, 1, 0] rfl) hx_15.symm
      · refine lv_iconst (v := 0) hx hb d_Mo_child_53 (by decide) ?_
        exact mr_iret (v := 0) (mo := mo_11) hx hb hr hlocks hK hP hD hS (by unfold f_Mo_child; rw [if_neg c_1, if_pos c_10, bndM_r w_11, if_neg c_12]) d_Mo_child_54
    · refine lv_iload_n hx hb d_Mo_child_12 rfl (lv_at hl 2 rfl) ?_
      refine lv_if_ge (tgt := 20) hx hb d_Mo_child_13 (by decide) (fun c_19 => ?_) (fun c_19 => ?_)
      · refine lv_iconst (v := 0) hx hb d_Mo_child_20 (by decide) ?_
        refine lv_istore_n (lv' := [(3, .int 0), (0, .ref hm), (1, .int k), (2, .int i)]) hx hb d_Mo_child_21 rfl hl (by decide) rfl (fun ls hl => ?_)
        refine lv_aload_n hx hb d_Mo_child_22 rfl (lv_at hl 1 rfl) ?_
        refine lv_iload_n hx hb d_Mo_child_23 rfl (lv_at hl 0 rfl) ?_
        refine lv_if_ne (tgt := 41) hx hb d_Mo_child_24 (by decide) (fun q9 => absurd q9 (by decide)) (fun _ => ?_)
        refine lv_iload_n hx hb d_Mo_child_27 rfl (lv_at hl 3 rfl) ?_
        refine lv_aload_n hx hb d_Mo_child_28 rfl (lv_at hl 1 rfl) ?_
        refine lv_aload_n hx hb d_Mo_child_29 rfl (lv_at hl 1 rfl) ?_
        refine va_get (D := (dC, dI)) (ci := 6) (v := .ref (ma 10)) (C := R_Mo) (T := T_Mo) (N := 31) hx hb hts u_Mo hown hK hP 0 rfl rfl 16 (by decide) (hts _ L_937) (fun _ h9 => h9) rfl d_Mo_child_30 ?_
        refine lv_iload_n hx hb d_Mo_child_33 rfl (lv_at hl 2 rfl) ?_
        by_cases cb_20 : inb k 2600
        case neg => exact absurd (by unfold f_Mo_child; rw [if_neg c_1, if_neg c_10, if_pos c_19, if_neg cb_20]) hg
        refine va_iald (D := (dC, dI)) hx hb hK hP 11 0 rfl rfl cb_20 d_Mo_child_34 ?_
        refine mr_Vi (g := (f_Mo_childrenOf mo ((q_order mo) (k : Int32).toNatClampNeg))) (As := [.int ((q_order mo) (k : Int32).toNatClampNeg)]) (rest := [.int i, .ref hm]) ⟨hx, hb, hml, hown, hts0⟩ (m_Mo_childrenOf l hlt dC dI cI cZ sa rk hm ma mo _ ((q_order mo) (k : Int32).toNatClampNeg) (fun z => hg (by unfold f_Mo_child; rw [if_neg c_1, if_neg c_10, if_pos c_19, if_pos cb_20, bndM_n z]))) hP hD hK hS hA hC hZ hnt hlocks L_1273 L_1275 L_81 L_90 L_1276 k_Mo_childrenOf ⟨(by show _ ≤ 1; omega), (by show _ ≤ 23; omega)⟩ rfl rfl hl.1 (Nat.le_of_ble_eq_true rfl) d_Mo_child_35 rfl (fun q z => by unfold f_Mo_child; rw [if_neg c_1, if_neg c_10, if_pos c_19, if_pos cb_20, bndM_l z]) (fun r_21 mo_21 H locs w_21 hP hD hS => ?_)
        refine lv_icmp_lt (tgt := 45) hx hb d_Mo_child_38 (by decide) (fun c_22 => ?_) (fun c_22 => ?_)
        · refine lv_iconst (v := 0) hx hb d_Mo_child_45 (by decide) ?_
          refine lv_iconst (v := 0) hx hb d_Mo_child_46 (by decide) ?_
          refine mr_Vi (g := (f_Mo_throwing mo_21 0 0)) (As := [.int 0, .int 0]) (rest := []) ⟨hx, hb, hml, hown, hts0⟩ (m_Mo_throwing l hlt dC dI cI cZ sa rk hm ma mo_21 _ 0 0 (fun z => hg (by unfold f_Mo_child; rw [if_neg c_1, if_neg c_10, if_pos c_19, if_pos cb_20, bndM_r w_21, if_pos c_22, bndM_n z]))) hP hD hK hS hA hC hZ hnt hlocks L_1029 L_1031 L_56 L_90 L_1032 k_Mo_throwing ⟨(by show _ ≤ 1; omega), (by show _ ≤ 23; omega)⟩ rfl rfl hl.1 (Nat.le_of_ble_eq_true rfl) d_Mo_child_47 rfl (fun q z => by unfold f_Mo_child; rw [if_neg c_1, if_neg c_10, if_pos c_19, if_pos cb_20, bndM_r w_21, if_pos c_22, bndM_l z]) (fun r_23 mo_23 H locs w_23 hP hD hS => ?_)
          refine lv_if_eq (tgt := 55) hx hb d_Mo_child_50 (by decide) (fun c_24 => ?_) (fun c_24 => ?_)
          · refine lv_aload_n hx hb d_Mo_child_55 rfl (lv_at hl 1 rfl) ?_
            refine va_get (D := (dC, dI)) (ci := 6) (v := .ref (ma 7)) (C := R_Mo) (T := T_Mo) (N := 31) hx hb hts u_Mo hown hK hP 0 rfl rfl 12 (by decide) (hts _ L_933) (fun _ h9 => h9) rfl d_Mo_child_56 ?_
            refine lv_aload_n hx hb d_Mo_child_59 rfl (lv_at hl 1 rfl) ?_
            refine va_get (D := (dC, dI)) (ci := 6) (v := .ref (ma 10)) (C := R_Mo) (T := T_Mo) (N := 31) hx hb hts u_Mo hown hK hP 0 rfl rfl 16 (by decide) (hts _ L_937) (fun _ h9 => h9) rfl d_Mo_child_60 ?_
            refine lv_iload_n hx hb d_Mo_child_63 rfl (lv_at hl 2 rfl) ?_
            refine va_iald (D := (dC, dI)) hx hb hK hP 11 0 rfl rfl cb_20 d_Mo_child_64 ?_
            by_cases cb_25 : inb ((q_order mo_23) (k : Int32).toNatClampNeg) 2600
            case neg => exact absurd (by unfold f_Mo_child; rw [if_neg c_1, if_neg c_10, if_pos c_19, if_pos cb_20, bndM_r w_21, if_pos c_22, bndM_r w_23, if_pos c_24, if_neg cb_25]) hg
            refine va_iald (D := (dC, dI)) hx hb hK hP 8 0 rfl rfl cb_25 d_Mo_child_65 ?_
            refine lv_istore (lv' := [(4, .int ((q_first mo_23) (((q_order mo_23) (k : Int32).toNatClampNeg) : Int32).toNatClampNeg)), (3, .int 0), (0, .ref hm), (1, .int k), (2, .int i)]) hx hb d_Mo_child_66 hl (by decide) rfl (fun ls hl => ?_)
            refine lv_iconst (v := 0) hx hb d_Mo_child_68 (by decide) ?_
            refine lv_istore (lv' := [(5, .int 0), (4, .int ((q_first mo_23) (((q_order mo_23) (k : Int32).toNatClampNeg) : Int32).toNatClampNeg)), (3, .int 0), (0, .ref hm), (1, .int k), (2, .int i)]) hx hb d_Mo_child_69 hl (by decide) rfl (fun ls hl => ?_)
            obtain ⟨x_26, hx_26⟩ : ∃ z, f_Mo_child_L71 k i 5000 ((q_first mo_23) (((q_order mo_23) (k : Int32).toNatClampNeg) : Int32).toNatClampNeg) 0 mo_23 = z := ⟨_, rfl⟩
            have hn_26 : x_26 ≠ none := (fun z => hg (by unfold f_Mo_child; rw [if_neg c_1, if_neg c_10, if_pos c_19, if_pos cb_20, bndM_r w_21, if_pos c_22, bndM_r w_23, if_pos c_24, if_pos cb_25, bndM_n (hx_26.trans z)]))
            have hX_26 : ∀ q, x_26 = some (.inl q) → (f_Mo_child mo k i) = some (.inl q) := (fun q z => by unfold f_Mo_child; rw [if_neg c_1, if_neg c_10, if_pos c_19, if_pos cb_20, bndM_r w_21, if_pos c_22, bndM_r w_23, if_pos c_24, if_pos cb_25, bndM_l (hx_26.trans z)])
            have lp_26 : ∀ (fu : Nat) (x4 x5 : Int32) (sx_26 : MO) (H : Heap) (locs : List Loc) (ls : Array Slot), va_P (dC, dI) cls (wM cI cZ hm ma sx_26) H → va_D A (wM cI cZ hm ma sx_26) → va_S A s.heap H locs → lv_has ls 6 [(0, .ref hm), (1, .int k), (2, .int i), (3, .int 0), (4, .int x4), (5, .int x5)] → x_26 = f_Mo_child_L71 k i fu x4 x5 sx_26 → W p l e (headSpec (wy y_Mo_child c_Mo_child 6 (some .int)) { frames := (1), cells := 1, slots := 6, locals := (23) }).room s m [.ref hm, .int k, .int i].toArray below meth c H locs 0 0 (vx_MQ below (va_Qi (fun r (u : MO) => (f_Mo_child mo k i) = some (.inr (r, u))) (wB (dC, dI) cI cZ A (wM cI cZ hm ma)) A) (xM (dC, dI) cI cZ hm ma (f_Mo_child mo k i) A) [.ref hm, .int k, .int i].toArray s (mcM (f_Mo_child mo k i)) (msM (f_Mo_child mo k i)) A) (F0 m 71 ls []) := by
              intro fu
              induction fu with
              | zero => intro x4 x5 sx_26 H locs ls hP hD hS hl hL_26; exact absurd (hL_26.trans rfl) hn_26
              | succ fu_26 ih_26 =>
                intro x4 x5 sx_26 H locs ls hP hD hS hl hL_26
                rw [f_Mo_child_L71] at hL_26
                refine lv_iload hx hb d_Mo_child_71 (lv_at hl 5 rfl) ?_
                refine lv_iload_n hx hb d_Mo_child_73 rfl (lv_at hl 2 rfl) ?_
                refine lv_icmp_ge (tgt := 92) hx hb d_Mo_child_74 (by decide) (fun c_27 => ?_) (fun c_27 => ?_)
                · rw [if_pos c_27] at hL_26
                  obtain ⟨se_26, hse_26⟩ : ∃ z : MO, z = sx_26 := ⟨_, rfl⟩
                  have hP : va_P (dC, dI) cls (wM cI cZ hm ma se_26) H := by rw [hse_26]; exact hP
                  have hD : va_D A (wM cI cZ hm ma se_26) := by rw [hse_26]; exact hD
                  obtain ⟨rv_26, hrv_26⟩ : ∃ z : Int32, z = x4 := ⟨_, rfl⟩
                  have we_26 : f_Mo_child_L71 k i 5000 ((q_first mo_23) (((q_order mo_23) (k : Int32).toNatClampNeg) : Int32).toNatClampNeg) 0 mo_23 = some (.inr (rv_26, se_26)) := by rw [hrv_26, hse_26]; exact hx_26.trans hL_26
                  have hl : lv_has ls 6 [(0, .ref hm), (1, .int k), (2, .int i), (3, .int 0), (4, .int rv_26)] := by rw [hrv_26]; exact lv_sub hl [0, 1, 2, 3, 4] rfl
                  refine lv_aload_n hx hb d_Mo_child_92 rfl (lv_at hl 0 rfl) ?_
                  refine va_get (D := (dC, dI)) (ci := 6) (v := .ref (ma 11)) (C := R_Mo) (T := T_Mo) (N := 31) hx hb hts u_Mo hown hK hP 0 rfl rfl 17 (by decide) (hts _ L_938) (fun _ h9 => h9) rfl d_Mo_child_93 ?_
                  refine lv_iload hx hb d_Mo_child_96 (lv_at hl 4 rfl) ?_
                  by_cases cb_28 : inb rv_26 2600
                  case neg => exact absurd (by unfold f_Mo_child; rw [if_neg c_1, if_neg c_10, if_pos c_19, if_pos cb_20, bndM_r w_21, if_pos c_22, bndM_r w_23, if_pos c_24, if_pos cb_25, bndM_r we_26, if_neg cb_28]) hg
                  refine va_iald (D := (dC, dI)) hx hb hK hP 12 0 rfl rfl cb_28 d_Mo_child_98 ?_
                  exact mr_iret (v := ((q_number se_26) (rv_26 : Int32).toNatClampNeg)) (mo := se_26) hx hb hr hlocks hK hP hD hS (by unfold f_Mo_child; rw [if_neg c_1, if_neg c_10, if_pos c_19, if_pos cb_20, bndM_r w_21, if_pos c_22, bndM_r w_23, if_pos c_24, if_pos cb_25, bndM_r we_26, if_pos cb_28]) d_Mo_child_99
                · rw [if_neg c_27] at hL_26
                  refine lv_aload_n hx hb d_Mo_child_77 rfl (lv_at hl 0 rfl) ?_
                  refine va_get (D := (dC, dI)) (ci := 6) (v := .ref (ma 9)) (C := R_Mo) (T := T_Mo) (N := 31) hx hb hts u_Mo hown hK hP 0 rfl rfl 14 (by decide) (hts _ L_935) (fun _ h9 => h9) rfl d_Mo_child_78 ?_
                  refine lv_iload hx hb d_Mo_child_81 (lv_at hl 4 rfl) ?_
                  by_cases cb_29 : inb x4 2600
                  case neg => exact absurd (hL_26.trans (if_neg cb_29)) hn_26
                  rw [if_pos cb_29] at hL_26
                  refine va_iald (D := (dC, dI)) hx hb hK hP 10 0 rfl rfl cb_29 d_Mo_child_83 ?_
                  refine lv_istore (lv' := [(4, .int ((q_next sx_26) (x4 : Int32).toNatClampNeg)), (0, .ref hm), (1, .int k), (2, .int i), (3, .int 0), (5, .int x5)]) hx hb d_Mo_child_84 hl (by decide) rfl (fun ls hl => ?_)
                  refine lv_iinc (v := (x5 + 1)) (lv' := [(5, .int (x5 + 1)), (4, .int ((q_next sx_26) (x4 : Int32).toNatClampNeg)), (0, .ref hm), (1, .int k), (2, .int i), (3, .int 0)]) hx hb d_Mo_child_86 hl (k := 5) rfl rfl (by decide) rfl (fun ls hl => ?_)
                  refine lv_goto (tgt := 71) hx hb d_Mo_child_89 (by decide) ?_
                  exact ih_26 ((q_next sx_26) (x4 : Int32).toNatClampNeg) (x5 + 1) sx_26 _ _ ls hP hD hS (lv_sub hl [2, 3, 4, 5, 1, 0] rfl) hL_26
            exact lp_26 5000 ((q_first mo_23) (((q_order mo_23) (k : Int32).toNatClampNeg) : Int32).toNatClampNeg) 0 mo_23 _ _ ls hP hD hS (lv_sub hl [3, 4, 5, 2, 1, 0] rfl) hx_26.symm
          · refine lv_iconst (v := 0) hx hb d_Mo_child_53 (by decide) ?_
            exact mr_iret (v := 0) (mo := mo_23) hx hb hr hlocks hK hP hD hS (by unfold f_Mo_child; rw [if_neg c_1, if_neg c_10, if_pos c_19, if_pos cb_20, bndM_r w_21, if_pos c_22, bndM_r w_23, if_neg c_24]) d_Mo_child_54
        · refine lv_iconst (v := 1) hx hb d_Mo_child_41 (by decide) ?_
          refine lv_goto (tgt := 46) hx hb d_Mo_child_42 (by decide) ?_
          refine lv_iconst (v := 0) hx hb d_Mo_child_46 (by decide) ?_
          refine mr_Vi (g := (f_Mo_throwing mo_21 1 0)) (As := [.int 1, .int 0]) (rest := []) ⟨hx, hb, hml, hown, hts0⟩ (m_Mo_throwing l hlt dC dI cI cZ sa rk hm ma mo_21 _ 1 0 (fun z => hg (by unfold f_Mo_child; rw [if_neg c_1, if_neg c_10, if_pos c_19, if_pos cb_20, bndM_r w_21, if_neg c_22, bndM_n z]))) hP hD hK hS hA hC hZ hnt hlocks L_1029 L_1031 L_56 L_90 L_1032 k_Mo_throwing ⟨(by show _ ≤ 1; omega), (by show _ ≤ 23; omega)⟩ rfl rfl hl.1 (Nat.le_of_ble_eq_true rfl) d_Mo_child_47 rfl (fun q z => by unfold f_Mo_child; rw [if_neg c_1, if_neg c_10, if_pos c_19, if_pos cb_20, bndM_r w_21, if_neg c_22, bndM_l z]) (fun r_30 mo_30 H locs w_30 hP hD hS => ?_)
          refine lv_if_eq (tgt := 55) hx hb d_Mo_child_50 (by decide) (fun c_31 => ?_) (fun c_31 => ?_)
          · refine lv_aload_n hx hb d_Mo_child_55 rfl (lv_at hl 1 rfl) ?_
            refine va_get (D := (dC, dI)) (ci := 6) (v := .ref (ma 7)) (C := R_Mo) (T := T_Mo) (N := 31) hx hb hts u_Mo hown hK hP 0 rfl rfl 12 (by decide) (hts _ L_933) (fun _ h9 => h9) rfl d_Mo_child_56 ?_
            refine lv_aload_n hx hb d_Mo_child_59 rfl (lv_at hl 1 rfl) ?_
            refine va_get (D := (dC, dI)) (ci := 6) (v := .ref (ma 10)) (C := R_Mo) (T := T_Mo) (N := 31) hx hb hts u_Mo hown hK hP 0 rfl rfl 16 (by decide) (hts _ L_937) (fun _ h9 => h9) rfl d_Mo_child_60 ?_
            refine lv_iload_n hx hb d_Mo_child_63 rfl (lv_at hl 2 rfl) ?_
            refine va_iald (D := (dC, dI)) hx hb hK hP 11 0 rfl rfl cb_20 d_Mo_child_64 ?_
            by_cases cb_32 : inb ((q_order mo_30) (k : Int32).toNatClampNeg) 2600
            case neg => exact absurd (by unfold f_Mo_child; rw [if_neg c_1, if_neg c_10, if_pos c_19, if_pos cb_20, bndM_r w_21, if_neg c_22, bndM_r w_30, if_pos c_31, if_neg cb_32]) hg
            refine va_iald (D := (dC, dI)) hx hb hK hP 8 0 rfl rfl cb_32 d_Mo_child_65 ?_
            refine lv_istore (lv' := [(4, .int ((q_first mo_30) (((q_order mo_30) (k : Int32).toNatClampNeg) : Int32).toNatClampNeg)), (3, .int 0), (0, .ref hm), (1, .int k), (2, .int i)]) hx hb d_Mo_child_66 hl (by decide) rfl (fun ls hl => ?_)
            refine lv_iconst (v := 0) hx hb d_Mo_child_68 (by decide) ?_
            refine lv_istore (lv' := [(5, .int 0), (4, .int ((q_first mo_30) (((q_order mo_30) (k : Int32).toNatClampNeg) : Int32).toNatClampNeg)), (3, .int 0), (0, .ref hm), (1, .int k), (2, .int i)]) hx hb d_Mo_child_69 hl (by decide) rfl (fun ls hl => ?_)
            obtain ⟨x_33, hx_33⟩ : ∃ z, f_Mo_child_L71 k i 5000 ((q_first mo_30) (((q_order mo_30) (k : Int32).toNatClampNeg) : Int32).toNatClampNeg) 0 mo_30 = z := ⟨_, rfl⟩
            have hn_33 : x_33 ≠ none := (fun z => hg (by unfold f_Mo_child; rw [if_neg c_1, if_neg c_10, if_pos c_19, if_pos cb_20, bndM_r w_21, if_neg c_22, bndM_r w_30, if_pos c_31, if_pos cb_32, bndM_n (hx_33.trans z)]))
            have hX_33 : ∀ q, x_33 = some (.inl q) → (f_Mo_child mo k i) = some (.inl q) := (fun q z => by unfold f_Mo_child; rw [if_neg c_1, if_neg c_10, if_pos c_19, if_pos cb_20, bndM_r w_21, if_neg c_22, bndM_r w_30, if_pos c_31, if_pos cb_32, bndM_l (hx_33.trans z)])
            have lp_33 : ∀ (fu : Nat) (x4 x5 : Int32) (sx_33 : MO) (H : Heap) (locs : List Loc) (ls : Array Slot), va_P (dC, dI) cls (wM cI cZ hm ma sx_33) H → va_D A (wM cI cZ hm ma sx_33) → va_S A s.heap H locs → lv_has ls 6 [(0, .ref hm), (1, .int k), (2, .int i), (3, .int 0), (4, .int x4), (5, .int x5)] → x_33 = f_Mo_child_L71 k i fu x4 x5 sx_33 → W p l e (headSpec (wy y_Mo_child c_Mo_child 6 (some .int)) { frames := (1), cells := 1, slots := 6, locals := (23) }).room s m [.ref hm, .int k, .int i].toArray below meth c H locs 0 0 (vx_MQ below (va_Qi (fun r (u : MO) => (f_Mo_child mo k i) = some (.inr (r, u))) (wB (dC, dI) cI cZ A (wM cI cZ hm ma)) A) (xM (dC, dI) cI cZ hm ma (f_Mo_child mo k i) A) [.ref hm, .int k, .int i].toArray s (mcM (f_Mo_child mo k i)) (msM (f_Mo_child mo k i)) A) (F0 m 71 ls []) := by
              intro fu
              induction fu with
              | zero => intro x4 x5 sx_33 H locs ls hP hD hS hl hL_33; exact absurd (hL_33.trans rfl) hn_33
              | succ fu_33 ih_33 =>
                intro x4 x5 sx_33 H locs ls hP hD hS hl hL_33
                rw [f_Mo_child_L71] at hL_33
                refine lv_iload hx hb d_Mo_child_71 (lv_at hl 5 rfl) ?_
                refine lv_iload_n hx hb d_Mo_child_73 rfl (lv_at hl 2 rfl) ?_
                refine lv_icmp_ge (tgt := 92) hx hb d_Mo_child_74 (by decide) (fun c_34 => ?_) (fun c_34 => ?_)
                · rw [if_pos c_34] at hL_33
                  obtain ⟨se_33, hse_33⟩ : ∃ z : MO, z = sx_33 := ⟨_, rfl⟩
                  have hP : va_P (dC, dI) cls (wM cI cZ hm ma se_33) H := by rw [hse_33]; exact hP
                  have hD : va_D A (wM cI cZ hm ma se_33) := by rw [hse_33]; exact hD
                  obtain ⟨rv_33, hrv_33⟩ : ∃ z : Int32, z = x4 := ⟨_, rfl⟩
                  have we_33 : f_Mo_child_L71 k i 5000 ((q_first mo_30) (((q_order mo_30) (k : Int32).toNatClampNeg) : Int32).toNatClampNeg) 0 mo_30 = some (.inr (rv_33, se_33)) := by rw [hrv_33, hse_33]; exact hx_33.trans hL_33
                  have hl : lv_has ls 6 [(0, .ref hm), (1, .int k), (2, .int i), (3, .int 0), (4, .int rv_33)] := by rw [hrv_33]; exact lv_sub hl [0, 1, 2, 3, 4] rfl
                  refine lv_aload_n hx hb d_Mo_child_92 rfl (lv_at hl 0 rfl) ?_
                  refine va_get (D := (dC, dI)) (ci := 6) (v := .ref (ma 11)) (C := R_Mo) (T := T_Mo) (N := 31) hx hb hts u_Mo hown hK hP 0 rfl rfl 17 (by decide) (hts _ L_938) (fun _ h9 => h9) rfl d_Mo_child_93 ?_
                  refine lv_iload hx hb d_Mo_child_96 (lv_at hl 4 rfl) ?_
                  by_cases cb_35 : inb rv_33 2600
                  case neg => exact absurd (by unfold f_Mo_child; rw [if_neg c_1, if_neg c_10, if_pos c_19, if_pos cb_20, bndM_r w_21, if_neg c_22, bndM_r w_30, if_pos c_31, if_pos cb_32, bndM_r we_33, if_neg cb_35]) hg
                  refine va_iald (D := (dC, dI)) hx hb hK hP 12 0 rfl rfl cb_35 d_Mo_child_98 ?_
                  exact mr_iret (v := ((q_number se_33) (rv_33 : Int32).toNatClampNeg)) (mo := se_33) hx hb hr hlocks hK hP hD hS (by unfold f_Mo_child; rw [if_neg c_1, if_neg c_10, if_pos c_19, if_pos cb_20, bndM_r w_21, if_neg c_22, bndM_r w_30, if_pos c_31, if_pos cb_32, bndM_r we_33, if_pos cb_35]) d_Mo_child_99
                · rw [if_neg c_34] at hL_33
                  refine lv_aload_n hx hb d_Mo_child_77 rfl (lv_at hl 0 rfl) ?_
                  refine va_get (D := (dC, dI)) (ci := 6) (v := .ref (ma 9)) (C := R_Mo) (T := T_Mo) (N := 31) hx hb hts u_Mo hown hK hP 0 rfl rfl 14 (by decide) (hts _ L_935) (fun _ h9 => h9) rfl d_Mo_child_78 ?_
                  refine lv_iload hx hb d_Mo_child_81 (lv_at hl 4 rfl) ?_
                  by_cases cb_36 : inb x4 2600
                  case neg => exact absurd (hL_33.trans (if_neg cb_36)) hn_33
                  rw [if_pos cb_36] at hL_33
                  refine va_iald (D := (dC, dI)) hx hb hK hP 10 0 rfl rfl cb_36 d_Mo_child_83 ?_
                  refine lv_istore (lv' := [(4, .int ((q_next sx_33) (x4 : Int32).toNatClampNeg)), (0, .ref hm), (1, .int k), (2, .int i), (3, .int 0), (5, .int x5)]) hx hb d_Mo_child_84 hl (by decide) rfl (fun ls hl => ?_)
                  refine lv_iinc (v := (x5 + 1)) (lv' := [(5, .int (x5 + 1)), (4, .int ((q_next sx_33) (x4 : Int32).toNatClampNeg)), (0, .ref hm), (1, .int k), (2, .int i), (3, .int 0)]) hx hb d_Mo_child_86 hl (k := 5) rfl rfl (by decide) rfl (fun ls hl => ?_)
                  refine lv_goto (tgt := 71) hx hb d_Mo_child_89 (by decide) ?_
                  exact ih_33 ((q_next sx_33) (x4 : Int32).toNatClampNeg) (x5 + 1) sx_33 _ _ ls hP hD hS (lv_sub hl [2, 3, 4, 5, 1, 0] rfl) hL_33
            exact lp_33 5000 ((q_first mo_30) (((q_order mo_30) (k : Int32).toNatClampNeg) : Int32).toNatClampNeg) 0 mo_30 _ _ ls hP hD hS (lv_sub hl [3, 4, 5, 2, 1, 0] rfl) hx_33.symm
          · refine lv_iconst (v := 0) hx hb d_Mo_child_53 (by decide) ?_
            exact mr_iret (v := 0) (mo := mo_30) hx hb hr hlocks hK hP hD hS (by unfold f_Mo_child; rw [if_neg c_1, if_neg c_10, if_pos c_19, if_pos cb_20, bndM_r w_21, if_neg c_22, bndM_r w_30, if_neg c_31]) d_Mo_child_54
      · refine lv_iconst (v := 1) hx hb d_Mo_child_16 (by decide) ?_
        refine lv_goto (tgt := 21) hx hb d_Mo_child_17 (by decide) ?_
        refine lv_istore_n (lv' := [(3, .int 1), (0, .ref hm), (1, .int k), (2, .int i)]) hx hb d_Mo_child_21 rfl hl (by decide) rfl (fun ls hl => ?_)
        refine lv_aload_n hx hb d_Mo_child_22 rfl (lv_at hl 1 rfl) ?_
        refine lv_iload_n hx hb d_Mo_child_23 rfl (lv_at hl 0 rfl) ?_
        refine lv_if_ne (tgt := 41) hx hb d_Mo_child_24 (by decide) (fun _ => ?_) (fun q9 => absurd q9 (by decide))
        refine lv_iconst (v := 1) hx hb d_Mo_child_41 (by decide) ?_
        refine lv_goto (tgt := 46) hx hb d_Mo_child_42 (by decide) ?_
        refine lv_iconst (v := 0) hx hb d_Mo_child_46 (by decide) ?_
        refine mr_Vi (g := (f_Mo_throwing mo 1 0)) (As := [.int 1, .int 0]) (rest := []) ⟨hx, hb, hml, hown, hts0⟩ (m_Mo_throwing l hlt dC dI cI cZ sa rk hm ma mo _ 1 0 (fun z => hg (by unfold f_Mo_child; rw [if_neg c_1, if_neg c_10, if_neg c_19, bndM_n z]))) hP hD hK hS hA hC hZ hnt hlocks L_1029 L_1031 L_56 L_90 L_1032 k_Mo_throwing ⟨(by show _ ≤ 1; omega), (by show _ ≤ 23; omega)⟩ rfl rfl hl.1 (Nat.le_of_ble_eq_true rfl) d_Mo_child_47 rfl (fun q z => by unfold f_Mo_child; rw [if_neg c_1, if_neg c_10, if_neg c_19, bndM_l z]) (fun r_37 mo_37 H locs w_37 hP hD hS => ?_)
        refine lv_if_eq (tgt := 55) hx hb d_Mo_child_50 (by decide) (fun c_38 => ?_) (fun c_38 => ?_)
        · refine lv_aload_n hx hb d_Mo_child_55 rfl (lv_at hl 1 rfl) ?_
          refine va_get (D := (dC, dI)) (ci := 6) (v := .ref (ma 7)) (C := R_Mo) (T := T_Mo) (N := 31) hx hb hts u_Mo hown hK hP 0 rfl rfl 12 (by decide) (hts _ L_933) (fun _ h9 => h9) rfl d_Mo_child_56 ?_
          refine lv_aload_n hx hb d_Mo_child_59 rfl (lv_at hl 1 rfl) ?_
          refine va_get (D := (dC, dI)) (ci := 6) (v := .ref (ma 10)) (C := R_Mo) (T := T_Mo) (N := 31) hx hb hts u_Mo hown hK hP 0 rfl rfl 16 (by decide) (hts _ L_937) (fun _ h9 => h9) rfl d_Mo_child_60 ?_
          refine lv_iload_n hx hb d_Mo_child_63 rfl (lv_at hl 2 rfl) ?_
          by_cases cb_39 : inb k 2600
          case neg => exact absurd (by unfold f_Mo_child; rw [if_neg c_1, if_neg c_10, if_neg c_19, bndM_r w_37, if_pos c_38, if_neg cb_39]) hg
          refine va_iald (D := (dC, dI)) hx hb hK hP 11 0 rfl rfl cb_39 d_Mo_child_64 ?_
          by_cases cb_40 : inb ((q_order mo_37) (k : Int32).toNatClampNeg) 2600
          case neg => exact absurd (by unfold f_Mo_child; rw [if_neg c_1, if_neg c_10, if_neg c_19, bndM_r w_37, if_pos c_38, if_pos cb_39, if_neg cb_40]) hg
          refine va_iald (D := (dC, dI)) hx hb hK hP 8 0 rfl rfl cb_40 d_Mo_child_65 ?_
          refine lv_istore (lv' := [(4, .int ((q_first mo_37) (((q_order mo_37) (k : Int32).toNatClampNeg) : Int32).toNatClampNeg)), (3, .int 1), (0, .ref hm), (1, .int k), (2, .int i)]) hx hb d_Mo_child_66 hl (by decide) rfl (fun ls hl => ?_)
          refine lv_iconst (v := 0) hx hb d_Mo_child_68 (by decide) ?_
          refine lv_istore (lv' := [(5, .int 0), (4, .int ((q_first mo_37) (((q_order mo_37) (k : Int32).toNatClampNeg) : Int32).toNatClampNeg)), (3, .int 1), (0, .ref hm), (1, .int k), (2, .int i)]) hx hb d_Mo_child_69 hl (by decide) rfl (fun ls hl => ?_)
          obtain ⟨x_41, hx_41⟩ : ∃ z, f_Mo_child_L71 k i 5000 ((q_first mo_37) (((q_order mo_37) (k : Int32).toNatClampNeg) : Int32).toNatClampNeg) 0 mo_37 = z := ⟨_, rfl⟩
          have hn_41 : x_41 ≠ none := (fun z => hg (by unfold f_Mo_child; rw [if_neg c_1, if_neg c_10, if_neg c_19, bndM_r w_37, if_pos c_38, if_pos cb_39, if_pos cb_40, bndM_n (hx_41.trans z)]))
          have hX_41 : ∀ q, x_41 = some (.inl q) → (f_Mo_child mo k i) = some (.inl q) := (fun q z => by unfold f_Mo_child; rw [if_neg c_1, if_neg c_10, if_neg c_19, bndM_r w_37, if_pos c_38, if_pos cb_39, if_pos cb_40, bndM_l (hx_41.trans z)])
          have lp_41 : ∀ (fu : Nat) (x4 x5 : Int32) (sx_41 : MO) (H : Heap) (locs : List Loc) (ls : Array Slot), va_P (dC, dI) cls (wM cI cZ hm ma sx_41) H → va_D A (wM cI cZ hm ma sx_41) → va_S A s.heap H locs → lv_has ls 6 [(0, .ref hm), (1, .int k), (2, .int i), (3, .int 1), (4, .int x4), (5, .int x5)] → x_41 = f_Mo_child_L71 k i fu x4 x5 sx_41 → W p l e (headSpec (wy y_Mo_child c_Mo_child 6 (some .int)) { frames := (1), cells := 1, slots := 6, locals := (23) }).room s m [.ref hm, .int k, .int i].toArray below meth c H locs 0 0 (vx_MQ below (va_Qi (fun r (u : MO) => (f_Mo_child mo k i) = some (.inr (r, u))) (wB (dC, dI) cI cZ A (wM cI cZ hm ma)) A) (xM (dC, dI) cI cZ hm ma (f_Mo_child mo k i) A) [.ref hm, .int k, .int i].toArray s (mcM (f_Mo_child mo k i)) (msM (f_Mo_child mo k i)) A) (F0 m 71 ls []) := by
            intro fu
            induction fu with
            | zero => intro x4 x5 sx_41 H locs ls hP hD hS hl hL_41; exact absurd (hL_41.trans rfl) hn_41
            | succ fu_41 ih_41 =>
              intro x4 x5 sx_41 H locs ls hP hD hS hl hL_41
              rw [f_Mo_child_L71] at hL_41
              refine lv_iload hx hb d_Mo_child_71 (lv_at hl 5 rfl) ?_
              refine lv_iload_n hx hb d_Mo_child_73 rfl (lv_at hl 2 rfl) ?_
              refine lv_icmp_ge (tgt := 92) hx hb d_Mo_child_74 (by decide) (fun c_42 => ?_) (fun c_42 => ?_)
              · rw [if_pos c_42] at hL_41
                obtain ⟨se_41, hse_41⟩ : ∃ z : MO, z = sx_41 := ⟨_, rfl⟩
                have hP : va_P (dC, dI) cls (wM cI cZ hm ma se_41) H := by rw [hse_41]; exact hP
                have hD : va_D A (wM cI cZ hm ma se_41) := by rw [hse_41]; exact hD
                obtain ⟨rv_41, hrv_41⟩ : ∃ z : Int32, z = x4 := ⟨_, rfl⟩
                have we_41 : f_Mo_child_L71 k i 5000 ((q_first mo_37) (((q_order mo_37) (k : Int32).toNatClampNeg) : Int32).toNatClampNeg) 0 mo_37 = some (.inr (rv_41, se_41)) := by rw [hrv_41, hse_41]; exact hx_41.trans hL_41
                have hl : lv_has ls 6 [(0, .ref hm), (1, .int k), (2, .int i), (3, .int 1), (4, .int rv_41)] := by rw [hrv_41]; exact lv_sub hl [0, 1, 2, 3, 4] rfl
                refine lv_aload_n hx hb d_Mo_child_92 rfl (lv_at hl 0 rfl) ?_
                refine va_get (D := (dC, dI)) (ci := 6) (v := .ref (ma 11)) (C := R_Mo) (T := T_Mo) (N := 31) hx hb hts u_Mo hown hK hP 0 rfl rfl 17 (by decide) (hts _ L_938) (fun _ h9 => h9) rfl d_Mo_child_93 ?_
                refine lv_iload hx hb d_Mo_child_96 (lv_at hl 4 rfl) ?_
                by_cases cb_43 : inb rv_41 2600
                case neg => exact absurd (by unfold f_Mo_child; rw [if_neg c_1, if_neg c_10, if_neg c_19, bndM_r w_37, if_pos c_38, if_pos cb_39, if_pos cb_40, bndM_r we_41, if_neg cb_43]) hg
                refine va_iald (D := (dC, dI)) hx hb hK hP 12 0 rfl rfl cb_43 d_Mo_child_98 ?_
                exact mr_iret (v := ((q_number se_41) (rv_41 : Int32).toNatClampNeg)) (mo := se_41) hx hb hr hlocks hK hP hD hS (by unfold f_Mo_child; rw [if_neg c_1, if_neg c_10, if_neg c_19, bndM_r w_37, if_pos c_38, if_pos cb_39, if_pos cb_40, bndM_r we_41, if_pos cb_43]) d_Mo_child_99
              · rw [if_neg c_42] at hL_41
                refine lv_aload_n hx hb d_Mo_child_77 rfl (lv_at hl 0 rfl) ?_
                refine va_get (D := (dC, dI)) (ci := 6) (v := .ref (ma 9)) (C := R_Mo) (T := T_Mo) (N := 31) hx hb hts u_Mo hown hK hP 0 rfl rfl 14 (by decide) (hts _ L_935) (fun _ h9 => h9) rfl d_Mo_child_78 ?_
                refine lv_iload hx hb d_Mo_child_81 (lv_at hl 4 rfl) ?_
                by_cases cb_44 : inb x4 2600
                case neg => exact absurd (hL_41.trans (if_neg cb_44)) hn_41
                rw [if_pos cb_44] at hL_41
                refine va_iald (D := (dC, dI)) hx hb hK hP 10 0 rfl rfl cb_44 d_Mo_child_83 ?_
                refine lv_istore (lv' := [(4, .int ((q_next sx_41) (x4 : Int32).toNatClampNeg)), (0, .ref hm), (1, .int k), (2, .int i), (3, .int 1), (5, .int x5)]) hx hb d_Mo_child_84 hl (by decide) rfl (fun ls hl => ?_)
                refine lv_iinc (v := (x5 + 1)) (lv' := [(5, .int (x5 + 1)), (4, .int ((q_next sx_41) (x4 : Int32).toNatClampNeg)), (0, .ref hm), (1, .int k), (2, .int i), (3, .int 1)]) hx hb d_Mo_child_86 hl (k := 5) rfl rfl (by decide) rfl (fun ls hl => ?_)
                refine lv_goto (tgt := 71) hx hb d_Mo_child_89 (by decide) ?_
                exact ih_41 ((q_next sx_41) (x4 : Int32).toNatClampNeg) (x5 + 1) sx_41 _ _ ls hP hD hS (lv_sub hl [2, 3, 4, 5, 1, 0] rfl) hL_41
          exact lp_41 5000 ((q_first mo_37) (((q_order mo_37) (k : Int32).toNatClampNeg) : Int32).toNatClampNeg) 0 mo_37 _ _ ls hP hD hS (lv_sub hl [3, 4, 5, 2, 1, 0] rfl) hx_41.symm
        · refine lv_iconst (v := 0) hx hb d_Mo_child_53 (by decide) ?_
          exact mr_iret (v := 0) (mo := mo_37) hx hb hr hlocks hK hP hD hS (by unfold f_Mo_child; rw [if_neg c_1, if_neg c_10, if_neg c_19, bndM_r w_37, if_neg c_38]) d_Mo_child_54
def f_Mo_token_J143 (k : Int32) (word : Int32) (name : Int32) (line : Int32) (sj_143 : MO) : Rm := (if inb (q_count sj_143) 1001 then (some (.inr (((q_count sj_143) + 1), (s_count (s_lines (s_names (s_words (s_kinds sj_143 (upd (q_kinds sj_143) ((q_count sj_143) : Int32).toNatClampNeg k)) (upd (q_words sj_143) ((q_count sj_143) : Int32).toNatClampNeg word)) (upd (q_names sj_143) ((q_count sj_143) : Int32).toNatClampNeg name)) (upd (q_lines sj_143) ((q_count sj_143) : Int32).toNatClampNeg (line &&& 1))) ((q_count sj_143) + 1))))) else none)
def f_Mo_token_J104 (k : Int32) (word : Int32) (name : Int32) (line : Int32) (x5 : Int32) (sj_104 : MO) : Rm := (if x5 = 0 then (bndM (f_Mo_throwing sj_104 1 0) (fun r_8 mo_8 => (if r_8 = 0 then (f_Mo_token_J143 k word name line mo_8) else (some (.inr (0, mo_8)))))) else (if (q_count sj_104) = 1000 then (bndM (f_Mo_throwing sj_104 0 1) (fun r_6 mo_6 => (if r_6 = 0 then (f_Mo_token_J143 k word name line mo_6) else (some (.inr (0, mo_6)))))) else (bndM (f_Mo_throwing sj_104 0 0) (fun r_4 mo_4 => (if r_4 = 0 then (f_Mo_token_J143 k word name line mo_4) else (some (.inr (0, mo_4))))))))
def f_Mo_token_J66 (k : Int32) (word : Int32) (name : Int32) (line : Int32) (x5 : Int32) (sj_66 : MO) : Rm := (if k = 1 then (if x5 = 0 then (f_Mo_token_J104 k word name line 0 sj_66) else (bndM (f_Mo_isIn sj_66 name 0 999) (fun r_12 mo_12 => (if r_12 = 0 then (f_Mo_token_J104 k word name line 0 mo_12) else (f_Mo_token_J104 k word name line 1 mo_12))))) else (if k = 2 then (if x5 = 0 then (f_Mo_token_J104 k word name line 0 sj_66) else (bndM (f_Mo_isIn sj_66 name 0 999) (fun r_16 mo_16 => (if r_16 = 0 then (f_Mo_token_J104 k word name line 0 mo_16) else (f_Mo_token_J104 k word name line 1 mo_16))))) else (if k = 3 then (if x5 = 0 then (f_Mo_token_J104 k word name line 0 sj_66) else (bndM (f_Mo_isIn sj_66 name 0 999) (fun r_20 mo_20 => (if r_20 = 0 then (f_Mo_token_J104 k word name line 0 mo_20) else (f_Mo_token_J104 k word name line 1 mo_20))))) else (f_Mo_token_J104 k word name line x5 sj_66))))
def f_Mo_token_J53 (k : Int32) (word : Int32) (name : Int32) (line : Int32) (x5 : Int32) (sj_53 : MO) : Rm := (if k = 3 then (bndM (f_Mo_isIn sj_53 word 0 1) (fun r_23 mo_23 => (f_Mo_token_J66 k word name line r_23 mo_23))) else (f_Mo_token_J66 k word name line x5 sj_53))
def f_Mo_token_J42 (k : Int32) (word : Int32) (name : Int32) (line : Int32) (x5 : Int32) (sj_42 : MO) : Rm := (if k = 4 then (bndM (f_Mo_isSignNumber sj_42 word) (fun r_25 mo_25 => (f_Mo_token_J53 k word name line r_25 mo_25))) else (f_Mo_token_J53 k word name line x5 sj_42))
def f_Mo_token (mo : MO) (k : Int32) (word : Int32) (name : Int32) (line : Int32) : Rm := (bndM (f_Mo_isIn mo k 1 5) (fun r_26 mo_26 => (if k = 1 then (bndM (f_Mo_isIn mo_26 word (-1) 44) (fun r_28 mo_28 => (if r_28 = 0 then (bndM (f_Mo_isIn mo_28 word 100 144) (fun r_30 mo_30 => (if r_30 = 0 then (f_Mo_token_J42 k word name line 0 mo_30) else (f_Mo_token_J42 k word name line 1 mo_30)))) else (f_Mo_token_J42 k word name line 1 mo_28)))) else (f_Mo_token_J42 k word name line r_26 mo_26))))
set_option maxRecDepth 100000 in
set_option maxHeartbeats 4000000 in
theorem m_Mo_token (l : Launch) (hlt : l.stackTraces = false) (dC : Nat → ClassId) (dI : Nat → Nat → Nat) (cI cZ : ClassId) (sa rk hm : Nat) (ma : Nat → Nat)  (mo : MO) (sz : Nat) (k : Int32) (word : Int32) (name : Int32) (line : Int32) (hg : (f_Mo_token mo k word name line) ≠ none) : cXi l y_Mo_token c_Mo_token 6 .int (2) (42) (dC, dI) cI cZ sa rk hm ma mo sz [.ref hm, .int k, .int word, .int name, .int line] (f_Mo_token mo k word name line) := by
  refine vx_ofW (cc := c_Mo_token) (maxL := 6) (ret := (some .int)) (by decide) rfl ?_
  intro p e s m args below meth c s₁ B hml hnt hv
  obtain ⟨rfl, hsz, hP, hK, hD0, hC, hZ⟩ := hv
  have hx := B.exec
  have hb := B.bytes
  have hr := B.returns
  have hts0 := atoms_spec (ws := wy y_Mo_token c_Mo_token 6 (some .int)) B.pre
  have hts := htsL hts0
  have hown : s.vm.findClass R_Mo = some m.cls := findClass_of_methodNamed B.named
  have hlocks := B.notSynchronized
  subst hsz
  have hD := hD0.self (sz := s.heap.size)
  generalize hAe : va_A (wM cI cZ hm ma mo) s.heap.size = A at hD hZ ⊢
  have hA : ∀ q : Nat, s.heap.size ≤ q → A q := fun q h => by rw [← hAe]; exact Or.inr h
  have hS : va_S A s.heap s.heap [] := va_S.rf
  have hl := lv_entry ([.ref hm, .int k, .int word, .int name, .int line]) (n := 6) (Nat.le_of_ble_eq_true rfl)
  rw [lg_entry_eq]
  generalize (lg_sl ([.ref hm, .int k, .int word, .int name, .int line]) ++ List.replicate (6 - (lg_sl ([.ref hm, .int k, .int word, .int name, .int line])).length) Slot.unset).toArray = ls at hl ⊢
  have hl : lv_has ls 6 [(0, .ref hm), (1, .int k), (2, .int word), (3, .int name), (4, .int line)] := hl
  have jn_143 : ∀ (sj_143 : MO) (H : Heap) (locs : List Loc) (ls : Array Slot), va_P (dC, dI) cls (wM cI cZ hm ma sj_143) H → va_D A (wM cI cZ hm ma sj_143) → va_S A s.heap H locs → lv_has ls 6 [(0, .ref hm), (1, .int k), (2, .int word), (3, .int name), (4, .int line)] → (f_Mo_token mo k word name line) = f_Mo_token_J143 k word name line sj_143 → W p l e (headSpec (wy y_Mo_token c_Mo_token 6 (some .int)) { frames := (2), cells := 1, slots := 6, locals := (42) }).room s m [.ref hm, .int k, .int word, .int name, .int line].toArray below meth c H locs 0 0 (vx_MQ below (va_Qi (fun r (u : MO) => (f_Mo_token mo k word name line) = some (.inr (r, u))) (wB (dC, dI) cI cZ A (wM cI cZ hm ma)) A) (xM (dC, dI) cI cZ hm ma (f_Mo_token mo k word name line) A) [.ref hm, .int k, .int word, .int name, .int line].toArray s (mcM (f_Mo_token mo k word name line)) (msM (f_Mo_token mo k word name line)) A) (F0 m 143 ls []) := by
    intro  sj_143 H locs ls hP hD hS hl hJ_143
    refine lv_aload_n hx hb d_Mo_token_143 rfl (lv_at hl 0 rfl) ?_
    refine va_get (D := (dC, dI)) (ci := 6) (v := .ref (ma 0)) (C := R_Mo) (T := T_Mo) (N := 31) hx hb hts u_Mo hown hK hP 0 rfl rfl 1 (by decide) (hts _ L_922) (fun _ h9 => h9) rfl d_Mo_token_144 ?_
    refine lv_aload_n hx hb d_Mo_token_147 rfl (lv_at hl 0 rfl) ?_
    refine va_get (D := (dC, dI)) (ci := 6) (v := .int (q_count sj_143)) (C := R_Mo) (T := T_Mo) (N := 31) hx hb hts u_Mo hown hK hP 0 rfl rfl 5 (by decide) (hts _ L_926) (fun _ h9 => h9) rfl d_Mo_token_148 ?_
    refine lv_iload_n hx hb d_Mo_token_151 rfl (lv_at hl 1 rfl) ?_
    by_cases cb_1 : inb (q_count sj_143) 1001
    case neg => exact absurd (hJ_143.trans (by unfold f_Mo_token_J143; rw [if_neg cb_1])) hg
    refine va_iast (D := (dC, dI)) hx hb hK hP hD hS 1 0 rfl rfl cb_1 d_Mo_token_152 (fun H locs hP hD hS => ?_)
    have hP : va_P (dC, dI) cls (wM cI cZ hm ma (s_kinds sj_143 (upd (q_kinds sj_143) ((q_count sj_143) : Int32).toNatClampNeg k))) H := hP
    have hD : va_D A (wM cI cZ hm ma (s_kinds sj_143 (upd (q_kinds sj_143) ((q_count sj_143) : Int32).toNatClampNeg k))) := hD
    refine lv_aload_n hx hb d_Mo_token_153 rfl (lv_at hl 0 rfl) ?_
    refine va_get (D := (dC, dI)) (ci := 6) (v := .ref (ma 1)) (C := R_Mo) (T := T_Mo) (N := 31) hx hb hts u_Mo hown hK hP 0 rfl rfl 2 (by decide) (hts _ L_923) (fun _ h9 => h9) rfl d_Mo_token_154 ?_
    refine lv_aload_n hx hb d_Mo_token_157 rfl (lv_at hl 0 rfl) ?_
    refine va_get (D := (dC, dI)) (ci := 6) (v := .int (q_count sj_143)) (C := R_Mo) (T := T_Mo) (N := 31) hx hb hts u_Mo hown hK hP 0 rfl rfl 5 (by decide) (hts _ L_926) (fun _ h9 => h9) rfl d_Mo_token_158 ?_
    refine lv_iload_n hx hb d_Mo_token_161 rfl (lv_at hl 2 rfl) ?_
    refine va_iast (D := (dC, dI)) hx hb hK hP hD hS 2 0 rfl rfl cb_1 d_Mo_token_162 (fun H locs hP hD hS => ?_)
    have hP : va_P (dC, dI) cls (wM cI cZ hm ma (s_words (s_kinds sj_143 (upd (q_kinds sj_143) ((q_count sj_143) : Int32).toNatClampNeg k)) (upd (q_words sj_143) ((q_count sj_143) : Int32).toNatClampNeg word))) H := hP
    have hD : va_D A (wM cI cZ hm ma (s_words (s_kinds sj_143 (upd (q_kinds sj_143) ((q_count sj_143) : Int32).toNatClampNeg k)) (upd (q_words sj_143) ((q_count sj_143) : Int32).toNatClampNeg word))) := hD
    refine lv_aload_n hx hb d_Mo_token_163 rfl (lv_at hl 0 rfl) ?_
    refine va_get (D := (dC, dI)) (ci := 6) (v := .ref (ma 2)) (C := R_Mo) (T := T_Mo) (N := 31) hx hb hts u_Mo hown hK hP 0 rfl rfl 3 (by decide) (hts _ L_924) (fun _ h9 => h9) rfl d_Mo_token_164 ?_
    refine lv_aload_n hx hb d_Mo_token_167 rfl (lv_at hl 0 rfl) ?_
    refine va_get (D := (dC, dI)) (ci := 6) (v := .int (q_count sj_143)) (C := R_Mo) (T := T_Mo) (N := 31) hx hb hts u_Mo hown hK hP 0 rfl rfl 5 (by decide) (hts _ L_926) (fun _ h9 => h9) rfl d_Mo_token_168 ?_
    refine lv_iload_n hx hb d_Mo_token_171 rfl (lv_at hl 3 rfl) ?_
    refine va_iast (D := (dC, dI)) hx hb hK hP hD hS 3 0 rfl rfl cb_1 d_Mo_token_172 (fun H locs hP hD hS => ?_)
    have hP : va_P (dC, dI) cls (wM cI cZ hm ma (s_names (s_words (s_kinds sj_143 (upd (q_kinds sj_143) ((q_count sj_143) : Int32).toNatClampNeg k)) (upd (q_words sj_143) ((q_count sj_143) : Int32).toNatClampNeg word)) (upd (q_names sj_143) ((q_count sj_143) : Int32).toNatClampNeg name))) H := hP
    have hD : va_D A (wM cI cZ hm ma (s_names (s_words (s_kinds sj_143 (upd (q_kinds sj_143) ((q_count sj_143) : Int32).toNatClampNeg k)) (upd (q_words sj_143) ((q_count sj_143) : Int32).toNatClampNeg word)) (upd (q_names sj_143) ((q_count sj_143) : Int32).toNatClampNeg name))) := hD
    refine lv_aload_n hx hb d_Mo_token_173 rfl (lv_at hl 0 rfl) ?_
    refine va_get (D := (dC, dI)) (ci := 6) (v := .ref (ma 3)) (C := R_Mo) (T := T_Mo) (N := 31) hx hb hts u_Mo hown hK hP 0 rfl rfl 4 (by decide) (hts _ L_925) (fun _ h9 => h9) rfl d_Mo_token_174 ?_
    refine lv_aload_n hx hb d_Mo_token_177 rfl (lv_at hl 0 rfl) ?_
    refine va_get (D := (dC, dI)) (ci := 6) (v := .int (q_count sj_143)) (C := R_Mo) (T := T_Mo) (N := 31) hx hb hts u_Mo hown hK hP 0 rfl rfl 5 (by decide) (hts _ L_926) (fun _ h9 => h9) rfl d_Mo_token_178 ?_
    refine lv_iload hx hb d_Mo_token_181 (lv_at hl 4 rfl) ?_
    refine va_zast (D := (dC, dI)) hx hb hK hP hD hS 4 1 rfl rfl cb_1 d_Mo_token_183 (fun H locs hP hD hS => ?_)
    have hP : va_P (dC, dI) cls (wM cI cZ hm ma (s_lines (s_names (s_words (s_kinds sj_143 (upd (q_kinds sj_143) ((q_count sj_143) : Int32).toNatClampNeg k)) (upd (q_words sj_143) ((q_count sj_143) : Int32).toNatClampNeg word)) (upd (q_names sj_143) ((q_count sj_143) : Int32).toNatClampNeg name)) (upd (q_lines sj_143) ((q_count sj_143) : Int32).toNatClampNeg (line &&& 1)))) H := hP
    have hD : va_D A (wM cI cZ hm ma (s_lines (s_names (s_words (s_kinds sj_143 (upd (q_kinds sj_143) ((q_count sj_143) : Int32).toNatClampNeg k)) (upd (q_words sj_143) ((q_count sj_143) : Int32).toNatClampNeg word)) (upd (q_names sj_143) ((q_count sj_143) : Int32).toNatClampNeg name)) (upd (q_lines sj_143) ((q_count sj_143) : Int32).toNatClampNeg (line &&& 1)))) := hD
    refine lv_aload_n hx hb d_Mo_token_184 rfl (lv_at hl 0 rfl) ?_
    refine lv_dup hx hb d_Mo_token_185 rfl ?_
    refine va_get (D := (dC, dI)) (ci := 6) (v := .int (q_count sj_143)) (C := R_Mo) (T := T_Mo) (N := 31) hx hb hts u_Mo hown hK hP 0 rfl rfl 5 (by decide) (hts _ L_926) (fun _ h9 => h9) rfl d_Mo_token_186 ?_
    refine lv_iconst (v := 1) hx hb d_Mo_token_189 (by decide) ?_
    refine lv_iadd hx hb d_Mo_token_190 ?_
    refine va_put (D := (dC, dI)) (ci := 6) (v := .int ((q_count sj_143) + 1)) (ty := .int) (C := R_Mo) (T := T_Mo) (N := 31) hx hb hts u_Mo ty_Mo tk_Mo nm_Mo hown hK hP hD hS 0 rfl rfl 5 (by decide) (hts _ L_926) (fun _ h9 => h9) rfl (by decide +kernel) rfl rfl (Nat.le_of_ble_eq_true rfl) d_Mo_token_191 (fun H locs hP hD hS => ?_)
    have hP : va_P (dC, dI) cls (wM cI cZ hm ma (s_count (s_lines (s_names (s_words (s_kinds sj_143 (upd (q_kinds sj_143) ((q_count sj_143) : Int32).toNatClampNeg k)) (upd (q_words sj_143) ((q_count sj_143) : Int32).toNatClampNeg word)) (upd (q_names sj_143) ((q_count sj_143) : Int32).toNatClampNeg name)) (upd (q_lines sj_143) ((q_count sj_143) : Int32).toNatClampNeg (line &&& 1))) ((q_count sj_143) + 1))) H := hP
    have hD : va_D A (wM cI cZ hm ma (s_count (s_lines (s_names (s_words (s_kinds sj_143 (upd (q_kinds sj_143) ((q_count sj_143) : Int32).toNatClampNeg k)) (upd (q_words sj_143) ((q_count sj_143) : Int32).toNatClampNeg word)) (upd (q_names sj_143) ((q_count sj_143) : Int32).toNatClampNeg name)) (upd (q_lines sj_143) ((q_count sj_143) : Int32).toNatClampNeg (line &&& 1))) ((q_count sj_143) + 1))) := hD
    refine lv_aload_n hx hb d_Mo_token_194 rfl (lv_at hl 0 rfl) ?_
    refine va_get (D := (dC, dI)) (ci := 6) (v := .int ((q_count sj_143) + 1)) (C := R_Mo) (T := T_Mo) (N := 31) hx hb hts u_Mo hown hK hP 0 rfl rfl 5 (by decide) (hts _ L_926) (fun _ h9 => h9) rfl d_Mo_token_195 ?_
    exact mr_iret (v := ((q_count sj_143) + 1)) (mo := (s_count (s_lines (s_names (s_words (s_kinds sj_143 (upd (q_kinds sj_143) ((q_count sj_143) : Int32).toNatClampNeg k)) (upd (q_words sj_143) ((q_count sj_143) : Int32).toNatClampNeg word)) (upd (q_names sj_143) ((q_count sj_143) : Int32).toNatClampNeg name)) (upd (q_lines sj_143) ((q_count sj_143) : Int32).toNatClampNeg (line &&& 1))) ((q_count sj_143) + 1))) hx hb hr hlocks hK hP hD hS (hJ_143.trans (by unfold f_Mo_token_J143; rw [if_pos cb_1])) d_Mo_token_198
  have jn_104 : ∀ (x5 : Int32) (sj_104 : MO) (H : Heap) (locs : List Loc) (ls : Array Slot), va_P (dC, dI) cls (wM cI cZ hm ma sj_104) H → va_D A (wM cI cZ hm ma sj_104) → va_S A s.heap H locs → lv_has ls 6 [(0, .ref hm), (1, .int k), (2, .int word), (3, .int name), (4, .int line), (5, .int x5)] → (f_Mo_token mo k word name line) = f_Mo_token_J104 k word name line x5 sj_104 → W p l e (headSpec (wy y_Mo_token c_Mo_token 6 (some .int)) { frames := (2), cells := 1, slots := 6, locals := (42) }).room s m [.ref hm, .int k, .int word, .int name, .int line].toArray below meth c H locs 0 0 (vx_MQ below (va_Qi (fun r (u : MO) => (f_Mo_token mo k word name line) = some (.inr (r, u))) (wB (dC, dI) cI cZ A (wM cI cZ hm ma)) A) (xM (dC, dI) cI cZ hm ma (f_Mo_token mo k word name line) A) [.ref hm, .int k, .int word, .int name, .int line].toArray s (mcM (f_Mo_token mo k word name line)) (msM (f_Mo_token mo k word name line)) A) (F0 m 104 ls []) := by
    intro x5 sj_104 H locs ls hP hD hS hl hJ_104
    refine lv_aload_n hx hb d_Mo_token_104 rfl (lv_at hl 0 rfl) ?_
    refine lv_iload hx hb d_Mo_token_105 (lv_at hl 5 rfl) ?_
    refine lv_if_ne (tgt := 114) hx hb d_Mo_token_107 (by decide) (fun c_2 => ?_) (fun c_2 => ?_)
    · refine lv_iconst (v := 0) hx hb d_Mo_token_114 (by decide) ?_
      refine lv_iload hx hb d_Mo_token_115 (lv_at hl 5 rfl) ?_
      refine lv_if_eq (tgt := 134) hx hb d_Mo_token_117 (by decide) (fun q9 => absurd q9 c_2) (fun _ => ?_)
      refine lv_aload_n hx hb d_Mo_token_120 rfl (lv_at hl 0 rfl) ?_
      refine va_get (D := (dC, dI)) (ci := 6) (v := .int (q_count sj_104)) (C := R_Mo) (T := T_Mo) (N := 31) hx hb hts u_Mo hown hK hP 0 rfl rfl 5 (by decide) (hts _ L_926) (fun _ h9 => h9) rfl d_Mo_token_121 ?_
      refine lv_sipush (v := 1000) hx hb d_Mo_token_124 (by decide) ?_
      refine lv_icmp_ne (tgt := 134) hx hb d_Mo_token_127 (by decide) (fun c_3 => ?_) (fun c_3 => ?_)
      · refine lv_iconst (v := 0) hx hb d_Mo_token_134 (by decide) ?_
        refine mr_Vi (g := (f_Mo_throwing sj_104 0 0)) (As := [.int 0, .int 0]) (rest := []) ⟨hx, hb, hml, hown, hts0⟩ (m_Mo_throwing l hlt dC dI cI cZ sa rk hm ma sj_104 _ 0 0 (fun z => hg (hJ_104.trans (by unfold f_Mo_token_J104; rw [if_neg c_2, if_neg c_3, bndM_n z])))) hP hD hK hS hA hC hZ hnt hlocks L_1029 L_1031 L_56 L_90 L_1032 k_Mo_throwing ⟨(by show _ ≤ 2; omega), (by show _ ≤ 42; omega)⟩ rfl rfl hl.1 (Nat.le_of_ble_eq_true rfl) d_Mo_token_135 rfl (fun q z => hJ_104.trans (by unfold f_Mo_token_J104; rw [if_neg c_2, if_neg c_3, bndM_l z])) (fun r_4 mo_4 H locs w_4 hP hD hS => ?_)
        refine lv_if_eq (tgt := 143) hx hb d_Mo_token_138 (by decide) (fun c_5 => ?_) (fun c_5 => ?_)
        · exact jn_143  mo_4 _ _ ls hP hD hS (lv_sub hl [0, 1, 2, 3, 4] rfl) (hJ_104.trans (by unfold f_Mo_token_J104; rw [if_neg c_2, if_neg c_3, bndM_r w_4, if_pos c_5]))
        · refine lv_iconst (v := 0) hx hb d_Mo_token_141 (by decide) ?_
          exact mr_iret (v := 0) (mo := mo_4) hx hb hr hlocks hK hP hD hS (hJ_104.trans (by unfold f_Mo_token_J104; rw [if_neg c_2, if_neg c_3, bndM_r w_4, if_neg c_5])) d_Mo_token_142
      · refine lv_iconst (v := 1) hx hb d_Mo_token_130 (by decide) ?_
        refine lv_goto (tgt := 135) hx hb d_Mo_token_131 (by decide) ?_
        refine mr_Vi (g := (f_Mo_throwing sj_104 0 1)) (As := [.int 0, .int 1]) (rest := []) ⟨hx, hb, hml, hown, hts0⟩ (m_Mo_throwing l hlt dC dI cI cZ sa rk hm ma sj_104 _ 0 1 (fun z => hg (hJ_104.trans (by unfold f_Mo_token_J104; rw [if_neg c_2, if_pos c_3, bndM_n z])))) hP hD hK hS hA hC hZ hnt hlocks L_1029 L_1031 L_56 L_90 L_1032 k_Mo_throwing ⟨(by show _ ≤ 2; omega), (by show _ ≤ 42; omega)⟩ rfl rfl hl.1 (Nat.le_of_ble_eq_true rfl) d_Mo_token_135 rfl (fun q z => hJ_104.trans (by unfold f_Mo_token_J104; rw [if_neg c_2, if_pos c_3, bndM_l z])) (fun r_6 mo_6 H locs w_6 hP hD hS => ?_)
        refine lv_if_eq (tgt := 143) hx hb d_Mo_token_138 (by decide) (fun c_7 => ?_) (fun c_7 => ?_)
        · exact jn_143  mo_6 _ _ ls hP hD hS (lv_sub hl [0, 1, 2, 3, 4] rfl) (hJ_104.trans (by unfold f_Mo_token_J104; rw [if_neg c_2, if_pos c_3, bndM_r w_6, if_pos c_7]))
        · refine lv_iconst (v := 0) hx hb d_Mo_token_141 (by decide) ?_
          exact mr_iret (v := 0) (mo := mo_6) hx hb hr hlocks hK hP hD hS (hJ_104.trans (by unfold f_Mo_token_J104; rw [if_neg c_2, if_pos c_3, bndM_r w_6, if_neg c_7])) d_Mo_token_142
    · refine lv_iconst (v := 1) hx hb d_Mo_token_110 (by decide) ?_
      refine lv_goto (tgt := 115) hx hb d_Mo_token_111 (by decide) ?_
      refine lv_iload hx hb d_Mo_token_115 (lv_at hl 5 rfl) ?_
      refine lv_if_eq (tgt := 134) hx hb d_Mo_token_117 (by decide) (fun _ => ?_) (fun q9 => absurd c_2 q9)
      refine lv_iconst (v := 0) hx hb d_Mo_token_134 (by decide) ?_
      refine mr_Vi (g := (f_Mo_throwing sj_104 1 0)) (As := [.int 1, .int 0]) (rest := []) ⟨hx, hb, hml, hown, hts0⟩ (m_Mo_throwing l hlt dC dI cI cZ sa rk hm ma sj_104 _ 1 0 (fun z => hg (hJ_104.trans (by unfold f_Mo_token_J104; rw [if_pos c_2, bndM_n z])))) hP hD hK hS hA hC hZ hnt hlocks L_1029 L_1031 L_56 L_90 L_1032 k_Mo_throwing ⟨(by show _ ≤ 2; omega), (by show _ ≤ 42; omega)⟩ rfl rfl hl.1 (Nat.le_of_ble_eq_true rfl) d_Mo_token_135 rfl (fun q z => hJ_104.trans (by unfold f_Mo_token_J104; rw [if_pos c_2, bndM_l z])) (fun r_8 mo_8 H locs w_8 hP hD hS => ?_)
      refine lv_if_eq (tgt := 143) hx hb d_Mo_token_138 (by decide) (fun c_9 => ?_) (fun c_9 => ?_)
      · exact jn_143  mo_8 _ _ ls hP hD hS (lv_sub hl [0, 1, 2, 3, 4] rfl) (hJ_104.trans (by unfold f_Mo_token_J104; rw [if_pos c_2, bndM_r w_8, if_pos c_9]))
      · refine lv_iconst (v := 0) hx hb d_Mo_token_141 (by decide) ?_
        exact mr_iret (v := 0) (mo := mo_8) hx hb hr hlocks hK hP hD hS (hJ_104.trans (by unfold f_Mo_token_J104; rw [if_pos c_2, bndM_r w_8, if_neg c_9])) d_Mo_token_142
  have jn_66 : ∀ (x5 : Int32) (sj_66 : MO) (H : Heap) (locs : List Loc) (ls : Array Slot), va_P (dC, dI) cls (wM cI cZ hm ma sj_66) H → va_D A (wM cI cZ hm ma sj_66) → va_S A s.heap H locs → lv_has ls 6 [(0, .ref hm), (1, .int k), (2, .int word), (3, .int name), (4, .int line), (5, .int x5)] → (f_Mo_token mo k word name line) = f_Mo_token_J66 k word name line x5 sj_66 → W p l e (headSpec (wy y_Mo_token c_Mo_token 6 (some .int)) { frames := (2), cells := 1, slots := 6, locals := (42) }).room s m [.ref hm, .int k, .int word, .int name, .int line].toArray below meth c H locs 0 0 (vx_MQ below (va_Qi (fun r (u : MO) => (f_Mo_token mo k word name line) = some (.inr (r, u))) (wB (dC, dI) cI cZ A (wM cI cZ hm ma)) A) (xM (dC, dI) cI cZ hm ma (f_Mo_token mo k word name line) A) [.ref hm, .int k, .int word, .int name, .int line].toArray s (mcM (f_Mo_token mo k word name line)) (msM (f_Mo_token mo k word name line)) A) (F0 m 66 ls []) := by
    intro x5 sj_66 H locs ls hP hD hS hl hJ_66
    refine lv_iload_n hx hb d_Mo_token_66 rfl (lv_at hl 1 rfl) ?_
    refine lv_iconst (v := 1) hx hb d_Mo_token_67 (by decide) ?_
    refine lv_icmp_eq (tgt := 81) hx hb d_Mo_token_68 (by decide) (fun c_10 => ?_) (fun c_10 => ?_)
    · refine lv_iload hx hb d_Mo_token_81 (lv_at hl 5 rfl) ?_
      refine lv_if_eq (tgt := 101) hx hb d_Mo_token_83 (by decide) (fun c_11 => ?_) (fun c_11 => ?_)
      · refine lv_iconst (v := 0) hx hb d_Mo_token_101 (by decide) ?_
        refine lv_istore (lv' := [(5, .int 0), (0, .ref hm), (1, .int k), (2, .int word), (3, .int name), (4, .int line)]) hx hb d_Mo_token_102 hl (by decide) rfl (fun ls hl => ?_)
        exact jn_104 0 sj_66 _ _ ls hP hD hS (lv_sub hl [1, 2, 3, 4, 5, 0] rfl) (hJ_66.trans (by unfold f_Mo_token_J66; rw [if_pos c_10, if_pos c_11]))
      · refine lv_iload_n hx hb d_Mo_token_86 rfl (lv_at hl 3 rfl) ?_
        refine lv_iconst (v := 0) hx hb d_Mo_token_87 (by decide) ?_
        refine lv_sipush (v := 999) hx hb d_Mo_token_88 (by decide) ?_
        refine mr_Si (g := (f_Mo_isIn sj_66 name 0 999)) (As := [.int name, .int 0, .int 999]) (rest := []) ⟨hx, hb, hml, hown, hts0⟩ (m_Mo_isIn l hlt dC dI cI cZ sa rk hm ma sj_66 _ name 0 999 (fun z => hg (hJ_66.trans (by unfold f_Mo_token_J66; rw [if_pos c_10, if_neg c_11, bndM_n z])))) hP hD hK hS hA hC hZ hnt hlocks L_1023 L_1024 L_90 L_1025 k_Mo_isIn ⟨(by show _ ≤ 2; omega), (by show _ ≤ 42; omega)⟩ rfl rfl hl.1 (Nat.le_of_ble_eq_true rfl) d_Mo_token_91 rfl (fun q z => hJ_66.trans (by unfold f_Mo_token_J66; rw [if_pos c_10, if_neg c_11, bndM_l z])) (fun r_12 mo_12 H locs w_12 hP hD hS => ?_)
        refine lv_if_eq (tgt := 101) hx hb d_Mo_token_94 (by decide) (fun c_13 => ?_) (fun c_13 => ?_)
        · refine lv_iconst (v := 0) hx hb d_Mo_token_101 (by decide) ?_
          refine lv_istore (lv' := [(5, .int 0), (0, .ref hm), (1, .int k), (2, .int word), (3, .int name), (4, .int line)]) hx hb d_Mo_token_102 hl (by decide) rfl (fun ls hl => ?_)
          exact jn_104 0 mo_12 _ _ ls hP hD hS (lv_sub hl [1, 2, 3, 4, 5, 0] rfl) (hJ_66.trans (by unfold f_Mo_token_J66; rw [if_pos c_10, if_neg c_11, bndM_r w_12, if_pos c_13]))
        · refine lv_iconst (v := 1) hx hb d_Mo_token_97 (by decide) ?_
          refine lv_goto (tgt := 102) hx hb d_Mo_token_98 (by decide) ?_
          refine lv_istore (lv' := [(5, .int 1), (0, .ref hm), (1, .int k), (2, .int word), (3, .int name), (4, .int line)]) hx hb d_Mo_token_102 hl (by decide) rfl (fun ls hl => ?_)
          exact jn_104 1 mo_12 _ _ ls hP hD hS (lv_sub hl [1, 2, 3, 4, 5, 0] rfl) (hJ_66.trans (by unfold f_Mo_token_J66; rw [if_pos c_10, if_neg c_11, bndM_r w_12, if_neg c_13]))
    · refine lv_iload_n hx hb d_Mo_token_71 rfl (lv_at hl 1 rfl) ?_
      refine lv_iconst (v := 2) hx hb d_Mo_token_72 (by decide) ?_
      refine lv_icmp_eq (tgt := 81) hx hb d_Mo_token_73 (by decide) (fun c_14 => ?_) (fun c_14 => ?_)
      · refine lv_iload hx hb d_Mo_token_81 (lv_at hl 5 rfl) ?_
        refine lv_if_eq (tgt := 101) hx hb d_Mo_token_83 (by decide) (fun c_15 => ?_) (fun c_15 => ?_)
        · refine lv_iconst (v := 0) hx hb d_Mo_token_101 (by decide) ?_
          refine lv_istore (lv' := [(5, .int 0), (0, .ref hm), (1, .int k), (2, .int word), (3, .int name), (4, .int line)]) hx hb d_Mo_token_102 hl (by decide) rfl (fun ls hl => ?_)
          exact jn_104 0 sj_66 _ _ ls hP hD hS (lv_sub hl [1, 2, 3, 4, 5, 0] rfl) (hJ_66.trans (by unfold f_Mo_token_J66; rw [if_neg c_10, if_pos c_14, if_pos c_15]))
        · refine lv_iload_n hx hb d_Mo_token_86 rfl (lv_at hl 3 rfl) ?_
          refine lv_iconst (v := 0) hx hb d_Mo_token_87 (by decide) ?_
          refine lv_sipush (v := 999) hx hb d_Mo_token_88 (by decide) ?_
          refine mr_Si (g := (f_Mo_isIn sj_66 name 0 999)) (As := [.int name, .int 0, .int 999]) (rest := []) ⟨hx, hb, hml, hown, hts0⟩ (m_Mo_isIn l hlt dC dI cI cZ sa rk hm ma sj_66 _ name 0 999 (fun z => hg (hJ_66.trans (by unfold f_Mo_token_J66; rw [if_neg c_10, if_pos c_14, if_neg c_15, bndM_n z])))) hP hD hK hS hA hC hZ hnt hlocks L_1023 L_1024 L_90 L_1025 k_Mo_isIn ⟨(by show _ ≤ 2; omega), (by show _ ≤ 42; omega)⟩ rfl rfl hl.1 (Nat.le_of_ble_eq_true rfl) d_Mo_token_91 rfl (fun q z => hJ_66.trans (by unfold f_Mo_token_J66; rw [if_neg c_10, if_pos c_14, if_neg c_15, bndM_l z])) (fun r_16 mo_16 H locs w_16 hP hD hS => ?_)
          refine lv_if_eq (tgt := 101) hx hb d_Mo_token_94 (by decide) (fun c_17 => ?_) (fun c_17 => ?_)
          · refine lv_iconst (v := 0) hx hb d_Mo_token_101 (by decide) ?_
            refine lv_istore (lv' := [(5, .int 0), (0, .ref hm), (1, .int k), (2, .int word), (3, .int name), (4, .int line)]) hx hb d_Mo_token_102 hl (by decide) rfl (fun ls hl => ?_)
            exact jn_104 0 mo_16 _ _ ls hP hD hS (lv_sub hl [1, 2, 3, 4, 5, 0] rfl) (hJ_66.trans (by unfold f_Mo_token_J66; rw [if_neg c_10, if_pos c_14, if_neg c_15, bndM_r w_16, if_pos c_17]))
          · refine lv_iconst (v := 1) hx hb d_Mo_token_97 (by decide) ?_
            refine lv_goto (tgt := 102) hx hb d_Mo_token_98 (by decide) ?_
            refine lv_istore (lv' := [(5, .int 1), (0, .ref hm), (1, .int k), (2, .int word), (3, .int name), (4, .int line)]) hx hb d_Mo_token_102 hl (by decide) rfl (fun ls hl => ?_)
            exact jn_104 1 mo_16 _ _ ls hP hD hS (lv_sub hl [1, 2, 3, 4, 5, 0] rfl) (hJ_66.trans (by unfold f_Mo_token_J66; rw [if_neg c_10, if_pos c_14, if_neg c_15, bndM_r w_16, if_neg c_17]))
      · refine lv_iload_n hx hb d_Mo_token_76 rfl (lv_at hl 1 rfl) ?_
        refine lv_iconst (v := 3) hx hb d_Mo_token_77 (by decide) ?_
        refine lv_icmp_ne (tgt := 104) hx hb d_Mo_token_78 (by decide) (fun c_18 => ?_) (fun c_18 => ?_)
        · exact jn_104 x5 sj_66 _ _ ls hP hD hS (lv_sub hl [0, 1, 2, 3, 4, 5] rfl) (hJ_66.trans (by unfold f_Mo_token_J66; rw [if_neg c_10, if_neg c_14, if_neg c_18]))
        · refine lv_iload hx hb d_Mo_token_81 (lv_at hl 5 rfl) ?_
          refine lv_if_eq (tgt := 101) hx hb d_Mo_token_83 (by decide) (fun c_19 => ?_) (fun c_19 => ?_)
          · refine lv_iconst (v := 0) hx hb d_Mo_token_101 (by decide) ?_
            refine lv_istore (lv' := [(5, .int 0), (0, .ref hm), (1, .int k), (2, .int word), (3, .int name), (4, .int line)]) hx hb d_Mo_token_102 hl (by decide) rfl (fun ls hl => ?_)
            exact jn_104 0 sj_66 _ _ ls hP hD hS (lv_sub hl [1, 2, 3, 4, 5, 0] rfl) (hJ_66.trans (by unfold f_Mo_token_J66; rw [if_neg c_10, if_neg c_14, if_pos c_18, if_pos c_19]))
          · refine lv_iload_n hx hb d_Mo_token_86 rfl (lv_at hl 3 rfl) ?_
            refine lv_iconst (v := 0) hx hb d_Mo_token_87 (by decide) ?_
            refine lv_sipush (v := 999) hx hb d_Mo_token_88 (by decide) ?_
            refine mr_Si (g := (f_Mo_isIn sj_66 name 0 999)) (As := [.int name, .int 0, .int 999]) (rest := []) ⟨hx, hb, hml, hown, hts0⟩ (m_Mo_isIn l hlt dC dI cI cZ sa rk hm ma sj_66 _ name 0 999 (fun z => hg (hJ_66.trans (by unfold f_Mo_token_J66; rw [if_neg c_10, if_neg c_14, if_pos c_18, if_neg c_19, bndM_n z])))) hP hD hK hS hA hC hZ hnt hlocks L_1023 L_1024 L_90 L_1025 k_Mo_isIn ⟨(by show _ ≤ 2; omega), (by show _ ≤ 42; omega)⟩ rfl rfl hl.1 (Nat.le_of_ble_eq_true rfl) d_Mo_token_91 rfl (fun q z => hJ_66.trans (by unfold f_Mo_token_J66; rw [if_neg c_10, if_neg c_14, if_pos c_18, if_neg c_19, bndM_l z])) (fun r_20 mo_20 H locs w_20 hP hD hS => ?_)
            refine lv_if_eq (tgt := 101) hx hb d_Mo_token_94 (by decide) (fun c_21 => ?_) (fun c_21 => ?_)
            · refine lv_iconst (v := 0) hx hb d_Mo_token_101 (by decide) ?_
              refine lv_istore (lv' := [(5, .int 0), (0, .ref hm), (1, .int k), (2, .int word), (3, .int name), (4, .int line)]) hx hb d_Mo_token_102 hl (by decide) rfl (fun ls hl => ?_)
              exact jn_104 0 mo_20 _ _ ls hP hD hS (lv_sub hl [1, 2, 3, 4, 5, 0] rfl) (hJ_66.trans (by unfold f_Mo_token_J66; rw [if_neg c_10, if_neg c_14, if_pos c_18, if_neg c_19, bndM_r w_20, if_pos c_21]))
            · refine lv_iconst (v := 1) hx hb d_Mo_token_97 (by decide) ?_
              refine lv_goto (tgt := 102) hx hb d_Mo_token_98 (by decide) ?_
              refine lv_istore (lv' := [(5, .int 1), (0, .ref hm), (1, .int k), (2, .int word), (3, .int name), (4, .int line)]) hx hb d_Mo_token_102 hl (by decide) rfl (fun ls hl => ?_)
              exact jn_104 1 mo_20 _ _ ls hP hD hS (lv_sub hl [1, 2, 3, 4, 5, 0] rfl) (hJ_66.trans (by unfold f_Mo_token_J66; rw [if_neg c_10, if_neg c_14, if_pos c_18, if_neg c_19, bndM_r w_20, if_neg c_21]))
  have jn_53 : ∀ (x5 : Int32) (sj_53 : MO) (H : Heap) (locs : List Loc) (ls : Array Slot), va_P (dC, dI) cls (wM cI cZ hm ma sj_53) H → va_D A (wM cI cZ hm ma sj_53) → va_S A s.heap H locs → lv_has ls 6 [(0, .ref hm), (1, .int k), (2, .int word), (3, .int name), (4, .int line), (5, .int x5)] → (f_Mo_token mo k word name line) = f_Mo_token_J53 k word name line x5 sj_53 → W p l e (headSpec (wy y_Mo_token c_Mo_token 6 (some .int)) { frames := (2), cells := 1, slots := 6, locals := (42) }).room s m [.ref hm, .int k, .int word, .int name, .int line].toArray below meth c H locs 0 0 (vx_MQ below (va_Qi (fun r (u : MO) => (f_Mo_token mo k word name line) = some (.inr (r, u))) (wB (dC, dI) cI cZ A (wM cI cZ hm ma)) A) (xM (dC, dI) cI cZ hm ma (f_Mo_token mo k word name line) A) [.ref hm, .int k, .int word, .int name, .int line].toArray s (mcM (f_Mo_token mo k word name line)) (msM (f_Mo_token mo k word name line)) A) (F0 m 53 ls []) := by
    intro x5 sj_53 H locs ls hP hD hS hl hJ_53
    refine lv_iload_n hx hb d_Mo_token_53 rfl (lv_at hl 1 rfl) ?_
    refine lv_iconst (v := 3) hx hb d_Mo_token_54 (by decide) ?_
    refine lv_icmp_ne (tgt := 66) hx hb d_Mo_token_55 (by decide) (fun c_22 => ?_) (fun c_22 => ?_)
    · exact jn_66 x5 sj_53 _ _ ls hP hD hS (lv_sub hl [0, 1, 2, 3, 4, 5] rfl) (hJ_53.trans (by unfold f_Mo_token_J53; rw [if_neg c_22]))
    · refine lv_iload_n hx hb d_Mo_token_58 rfl (lv_at hl 2 rfl) ?_
      refine lv_iconst (v := 0) hx hb d_Mo_token_59 (by decide) ?_
      refine lv_iconst (v := 1) hx hb d_Mo_token_60 (by decide) ?_
      refine mr_Si (g := (f_Mo_isIn sj_53 word 0 1)) (As := [.int word, .int 0, .int 1]) (rest := []) ⟨hx, hb, hml, hown, hts0⟩ (m_Mo_isIn l hlt dC dI cI cZ sa rk hm ma sj_53 _ word 0 1 (fun z => hg (hJ_53.trans (by unfold f_Mo_token_J53; rw [if_pos c_22, bndM_n z])))) hP hD hK hS hA hC hZ hnt hlocks L_1023 L_1024 L_90 L_1025 k_Mo_isIn ⟨(by show _ ≤ 2; omega), (by show _ ≤ 42; omega)⟩ rfl rfl hl.1 (Nat.le_of_ble_eq_true rfl) d_Mo_token_61 rfl (fun q z => hJ_53.trans (by unfold f_Mo_token_J53; rw [if_pos c_22, bndM_l z])) (fun r_23 mo_23 H locs w_23 hP hD hS => ?_)
      refine lv_istore (lv' := [(5, .int r_23), (0, .ref hm), (1, .int k), (2, .int word), (3, .int name), (4, .int line)]) hx hb d_Mo_token_64 hl (by decide) rfl (fun ls hl => ?_)
      exact jn_66 r_23 mo_23 _ _ ls hP hD hS (lv_sub hl [1, 2, 3, 4, 5, 0] rfl) (hJ_53.trans (by unfold f_Mo_token_J53; rw [if_pos c_22, bndM_r w_23]))
  have jn_42 : ∀ (x5 : Int32) (sj_42 : MO) (H : Heap) (locs : List Loc) (ls : Array Slot), va_P (dC, dI) cls (wM cI cZ hm ma sj_42) H → va_D A (wM cI cZ hm ma sj_42) → va_S A s.heap H locs → lv_has ls 6 [(0, .ref hm), (1, .int k), (2, .int word), (3, .int name), (4, .int line), (5, .int x5)] → (f_Mo_token mo k word name line) = f_Mo_token_J42 k word name line x5 sj_42 → W p l e (headSpec (wy y_Mo_token c_Mo_token 6 (some .int)) { frames := (2), cells := 1, slots := 6, locals := (42) }).room s m [.ref hm, .int k, .int word, .int name, .int line].toArray below meth c H locs 0 0 (vx_MQ below (va_Qi (fun r (u : MO) => (f_Mo_token mo k word name line) = some (.inr (r, u))) (wB (dC, dI) cI cZ A (wM cI cZ hm ma)) A) (xM (dC, dI) cI cZ hm ma (f_Mo_token mo k word name line) A) [.ref hm, .int k, .int word, .int name, .int line].toArray s (mcM (f_Mo_token mo k word name line)) (msM (f_Mo_token mo k word name line)) A) (F0 m 42 ls []) := by
    intro x5 sj_42 H locs ls hP hD hS hl hJ_42
    refine lv_iload_n hx hb d_Mo_token_42 rfl (lv_at hl 1 rfl) ?_
    refine lv_iconst (v := 4) hx hb d_Mo_token_43 (by decide) ?_
    refine lv_icmp_ne (tgt := 53) hx hb d_Mo_token_44 (by decide) (fun c_24 => ?_) (fun c_24 => ?_)
    · exact jn_53 x5 sj_42 _ _ ls hP hD hS (lv_sub hl [0, 1, 2, 3, 4, 5] rfl) (hJ_42.trans (by unfold f_Mo_token_J42; rw [if_neg c_24]))
    · refine lv_iload_n hx hb d_Mo_token_47 rfl (lv_at hl 2 rfl) ?_
      refine mr_Si (g := (f_Mo_isSignNumber sj_42 word)) (As := [.int word]) (rest := []) ⟨hx, hb, hml, hown, hts0⟩ (m_Mo_isSignNumber l hlt dC dI cI cZ sa rk hm ma sj_42 _ word (fun z => hg (hJ_42.trans (by unfold f_Mo_token_J42; rw [if_pos c_24, bndM_n z])))) hP hD hK hS hA hC hZ hnt hlocks L_1026 L_1027 L_90 L_1028 k_Mo_isSignNumber ⟨(by show _ ≤ 2; omega), (by show _ ≤ 42; omega)⟩ rfl rfl hl.1 (Nat.le_of_ble_eq_true rfl) d_Mo_token_48 rfl (fun q z => hJ_42.trans (by unfold f_Mo_token_J42; rw [if_pos c_24, bndM_l z])) (fun r_25 mo_25 H locs w_25 hP hD hS => ?_)
      refine lv_istore (lv' := [(5, .int r_25), (0, .ref hm), (1, .int k), (2, .int word), (3, .int name), (4, .int line)]) hx hb d_Mo_token_51 hl (by decide) rfl (fun ls hl => ?_)
      exact jn_53 r_25 mo_25 _ _ ls hP hD hS (lv_sub hl [1, 2, 3, 4, 5, 0] rfl) (hJ_42.trans (by unfold f_Mo_token_J42; rw [if_pos c_24, bndM_r w_25]))
  refine lv_iload_n hx hb d_Mo_token_0 rfl (lv_at hl 1 rfl) ?_
  refine lv_iconst (v := 1) hx hb d_Mo_token_1 (by decide) ?_
  refine lv_iconst (v := 5) hx hb d_Mo_token_2 (by decide) ?_
  refine mr_Si (g := (f_Mo_isIn mo k 1 5)) (As := [.int k, .int 1, .int 5]) (rest := []) ⟨hx, hb, hml, hown, hts0⟩ (m_Mo_isIn l hlt dC dI cI cZ sa rk hm ma mo _ k 1 5 (fun z => hg (by unfold f_Mo_token; rw [bndM_n z]))) hP hD hK hS hA hC hZ hnt hlocks L_1023 L_1024 L_90 L_1025 k_Mo_isIn ⟨(by show _ ≤ 2; omega), (by show _ ≤ 42; omega)⟩ rfl rfl hl.1 (Nat.le_of_ble_eq_true rfl) d_Mo_token_3 rfl (fun q z => by unfold f_Mo_token; rw [bndM_l z]) (fun r_26 mo_26 H locs w_26 hP hD hS => ?_)
  refine lv_istore (lv' := [(5, .int r_26), (0, .ref hm), (1, .int k), (2, .int word), (3, .int name), (4, .int line)]) hx hb d_Mo_token_6 hl (by decide) rfl (fun ls hl => ?_)
  refine lv_iload_n hx hb d_Mo_token_8 rfl (lv_at hl 2 rfl) ?_
  refine lv_iconst (v := 1) hx hb d_Mo_token_9 (by decide) ?_
  refine lv_icmp_ne (tgt := 42) hx hb d_Mo_token_10 (by decide) (fun c_27 => ?_) (fun c_27 => ?_)
  · exact jn_42 r_26 mo_26 _ _ ls hP hD hS (lv_sub hl [1, 2, 3, 4, 5, 0] rfl) (by unfold f_Mo_token; rw [bndM_r w_26, if_neg c_27])
  · refine lv_iload_n hx hb d_Mo_token_13 rfl (lv_at hl 3 rfl) ?_
    refine lv_iconst (v := (-1)) hx hb d_Mo_token_14 (by decide) ?_
    refine lv_bipush (v := 44) hx hb d_Mo_token_15 (by decide) ?_
    refine mr_Si (g := (f_Mo_isIn mo_26 word (-1) 44)) (As := [.int word, .int (-1), .int 44]) (rest := []) ⟨hx, hb, hml, hown, hts0⟩ (m_Mo_isIn l hlt dC dI cI cZ sa rk hm ma mo_26 _ word (-1) 44 (fun z => hg (by unfold f_Mo_token; rw [bndM_r w_26, if_pos c_27, bndM_n z]))) hP hD hK hS hA hC hZ hnt hlocks L_1023 L_1024 L_90 L_1025 k_Mo_isIn ⟨(by show _ ≤ 2; omega), (by show _ ≤ 42; omega)⟩ rfl rfl hl.1 (Nat.le_of_ble_eq_true rfl) d_Mo_token_17 rfl (fun q z => by unfold f_Mo_token; rw [bndM_r w_26, if_pos c_27, bndM_l z]) (fun r_28 mo_28 H locs w_28 hP hD hS => ?_)
    refine lv_if_ne (tgt := 35) hx hb d_Mo_token_20 (by decide) (fun c_29 => ?_) (fun c_29 => ?_)
    · refine lv_iconst (v := 1) hx hb d_Mo_token_35 (by decide) ?_
      refine lv_goto (tgt := 40) hx hb d_Mo_token_36 (by decide) ?_
      refine lv_istore (lv' := [(5, .int 1), (0, .ref hm), (1, .int k), (2, .int word), (3, .int name), (4, .int line)]) hx hb d_Mo_token_40 hl (by decide) rfl (fun ls hl => ?_)
      exact jn_42 1 mo_28 _ _ ls hP hD hS (lv_sub hl [1, 2, 3, 4, 5, 0] rfl) (by unfold f_Mo_token; rw [bndM_r w_26, if_pos c_27, bndM_r w_28, if_neg c_29])
    · refine lv_iload_n hx hb d_Mo_token_23 rfl (lv_at hl 3 rfl) ?_
      refine lv_bipush (v := 100) hx hb d_Mo_token_24 (by decide) ?_
      refine lv_sipush (v := 144) hx hb d_Mo_token_26 (by decide) ?_
      refine mr_Si (g := (f_Mo_isIn mo_28 word 100 144)) (As := [.int word, .int 100, .int 144]) (rest := []) ⟨hx, hb, hml, hown, hts0⟩ (m_Mo_isIn l hlt dC dI cI cZ sa rk hm ma mo_28 _ word 100 144 (fun z => hg (by unfold f_Mo_token; rw [bndM_r w_26, if_pos c_27, bndM_r w_28, if_pos c_29, bndM_n z]))) hP hD hK hS hA hC hZ hnt hlocks L_1023 L_1024 L_90 L_1025 k_Mo_isIn ⟨(by show _ ≤ 2; omega), (by show _ ≤ 42; omega)⟩ rfl rfl hl.1 (Nat.le_of_ble_eq_true rfl) d_Mo_token_29 rfl (fun q z => by unfold f_Mo_token; rw [bndM_r w_26, if_pos c_27, bndM_r w_28, if_pos c_29, bndM_l z]) (fun r_30 mo_30 H locs w_30 hP hD hS => ?_)
      refine lv_if_eq (tgt := 39) hx hb d_Mo_token_32 (by decide) (fun c_31 => ?_) (fun c_31 => ?_)
      · refine lv_iconst (v := 0) hx hb d_Mo_token_39 (by decide) ?_
        refine lv_istore (lv' := [(5, .int 0), (0, .ref hm), (1, .int k), (2, .int word), (3, .int name), (4, .int line)]) hx hb d_Mo_token_40 hl (by decide) rfl (fun ls hl => ?_)
        exact jn_42 0 mo_30 _ _ ls hP hD hS (lv_sub hl [1, 2, 3, 4, 5, 0] rfl) (by unfold f_Mo_token; rw [bndM_r w_26, if_pos c_27, bndM_r w_28, if_pos c_29, bndM_r w_30, if_pos c_31])
      · refine lv_iconst (v := 1) hx hb d_Mo_token_35 (by decide) ?_
        refine lv_goto (tgt := 40) hx hb d_Mo_token_36 (by decide) ?_
        refine lv_istore (lv' := [(5, .int 1), (0, .ref hm), (1, .int k), (2, .int word), (3, .int name), (4, .int line)]) hx hb d_Mo_token_40 hl (by decide) rfl (fun ls hl => ?_)
        exact jn_42 1 mo_30 _ _ ls hP hD hS (lv_sub hl [1, 2, 3, 4, 5, 0] rfl) (by unfold f_Mo_token; rw [bndM_r w_26, if_pos c_27, bndM_r w_28, if_pos c_29, bndM_r w_30, if_neg c_31])
