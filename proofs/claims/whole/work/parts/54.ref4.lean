/-! the reference: property, object, primary, member, postfix, unary, binary, assignment, expression, declaration -/
def f_Mo_property (K : Nat → List Int32 → MO → Rm) (mo : MO) (node : Int32) (mark : Int32) (depth : Int32) : Rm := (bndM (f_Mo_isKind mo 1) (fun r_1 mo_1 => (bndM (f_Mo_propertyName mo_1) (fun r_2 mo_2 => (if r_1 = 0 then (bndM (f_Mo_expect mo_2 70) (fun _ mo_4 => (bndM (f_Mo_tell mo_4 mark r_2 0 (q_at mo)) (fun _ mo_5 => (bndM (f_Mo_make mo_5 47 r_2 (q_at mo)) (fun r_6 mo_6 => (bndM (f_Mo_hang mo_6 node r_6) (fun _ mo_7 => (bndM (K 1 [(depth + 1), 1] mo_7) (fun r_8 mo_8 => (bndM (f_Mo_hang mo_8 r_6 r_8) (fun _ mo_9 => (some (.inr (0, mo_9))))))))))))))) else (if r_2 = 2 then (bndM (f_Mo_isSign mo_2 70) (fun r_11 mo_11 => (if r_11 = 0 then (bndM (f_Mo_make mo_11 48 0 (q_at mo)) (fun r_19 mo_19 => (bndM (f_Mo_propertyName mo_19) (fun r_20 mo_20 => (if inb r_19 2600 then (bndM (f_Mo_tell (s_value mo_20 (upd (q_value mo_20) (r_19 : Int32).toNatClampNeg r_20)) mark ((upd (q_value mo_20) (r_19 : Int32).toNatClampNeg r_20) (r_19 : Int32).toNatClampNeg) (r_2 - 1) (q_at mo_11)) (fun _ mo_22 => (bndM (f_Mo_hang mo_22 node r_19) (fun _ mo_23 => (bndM (f_Mo_function K mo_23 48 depth) (fun r_24 mo_24 => (bndM (f_Mo_hang mo_24 r_19 r_24) (fun _ mo_25 => (some (.inr (0, mo_25))))))))))) else none))))) else (bndM (f_Mo_expect mo_11 70) (fun _ mo_13 => (bndM (f_Mo_tell mo_13 mark r_2 0 (q_at mo)) (fun _ mo_14 => (bndM (f_Mo_make mo_14 47 r_2 (q_at mo)) (fun r_15 mo_15 => (bndM (f_Mo_hang mo_15 node r_15) (fun _ mo_16 => (bndM (K 1 [(depth + 1), 1] mo_16) (fun r_17 mo_17 => (bndM (f_Mo_hang mo_17 r_15 r_17) (fun _ mo_18 => (some (.inr (0, mo_18)))))))))))))))))) else (if r_2 = 3 then (bndM (f_Mo_isSign mo_2 70) (fun r_33 mo_33 => (if r_33 = 0 then (bndM (f_Mo_make mo_33 49 0 (q_at mo)) (fun r_41 mo_41 => (bndM (f_Mo_propertyName mo_41) (fun r_42 mo_42 => (if inb r_41 2600 then (bndM (f_Mo_tell (s_value mo_42 (upd (q_value mo_42) (r_41 : Int32).toNatClampNeg r_42)) mark ((upd (q_value mo_42) (r_41 : Int32).toNatClampNeg r_42) (r_41 : Int32).toNatClampNeg) (r_2 - 1) (q_at mo_33)) (fun _ mo_44 => (bndM (f_Mo_hang mo_44 node r_41) (fun _ mo_45 => (bndM (f_Mo_function K mo_45 49 depth) (fun r_46 mo_46 => (bndM (f_Mo_hang mo_46 r_41 r_46) (fun _ mo_47 => (some (.inr (0, mo_47))))))))))) else none))))) else (bndM (f_Mo_expect mo_33 70) (fun _ mo_35 => (bndM (f_Mo_tell mo_35 mark r_2 0 (q_at mo)) (fun _ mo_36 => (bndM (f_Mo_make mo_36 47 r_2 (q_at mo)) (fun r_37 mo_37 => (bndM (f_Mo_hang mo_37 node r_37) (fun _ mo_38 => (bndM (K 1 [(depth + 1), 1] mo_38) (fun r_39 mo_39 => (bndM (f_Mo_hang mo_39 r_37 r_39) (fun _ mo_40 => (some (.inr (0, mo_40)))))))))))))))))) else (bndM (f_Mo_expect mo_2 70) (fun _ mo_27 => (bndM (f_Mo_tell mo_27 mark r_2 0 (q_at mo)) (fun _ mo_28 => (bndM (f_Mo_make mo_28 47 r_2 (q_at mo)) (fun r_29 mo_29 => (bndM (f_Mo_hang mo_29 node r_29) (fun _ mo_30 => (bndM (K 1 [(depth + 1), 1] mo_30) (fun r_31 mo_31 => (bndM (f_Mo_hang mo_31 r_29 r_31) (fun _ mo_32 => (some (.inr (0, mo_32))))))))))))))))))))))
set_option maxRecDepth 100000 in
set_option maxHeartbeats 4000000 in
theorem m_Mo_property (l : Launch) (hlt : l.stackTraces = false) (dC : Nat → ClassId) (dI : Nat → Nat → Nat) (cI cZ : ClassId) (sa rk hm : Nat) (ma : Nat → Nat) (fr0 lo0 : Nat) (K : Nat → List Int32 → MO → Rm) (hR0 : ∀ (mo : MO) (sz : Nat) (p0 p1 : Int32), K 0 [p0, p1] mo ≠ none → cXi l y_Mo_expression c_Mo_expression 5 .int fr0 lo0 (dC, dI) cI cZ sa rk hm ma mo sz [.ref hm, .int p0, .int p1] (K 0 [p0, p1] mo)) (hR1 : ∀ (mo : MO) (sz : Nat) (p0 p1 : Int32), K 1 [p0, p1] mo ≠ none → cXi l y_Mo_assignment c_Mo_assignment 5 .int fr0 lo0 (dC, dI) cI cZ sa rk hm ma mo sz [.ref hm, .int p0, .int p1] (K 1 [p0, p1] mo)) (hR2 : ∀ (mo : MO) (sz : Nat) (p0 p1 p2 : Int32), K 2 [p0, p1, p2] mo ≠ none → cXi l y_Mo_binary c_Mo_binary 7 .int fr0 lo0 (dC, dI) cI cZ sa rk hm ma mo sz [.ref hm, .int p0, .int p1, .int p2] (K 2 [p0, p1, p2] mo)) (hR3 : ∀ (mo : MO) (sz : Nat) (p0 : Int32), K 3 [p0] mo ≠ none → cXi l y_Mo_unary c_Mo_unary 5 .int fr0 lo0 (dC, dI) cI cZ sa rk hm ma mo sz [.ref hm, .int p0] (K 3 [p0] mo)) (hR4 : ∀ (mo : MO) (sz : Nat) (p0 p1 : Int32), K 4 [p0, p1] mo ≠ none → cXi l y_Mo_member c_Mo_member 6 .int fr0 lo0 (dC, dI) cI cZ sa rk hm ma mo sz [.ref hm, .int p0, .int p1] (K 4 [p0, p1] mo)) (hR5 : ∀ (mo : MO) (sz : Nat) (p0 p1 : Int32), K 5 [p0, p1] mo ≠ none → cXi l y_Mo_statement c_Mo_statement 3 .int fr0 lo0 (dC, dI) cI cZ sa rk hm ma mo sz [.ref hm, .int p0, .int p1] (K 5 [p0, p1] mo)) (hR6 : ∀ (mo : MO) (sz : Nat) (p0 p1 p2 : Int32), K 6 [p0, p1, p2] mo ≠ none → cXv l y_Mo_statements c_Mo_statements 8 fr0 lo0 (dC, dI) cI cZ sa rk hm ma mo sz [.ref hm, .int p0, .int p1, .int p2] (K 6 [p0, p1, p2] mo)) (hR7 : ∀ (mo : MO) (sz : Nat) (p0 : Int32), K 7 [p0] mo ≠ none → cXi l y_Mo_block c_Mo_block 4 .int fr0 lo0 (dC, dI) cI cZ sa rk hm ma mo sz [.ref hm, .int p0] (K 7 [p0] mo)) (mo : MO) (sz : Nat) (node : Int32) (mark : Int32) (depth : Int32) (hg : (f_Mo_property K mo node mark depth) ≠ none) : cXv l y_Mo_property c_Mo_property 9 (fr0 + 11) (lo0 + 201) (dC, dI) cI cZ sa rk hm ma mo sz [.ref hm, .int node, .int mark, .int depth] (f_Mo_property K mo node mark depth) := by
  refine vx_ofW (cc := c_Mo_property) (maxL := 9) (ret := none) (by decide) rfl ?_
  intro p e s m args below meth c s₁ B hml hnt hv
  obtain ⟨rfl, hsz, hP, hK, hD0, hC, hZ⟩ := hv
  have hx := B.exec
  have hb := B.bytes
  have hr := B.returns
  have hts0 := atoms_spec (ws := wy y_Mo_property c_Mo_property 9 none) B.pre
  have hts := htsL hts0
  have hown : s.vm.findClass R_Mo = some m.cls := findClass_of_methodNamed B.named
  have hlocks := B.notSynchronized
  subst hsz
  have hD := hD0.self (sz := s.heap.size)
  generalize hAe : va_A (wM cI cZ hm ma mo) s.heap.size = A at hD hZ ⊢
  have hA : ∀ q : Nat, s.heap.size ≤ q → A q := fun q h => by rw [← hAe]; exact Or.inr h
  have hS : va_S A s.heap s.heap [] := va_S.rf
  have hl := lv_entry ([.ref hm, .int node, .int mark, .int depth]) (n := 9) (Nat.le_of_ble_eq_true rfl)
  rw [lg_entry_eq]
  generalize (lg_sl ([.ref hm, .int node, .int mark, .int depth]) ++ List.replicate (9 - (lg_sl ([.ref hm, .int node, .int mark, .int depth])).length) Slot.unset).toArray = ls at hl ⊢
  have hl : lv_has ls 9 [(0, .ref hm), (1, .int node), (2, .int mark), (3, .int depth)] := hl
  refine lv_aload_n hx hb d_Mo_property_0 rfl (lv_at hl 0 rfl) ?_
  refine va_get (D := (dC, dI)) (ci := 6) (v := .int (q_at mo)) (C := R_Mo) (T := T_Mo) (N := 31) hx hb hts u_Mo hown hK hP 0 rfl rfl 6 (by decide) (hts _ L_927) (fun _ h9 => h9) rfl d_Mo_property_1 ?_
  refine lv_istore (lv' := [(4, .int (q_at mo)), (0, .ref hm), (1, .int node), (2, .int mark), (3, .int depth)]) hx hb d_Mo_property_4 hl (by decide) rfl (fun ls hl => ?_)
  refine lv_aload_n hx hb d_Mo_property_6 rfl (lv_at hl 1 rfl) ?_
  refine lv_iconst (v := 1) hx hb d_Mo_property_7 (by decide) ?_
  refine mr_Vi (g := (f_Mo_isKind mo 1)) (As := [.int 1]) (rest := []) ⟨hx, hb, hml, hown, hts0⟩ (m_Mo_isKind l hlt dC dI cI cZ sa rk hm ma mo _ 1 (fun z => hg (by unfold f_Mo_property; rw [bndM_n z]))) hP hD hK hS hA hC hZ hnt hlocks L_1057 L_1059 L_61 L_90 L_1060 k_Mo_isKind ⟨(by show _ ≤ fr0 + 11; omega), (by show _ ≤ lo0 + 201; omega)⟩ rfl rfl hl.1 (Nat.le_of_ble_eq_true rfl) d_Mo_property_8 rfl (fun q z => by unfold f_Mo_property; rw [bndM_l z]) (fun r_1 mo_1 H locs w_1 hP hD hS => ?_)
  refine lv_istore (lv' := [(5, .int r_1), (4, .int (q_at mo)), (0, .ref hm), (1, .int node), (2, .int mark), (3, .int depth)]) hx hb d_Mo_property_11 hl (by decide) rfl (fun ls hl => ?_)
  refine lv_aload_n hx hb d_Mo_property_13 rfl (lv_at hl 2 rfl) ?_
  refine mr_Vi (g := (f_Mo_propertyName mo_1)) (As := []) (rest := []) ⟨hx, hb, hml, hown, hts0⟩ (m_Mo_propertyName l hlt dC dI cI cZ sa rk hm ma mo_1 _  (fun z => hg (by unfold f_Mo_property; rw [bndM_r w_1, bndM_n z]))) hP hD hK hS hA hC hZ hnt hlocks L_1183 L_1185 L_74 L_90 L_1186 k_Mo_propertyName ⟨(by show _ ≤ fr0 + 11; omega), (by show _ ≤ lo0 + 201; omega)⟩ rfl rfl hl.1 (Nat.le_of_ble_eq_true rfl) d_Mo_property_14 rfl (fun q z => by unfold f_Mo_property; rw [bndM_r w_1, bndM_l z]) (fun r_2 mo_2 H locs w_2 hP hD hS => ?_)
  refine lv_istore (lv' := [(6, .int r_2), (5, .int r_1), (4, .int (q_at mo)), (0, .ref hm), (1, .int node), (2, .int mark), (3, .int depth)]) hx hb d_Mo_property_17 hl (by decide) rfl (fun ls hl => ?_)
  refine lv_iload hx hb d_Mo_property_19 (lv_at hl 1 rfl) ?_
  refine lv_if_eq (tgt := 134) hx hb d_Mo_property_21 (by decide) (fun c_3 => ?_) (fun c_3 => ?_)
  · refine lv_aload_n hx hb d_Mo_property_134 rfl (lv_at hl 3 rfl) ?_
    refine lv_bipush (v := 70) hx hb d_Mo_property_135 (by decide) ?_
    refine mr_Vv (g := (f_Mo_expect mo_2 70)) (As := [.int 70]) (rest := []) ⟨hx, hb, hml, hown, hts0⟩ (m_Mo_expect l hlt dC dI cI cZ sa rk hm ma mo_2 _ 70 (fun z => hg (by unfold f_Mo_property; rw [bndM_r w_1, bndM_r w_2, if_pos c_3, bndM_n z]))) hP hD hK hS hA hC hZ hnt hlocks L_1111 L_1113 L_68 L_90 L_1114 k_Mo_expect ⟨(by show _ ≤ fr0 + 11; omega), (by show _ ≤ lo0 + 201; omega)⟩ rfl rfl hl.1 (Nat.le_of_ble_eq_true rfl) d_Mo_property_137 rfl (fun q z => by unfold f_Mo_property; rw [bndM_r w_1, bndM_r w_2, if_pos c_3, bndM_l z]) (fun mo_4 H locs w_4 hP hD hS => ?_)
    refine lv_aload_n hx hb d_Mo_property_140 rfl (lv_at hl 3 rfl) ?_
    refine lv_iload_n hx hb d_Mo_property_141 rfl (lv_at hl 5 rfl) ?_
    refine lv_iload hx hb d_Mo_property_142 (lv_at hl 0 rfl) ?_
    refine lv_iconst (v := 0) hx hb d_Mo_property_144 (by decide) ?_
    refine lv_iload hx hb d_Mo_property_145 (lv_at hl 2 rfl) ?_
    refine mr_Vv (g := (f_Mo_tell mo_4 mark r_2 0 (q_at mo))) (As := [.int mark, .int r_2, .int 0, .int (q_at mo)]) (rest := []) ⟨hx, hb, hml, hown, hts0⟩ (m_Mo_tell l hlt dC dI cI cZ sa rk hm ma mo_4 _ mark r_2 0 (q_at mo) (fun z => hg (by unfold f_Mo_property; rw [bndM_r w_1, bndM_r w_2, if_pos c_3, bndM_r w_4, bndM_n z]))) hP hD hK hS hA hC hZ hnt hlocks L_1187 L_1189 L_75 L_90 L_1190 k_Mo_tell ⟨(by show _ ≤ fr0 + 11; omega), (by show _ ≤ lo0 + 201; omega)⟩ rfl rfl hl.1 (Nat.le_of_ble_eq_true rfl) d_Mo_property_147 rfl (fun q z => by unfold f_Mo_property; rw [bndM_r w_1, bndM_r w_2, if_pos c_3, bndM_r w_4, bndM_l z]) (fun mo_5 H locs w_5 hP hD hS => ?_)
    refine lv_aload_n hx hb d_Mo_property_150 rfl (lv_at hl 3 rfl) ?_
    refine lv_bipush (v := 47) hx hb d_Mo_property_151 (by decide) ?_
    refine lv_iload hx hb d_Mo_property_153 (lv_at hl 0 rfl) ?_
    refine lv_iload hx hb d_Mo_property_155 (lv_at hl 2 rfl) ?_
    refine mr_Vi (g := (f_Mo_make mo_5 47 r_2 (q_at mo))) (As := [.int 47, .int r_2, .int (q_at mo)]) (rest := []) ⟨hx, hb, hml, hown, hts0⟩ (m_Mo_make l hlt dC dI cI cZ sa rk hm ma mo_5 _ 47 r_2 (q_at mo) (fun z => hg (by unfold f_Mo_property; rw [bndM_r w_1, bndM_r w_2, if_pos c_3, bndM_r w_4, bndM_r w_5, bndM_n z]))) hP hD hK hS hA hC hZ hnt hlocks L_1046 L_1048 L_59 L_90 L_1049 k_Mo_make ⟨(by show _ ≤ fr0 + 11; omega), (by show _ ≤ lo0 + 201; omega)⟩ rfl rfl hl.1 (Nat.le_of_ble_eq_true rfl) d_Mo_property_157 rfl (fun q z => by unfold f_Mo_property; rw [bndM_r w_1, bndM_r w_2, if_pos c_3, bndM_r w_4, bndM_r w_5, bndM_l z]) (fun r_6 mo_6 H locs w_6 hP hD hS => ?_)
    refine lv_istore (lv' := [(7, .int r_6), (6, .int r_2), (5, .int r_1), (4, .int (q_at mo)), (0, .ref hm), (1, .int node), (2, .int mark), (3, .int depth)]) hx hb d_Mo_property_160 hl (by decide) rfl (fun ls hl => ?_)
    refine lv_aload_n hx hb d_Mo_property_162 rfl (lv_at hl 4 rfl) ?_
    refine lv_iload_n hx hb d_Mo_property_163 rfl (lv_at hl 5 rfl) ?_
    refine lv_iload hx hb d_Mo_property_164 (lv_at hl 0 rfl) ?_
    refine mr_Vv (g := (f_Mo_hang mo_6 node r_6)) (As := [.int node, .int r_6]) (rest := []) ⟨hx, hb, hml, hown, hts0⟩ (m_Mo_hang l hlt dC dI cI cZ sa rk hm ma mo_6 _ node r_6 (fun z => hg (by unfold f_Mo_property; rw [bndM_r w_1, bndM_r w_2, if_pos c_3, bndM_r w_4, bndM_r w_5, bndM_r w_6, bndM_n z]))) hP hD hK hS hA hC hZ hnt hlocks L_1115 L_1117 L_69 L_90 L_1118 k_Mo_hang ⟨(by show _ ≤ fr0 + 11; omega), (by show _ ≤ lo0 + 201; omega)⟩ rfl rfl hl.1 (Nat.le_of_ble_eq_true rfl) d_Mo_property_166 rfl (fun q z => by unfold f_Mo_property; rw [bndM_r w_1, bndM_r w_2, if_pos c_3, bndM_r w_4, bndM_r w_5, bndM_r w_6, bndM_l z]) (fun mo_7 H locs w_7 hP hD hS => ?_)
    refine lv_aload_n hx hb d_Mo_property_169 rfl (lv_at hl 4 rfl) ?_
    refine lv_iload hx hb d_Mo_property_170 (lv_at hl 0 rfl) ?_
    refine lv_aload_n hx hb d_Mo_property_172 rfl (lv_at hl 4 rfl) ?_
    refine lv_iload_n hx hb d_Mo_property_173 rfl (lv_at hl 7 rfl) ?_
    refine lv_iconst (v := 1) hx hb d_Mo_property_174 (by decide) ?_
    refine lv_iadd hx hb d_Mo_property_175 ?_
    refine lv_iconst (v := 1) hx hb d_Mo_property_176 (by decide) ?_
    refine mr_Si (g := (K 1 [(depth + 1), 1] mo_7)) (As := [.ref hm, .int (depth + 1), .int 1]) (rest := [.int r_6, .ref hm]) ⟨hx, hb, hml, hown, hts0⟩ (hR1 mo_7 _ (depth + 1) 1 (fun z => hg (by unfold f_Mo_property; rw [bndM_r w_1, bndM_r w_2, if_pos c_3, bndM_r w_4, bndM_r w_5, bndM_r w_6, bndM_r w_7, bndM_n z]))) hP hD hK hS hA hC hZ hnt hlocks L_1138 L_1139 L_90 L_1140 k_Mo_assignment ⟨(by show _ ≤ fr0 + 11; omega), (by show _ ≤ lo0 + 201; omega)⟩ rfl rfl hl.1 (Nat.le_of_ble_eq_true rfl) d_Mo_property_177 rfl (fun q z => by unfold f_Mo_property; rw [bndM_r w_1, bndM_r w_2, if_pos c_3, bndM_r w_4, bndM_r w_5, bndM_r w_6, bndM_r w_7, bndM_l z]) (fun r_8 mo_8 H locs w_8 hP hD hS => ?_)
    refine mr_Vv (g := (f_Mo_hang mo_8 r_6 r_8)) (As := [.int r_6, .int r_8]) (rest := []) ⟨hx, hb, hml, hown, hts0⟩ (m_Mo_hang l hlt dC dI cI cZ sa rk hm ma mo_8 _ r_6 r_8 (fun z => hg (by unfold f_Mo_property; rw [bndM_r w_1, bndM_r w_2, if_pos c_3, bndM_r w_4, bndM_r w_5, bndM_r w_6, bndM_r w_7, bndM_r w_8, bndM_n z]))) hP hD hK hS hA hC hZ hnt hlocks L_1115 L_1117 L_69 L_90 L_1118 k_Mo_hang ⟨(by show _ ≤ fr0 + 11; omega), (by show _ ≤ lo0 + 201; omega)⟩ rfl rfl hl.1 (Nat.le_of_ble_eq_true rfl) d_Mo_property_180 rfl (fun q z => by unfold f_Mo_property; rw [bndM_r w_1, bndM_r w_2, if_pos c_3, bndM_r w_4, bndM_r w_5, bndM_r w_6, bndM_r w_7, bndM_r w_8, bndM_l z]) (fun mo_9 H locs w_9 hP hD hS => ?_)
    exact mr_vret (mo := mo_9) hx hb hr hlocks hK hP hD hS (by unfold f_Mo_property; rw [bndM_r w_1, bndM_r w_2, if_pos c_3, bndM_r w_4, bndM_r w_5, bndM_r w_6, bndM_r w_7, bndM_r w_8, bndM_r w_9]) d_Mo_property_183
  · refine lv_iload hx hb d_Mo_property_24 (lv_at hl 0 rfl) ?_
    refine lv_iconst (v := 2) hx hb d_Mo_property_26 (by decide) ?_
    refine lv_icmp_eq (tgt := 36) hx hb d_Mo_property_27 (by decide) (fun c_10 => ?_) (fun c_10 => ?_)
    · refine lv_aload_n hx hb d_Mo_property_36 rfl (lv_at hl 3 rfl) ?_
      refine lv_bipush (v := 70) hx hb d_Mo_property_37 (by decide) ?_
      refine mr_Vi (g := (f_Mo_isSign mo_2 70)) (As := [.int 70]) (rest := []) ⟨hx, hb, hml, hown, hts0⟩ (m_Mo_isSign l hlt dC dI cI cZ sa rk hm ma mo_2 _ 70 (fun z => hg (by unfold f_Mo_property; rw [bndM_r w_1, bndM_r w_2, if_neg c_3, if_pos c_10, bndM_n z]))) hP hD hK hS hA hC hZ hnt hlocks L_1053 L_1055 L_60 L_90 L_1056 k_Mo_isSign ⟨(by show _ ≤ fr0 + 11; omega), (by show _ ≤ lo0 + 201; omega)⟩ rfl rfl hl.1 (Nat.le_of_ble_eq_true rfl) d_Mo_property_39 rfl (fun q z => by unfold f_Mo_property; rw [bndM_r w_1, bndM_r w_2, if_neg c_3, if_pos c_10, bndM_l z]) (fun r_11 mo_11 H locs w_11 hP hD hS => ?_)
      refine lv_if_ne (tgt := 134) hx hb d_Mo_property_42 (by decide) (fun c_12 => ?_) (fun c_12 => ?_)
      · refine lv_aload_n hx hb d_Mo_property_134 rfl (lv_at hl 3 rfl) ?_
        refine lv_bipush (v := 70) hx hb d_Mo_property_135 (by decide) ?_
        refine mr_Vv (g := (f_Mo_expect mo_11 70)) (As := [.int 70]) (rest := []) ⟨hx, hb, hml, hown, hts0⟩ (m_Mo_expect l hlt dC dI cI cZ sa rk hm ma mo_11 _ 70 (fun z => hg (by unfold f_Mo_property; rw [bndM_r w_1, bndM_r w_2, if_neg c_3, if_pos c_10, bndM_r w_11, if_neg c_12, bndM_n z]))) hP hD hK hS hA hC hZ hnt hlocks L_1111 L_1113 L_68 L_90 L_1114 k_Mo_expect ⟨(by show _ ≤ fr0 + 11; omega), (by show _ ≤ lo0 + 201; omega)⟩ rfl rfl hl.1 (Nat.le_of_ble_eq_true rfl) d_Mo_property_137 rfl (fun q z => by unfold f_Mo_property; rw [bndM_r w_1, bndM_r w_2, if_neg c_3, if_pos c_10, bndM_r w_11, if_neg c_12, bndM_l z]) (fun mo_13 H locs w_13 hP hD hS => ?_)
        refine lv_aload_n hx hb d_Mo_property_140 rfl (lv_at hl 3 rfl) ?_
        refine lv_iload_n hx hb d_Mo_property_141 rfl (lv_at hl 5 rfl) ?_
        refine lv_iload hx hb d_Mo_property_142 (lv_at hl 0 rfl) ?_
        refine lv_iconst (v := 0) hx hb d_Mo_property_144 (by decide) ?_
        refine lv_iload hx hb d_Mo_property_145 (lv_at hl 2 rfl) ?_
        refine mr_Vv (g := (f_Mo_tell mo_13 mark r_2 0 (q_at mo))) (As := [.int mark, .int r_2, .int 0, .int (q_at mo)]) (rest := []) ⟨hx, hb, hml, hown, hts0⟩ (m_Mo_tell l hlt dC dI cI cZ sa rk hm ma mo_13 _ mark r_2 0 (q_at mo) (fun z => hg (by unfold f_Mo_property; rw [bndM_r w_1, bndM_r w_2, if_neg c_3, if_pos c_10, bndM_r w_11, if_neg c_12, bndM_r w_13, bndM_n z]))) hP hD hK hS hA hC hZ hnt hlocks L_1187 L_1189 L_75 L_90 L_1190 k_Mo_tell ⟨(by show _ ≤ fr0 + 11; omega), (by show _ ≤ lo0 + 201; omega)⟩ rfl rfl hl.1 (Nat.le_of_ble_eq_true rfl) d_Mo_property_147 rfl (fun q z => by unfold f_Mo_property; rw [bndM_r w_1, bndM_r w_2, if_neg c_3, if_pos c_10, bndM_r w_11, if_neg c_12, bndM_r w_13, bndM_l z]) (fun mo_14 H locs w_14 hP hD hS => ?_)
        refine lv_aload_n hx hb d_Mo_property_150 rfl (lv_at hl 3 rfl) ?_
        refine lv_bipush (v := 47) hx hb d_Mo_property_151 (by decide) ?_
        refine lv_iload hx hb d_Mo_property_153 (lv_at hl 0 rfl) ?_
        refine lv_iload hx hb d_Mo_property_155 (lv_at hl 2 rfl) ?_
        refine mr_Vi (g := (f_Mo_make mo_14 47 r_2 (q_at mo))) (As := [.int 47, .int r_2, .int (q_at mo)]) (rest := []) ⟨hx, hb, hml, hown, hts0⟩ (m_Mo_make l hlt dC dI cI cZ sa rk hm ma mo_14 _ 47 r_2 (q_at mo) (fun z => hg (by unfold f_Mo_property; rw [bndM_r w_1, bndM_r w_2, if_neg c_3, if_pos c_10, bndM_r w_11, if_neg c_12, bndM_r w_13, bndM_r w_14, bndM_n z]))) hP hD hK hS hA hC hZ hnt hlocks L_1046 L_1048 L_59 L_90 L_1049 k_Mo_make ⟨(by show _ ≤ fr0 + 11; omega), (by show _ ≤ lo0 + 201; omega)⟩ rfl rfl hl.1 (Nat.le_of_ble_eq_true rfl) d_Mo_property_157 rfl (fun q z => by unfold f_Mo_property; rw [bndM_r w_1, bndM_r w_2, if_neg c_3, if_pos c_10, bndM_r w_11, if_neg c_12, bndM_r w_13, bndM_r w_14, bndM_l z]) (fun r_15 mo_15 H locs w_15 hP hD hS => ?_)
        refine lv_istore (lv' := [(7, .int r_15), (6, .int r_2), (5, .int r_1), (4, .int (q_at mo)), (0, .ref hm), (1, .int node), (2, .int mark), (3, .int depth)]) hx hb d_Mo_property_160 hl (by decide) rfl (fun ls hl => ?_)
        refine lv_aload_n hx hb d_Mo_property_162 rfl (lv_at hl 4 rfl) ?_
        refine lv_iload_n hx hb d_Mo_property_163 rfl (lv_at hl 5 rfl) ?_
        refine lv_iload hx hb d_Mo_property_164 (lv_at hl 0 rfl) ?_
        refine mr_Vv (g := (f_Mo_hang mo_15 node r_15)) (As := [.int node, .int r_15]) (rest := []) ⟨hx, hb, hml, hown, hts0⟩ (m_Mo_hang l hlt dC dI cI cZ sa rk hm ma mo_15 _ node r_15 (fun z => hg (by unfold f_Mo_property; rw [bndM_r w_1, bndM_r w_2, if_neg c_3, if_pos c_10, bndM_r w_11, if_neg c_12, bndM_r w_13, bndM_r w_14, bndM_r w_15, bndM_n z]))) hP hD hK hS hA hC hZ hnt hlocks L_1115 L_1117 L_69 L_90 L_1118 k_Mo_hang ⟨(by show _ ≤ fr0 + 11; omega), (by show _ ≤ lo0 + 201; omega)⟩ rfl rfl hl.1 (Nat.le_of_ble_eq_true rfl) d_Mo_property_166 rfl (fun q z => by unfold f_Mo_property; rw [bndM_r w_1, bndM_r w_2, if_neg c_3, if_pos c_10, bndM_r w_11, if_neg c_12, bndM_r w_13, bndM_r w_14, bndM_r w_15, bndM_l z]) (fun mo_16 H locs w_16 hP hD hS => ?_)
        refine lv_aload_n hx hb d_Mo_property_169 rfl (lv_at hl 4 rfl) ?_
        refine lv_iload hx hb d_Mo_property_170 (lv_at hl 0 rfl) ?_
        refine lv_aload_n hx hb d_Mo_property_172 rfl (lv_at hl 4 rfl) ?_
        refine lv_iload_n hx hb d_Mo_property_173 rfl (lv_at hl 7 rfl) ?_
        refine lv_iconst (v := 1) hx hb d_Mo_property_174 (by decide) ?_
        refine lv_iadd hx hb d_Mo_property_175 ?_
        refine lv_iconst (v := 1) hx hb d_Mo_property_176 (by decide) ?_
        refine mr_Si (g := (K 1 [(depth + 1), 1] mo_16)) (As := [.ref hm, .int (depth + 1), .int 1]) (rest := [.int r_15, .ref hm]) ⟨hx, hb, hml, hown, hts0⟩ (hR1 mo_16 _ (depth + 1) 1 (fun z => hg (by unfold f_Mo_property; rw [bndM_r w_1, bndM_r w_2, if_neg c_3, if_pos c_10, bndM_r w_11, if_neg c_12, bndM_r w_13, bndM_r w_14, bndM_r w_15, bndM_r w_16, bndM_n z]))) hP hD hK hS hA hC hZ hnt hlocks L_1138 L_1139 L_90 L_1140 k_Mo_assignment ⟨(by show _ ≤ fr0 + 11; omega), (by show _ ≤ lo0 + 201; omega)⟩ rfl rfl hl.1 (Nat.le_of_ble_eq_true rfl) d_Mo_property_177 rfl (fun q z => by unfold f_Mo_property; rw [bndM_r w_1, bndM_r w_2, if_neg c_3, if_pos c_10, bndM_r w_11, if_neg c_12, bndM_r w_13, bndM_r w_14, bndM_r w_15, bndM_r w_16, bndM_l z]) (fun r_17 mo_17 H locs w_17 hP hD hS => ?_)
        refine mr_Vv (g := (f_Mo_hang mo_17 r_15 r_17)) (As := [.int r_15, .int r_17]) (rest := []) ⟨hx, hb, hml, hown, hts0⟩ (m_Mo_hang l hlt dC dI cI cZ sa rk hm ma mo_17 _ r_15 r_17 (fun z => hg (by unfold f_Mo_property; rw [bndM_r w_1, bndM_r w_2, if_neg c_3, if_pos c_10, bndM_r w_11, if_neg c_12, bndM_r w_13, bndM_r w_14, bndM_r w_15, bndM_r w_16, bndM_r w_17, bndM_n z]))) hP hD hK hS hA hC hZ hnt hlocks L_1115 L_1117 L_69 L_90 L_1118 k_Mo_hang ⟨(by show _ ≤ fr0 + 11; omega), (by show _ ≤ lo0 + 201; omega)⟩ rfl rfl hl.1 (Nat.le_of_ble_eq_true rfl) d_Mo_property_180 rfl (fun q z => by unfold f_Mo_property; rw [bndM_r w_1, bndM_r w_2, if_neg c_3, if_pos c_10, bndM_r w_11, if_neg c_12, bndM_r w_13, bndM_r w_14, bndM_r w_15, bndM_r w_16, bndM_r w_17, bndM_l z]) (fun mo_18 H locs w_18 hP hD hS => ?_)
        exact mr_vret (mo := mo_18) hx hb hr hlocks hK hP hD hS (by unfold f_Mo_property; rw [bndM_r w_1, bndM_r w_2, if_neg c_3, if_pos c_10, bndM_r w_11, if_neg c_12, bndM_r w_13, bndM_r w_14, bndM_r w_15, bndM_r w_16, bndM_r w_17, bndM_r w_18]) d_Mo_property_183
      · refine lv_aload_n hx hb d_Mo_property_45 rfl (lv_at hl 3 rfl) ?_
        refine va_get (D := (dC, dI)) (ci := 6) (v := .int (q_at mo_11)) (C := R_Mo) (T := T_Mo) (N := 31) hx hb hts u_Mo hown hK hP 0 rfl rfl 6 (by decide) (hts _ L_927) (fun _ h9 => h9) rfl d_Mo_property_46 ?_
        refine lv_istore (lv' := [(7, .int (q_at mo_11)), (6, .int r_2), (5, .int r_1), (4, .int (q_at mo)), (0, .ref hm), (1, .int node), (2, .int mark), (3, .int depth)]) hx hb d_Mo_property_49 hl (by decide) rfl (fun ls hl => ?_)
        refine lv_aload_n hx hb d_Mo_property_51 rfl (lv_at hl 4 rfl) ?_
        refine lv_iload hx hb d_Mo_property_52 (lv_at hl 1 rfl) ?_
        refine lv_iconst (v := 2) hx hb d_Mo_property_54 (by decide) ?_
        refine lv_icmp_ne (tgt := 63) hx hb d_Mo_property_55 (by decide) (fun q9 => absurd c_10 q9) (fun _ => ?_)
        refine lv_bipush (v := 48) hx hb d_Mo_property_58 (by decide) ?_
        refine lv_goto (tgt := 65) hx hb d_Mo_property_60 (by decide) ?_
        refine lv_iconst (v := 0) hx hb d_Mo_property_65 (by decide) ?_
        refine lv_iload hx hb d_Mo_property_66 (lv_at hl 3 rfl) ?_
        refine mr_Vi (g := (f_Mo_make mo_11 48 0 (q_at mo))) (As := [.int 48, .int 0, .int (q_at mo)]) (rest := []) ⟨hx, hb, hml, hown, hts0⟩ (m_Mo_make l hlt dC dI cI cZ sa rk hm ma mo_11 _ 48 0 (q_at mo) (fun z => hg (by unfold f_Mo_property; rw [bndM_r w_1, bndM_r w_2, if_neg c_3, if_pos c_10, bndM_r w_11, if_pos c_12, bndM_n z]))) hP hD hK hS hA hC hZ hnt hlocks L_1046 L_1048 L_59 L_90 L_1049 k_Mo_make ⟨(by show _ ≤ fr0 + 11; omega), (by show _ ≤ lo0 + 201; omega)⟩ rfl rfl hl.1 (Nat.le_of_ble_eq_true rfl) d_Mo_property_68 rfl (fun q z => by unfold f_Mo_property; rw [bndM_r w_1, bndM_r w_2, if_neg c_3, if_pos c_10, bndM_r w_11, if_pos c_12, bndM_l z]) (fun r_19 mo_19 H locs w_19 hP hD hS => ?_)
        refine lv_istore (lv' := [(8, .int r_19), (7, .int (q_at mo_11)), (6, .int r_2), (5, .int r_1), (4, .int (q_at mo)), (0, .ref hm), (1, .int node), (2, .int mark), (3, .int depth)]) hx hb d_Mo_property_71 hl (by decide) rfl (fun ls hl => ?_)
        refine lv_aload_n hx hb d_Mo_property_73 rfl (lv_at hl 5 rfl) ?_
        refine va_get (D := (dC, dI)) (ci := 6) (v := .ref (ma 5)) (C := R_Mo) (T := T_Mo) (N := 31) hx hb hts u_Mo hown hK hP 0 rfl rfl 10 (by decide) (hts _ L_931) (fun _ h9 => h9) rfl d_Mo_property_74 ?_
        refine lv_iload hx hb d_Mo_property_77 (lv_at hl 0 rfl) ?_
        refine lv_aload_n hx hb d_Mo_property_79 rfl (lv_at hl 5 rfl) ?_
        refine mr_Vi (g := (f_Mo_propertyName mo_19)) (As := []) (rest := [.int r_19, .ref (ma 5)]) ⟨hx, hb, hml, hown, hts0⟩ (m_Mo_propertyName l hlt dC dI cI cZ sa rk hm ma mo_19 _  (fun z => hg (by unfold f_Mo_property; rw [bndM_r w_1, bndM_r w_2, if_neg c_3, if_pos c_10, bndM_r w_11, if_pos c_12, bndM_r w_19, bndM_n z]))) hP hD hK hS hA hC hZ hnt hlocks L_1183 L_1185 L_74 L_90 L_1186 k_Mo_propertyName ⟨(by show _ ≤ fr0 + 11; omega), (by show _ ≤ lo0 + 201; omega)⟩ rfl rfl hl.1 (Nat.le_of_ble_eq_true rfl) d_Mo_property_80 rfl (fun q z => by unfold f_Mo_property; rw [bndM_r w_1, bndM_r w_2, if_neg c_3, if_pos c_10, bndM_r w_11, if_pos c_12, bndM_r w_19, bndM_l z]) (fun r_20 mo_20 H locs w_20 hP hD hS => ?_)
        by_cases cb_21 : inb r_19 2600
        case neg => exact absurd (by unfold f_Mo_property; rw [bndM_r w_1, bndM_r w_2, if_neg c_3, if_pos c_10, bndM_r w_11, if_pos c_12, bndM_r w_19, bndM_r w_20, if_neg cb_21]) hg
        refine va_iast (D := (dC, dI)) hx hb hK hP hD hS 6 0 rfl rfl cb_21 d_Mo_property_83 (fun H locs hP hD hS => ?_)
        have hP : va_P (dC, dI) cls (wM cI cZ hm ma (s_value mo_20 (upd (q_value mo_20) (r_19 : Int32).toNatClampNeg r_20))) H := hP
        have hD : va_D A (wM cI cZ hm ma (s_value mo_20 (upd (q_value mo_20) (r_19 : Int32).toNatClampNeg r_20))) := hD
        refine lv_aload_n hx hb d_Mo_property_84 rfl (lv_at hl 5 rfl) ?_
        refine lv_iload_n hx hb d_Mo_property_85 rfl (lv_at hl 7 rfl) ?_
        refine lv_aload_n hx hb d_Mo_property_86 rfl (lv_at hl 5 rfl) ?_
        refine va_get (D := (dC, dI)) (ci := 6) (v := .ref (ma 5)) (C := R_Mo) (T := T_Mo) (N := 31) hx hb hts u_Mo hown hK hP 0 rfl rfl 10 (by decide) (hts _ L_931) (fun _ h9 => h9) rfl d_Mo_property_87 ?_
        refine lv_iload hx hb d_Mo_property_90 (lv_at hl 0 rfl) ?_
        refine va_iald (D := (dC, dI)) hx hb hK hP 6 0 rfl rfl cb_21 d_Mo_property_92 ?_
        refine lv_iload hx hb d_Mo_property_93 (lv_at hl 2 rfl) ?_
        refine lv_iconst (v := 1) hx hb d_Mo_property_95 (by decide) ?_
        refine lv_isub hx hb d_Mo_property_96 ?_
        refine lv_iload hx hb d_Mo_property_97 (lv_at hl 1 rfl) ?_
        refine mr_Vv (g := (f_Mo_tell (s_value mo_20 (upd (q_value mo_20) (r_19 : Int32).toNatClampNeg r_20)) mark ((upd (q_value mo_20) (r_19 : Int32).toNatClampNeg r_20) (r_19 : Int32).toNatClampNeg) (r_2 - 1) (q_at mo_11))) (As := [.int mark, .int ((upd (q_value mo_20) (r_19 : Int32).toNatClampNeg r_20) (r_19 : Int32).toNatClampNeg), .int (r_2 - 1), .int (q_at mo_11)]) (rest := []) ⟨hx, hb, hml, hown, hts0⟩ (m_Mo_tell l hlt dC dI cI cZ sa rk hm ma (s_value mo_20 (upd (q_value mo_20) (r_19 : Int32).toNatClampNeg r_20)) _ mark ((upd (q_value mo_20) (r_19 : Int32).toNatClampNeg r_20) (r_19 : Int32).toNatClampNeg) (r_2 - 1) (q_at mo_11) (fun z => hg (by unfold f_Mo_property; rw [bndM_r w_1, bndM_r w_2, if_neg c_3, if_pos c_10, bndM_r w_11, if_pos c_12, bndM_r w_19, bndM_r w_20, if_pos cb_21, bndM_n z]))) hP hD hK hS hA hC hZ hnt hlocks L_1187 L_1189 L_75 L_90 L_1190 k_Mo_tell ⟨(by show _ ≤ fr0 + 11; omega), (by show _ ≤ lo0 + 201; omega)⟩ rfl rfl hl.1 (Nat.le_of_ble_eq_true rfl) d_Mo_property_99 rfl (fun q z => by unfold f_Mo_property; rw [bndM_r w_1, bndM_r w_2, if_neg c_3, if_pos c_10, bndM_r w_11, if_pos c_12, bndM_r w_19, bndM_r w_20, if_pos cb_21, bndM_l z]) (fun mo_22 H locs w_22 hP hD hS => ?_)
        refine lv_aload_n hx hb d_Mo_property_102 rfl (lv_at hl 5 rfl) ?_
        refine lv_iload_n hx hb d_Mo_property_103 rfl (lv_at hl 6 rfl) ?_
        refine lv_iload hx hb d_Mo_property_104 (lv_at hl 0 rfl) ?_
        refine mr_Vv (g := (f_Mo_hang mo_22 node r_19)) (As := [.int node, .int r_19]) (rest := []) ⟨hx, hb, hml, hown, hts0⟩ (m_Mo_hang l hlt dC dI cI cZ sa rk hm ma mo_22 _ node r_19 (fun z => hg (by unfold f_Mo_property; rw [bndM_r w_1, bndM_r w_2, if_neg c_3, if_pos c_10, bndM_r w_11, if_pos c_12, bndM_r w_19, bndM_r w_20, if_pos cb_21, bndM_r w_22, bndM_n z]))) hP hD hK hS hA hC hZ hnt hlocks L_1115 L_1117 L_69 L_90 L_1118 k_Mo_hang ⟨(by show _ ≤ fr0 + 11; omega), (by show _ ≤ lo0 + 201; omega)⟩ rfl rfl hl.1 (Nat.le_of_ble_eq_true rfl) d_Mo_property_106 rfl (fun q z => by unfold f_Mo_property; rw [bndM_r w_1, bndM_r w_2, if_neg c_3, if_pos c_10, bndM_r w_11, if_pos c_12, bndM_r w_19, bndM_r w_20, if_pos cb_21, bndM_r w_22, bndM_l z]) (fun mo_23 H locs w_23 hP hD hS => ?_)
        refine lv_aload_n hx hb d_Mo_property_109 rfl (lv_at hl 5 rfl) ?_
        refine lv_iload hx hb d_Mo_property_110 (lv_at hl 0 rfl) ?_
        refine lv_aload_n hx hb d_Mo_property_112 rfl (lv_at hl 5 rfl) ?_
        refine lv_iload hx hb d_Mo_property_113 (lv_at hl 2 rfl) ?_
        refine lv_iconst (v := 2) hx hb d_Mo_property_115 (by decide) ?_
        refine lv_icmp_ne (tgt := 124) hx hb d_Mo_property_116 (by decide) (fun q9 => absurd c_10 q9) (fun _ => ?_)
        refine lv_bipush (v := 48) hx hb d_Mo_property_119 (by decide) ?_
        refine lv_goto (tgt := 126) hx hb d_Mo_property_121 (by decide) ?_
        refine lv_iload_n hx hb d_Mo_property_126 rfl (lv_at hl 8 rfl) ?_
        refine mr_Si (g := (f_Mo_function K mo_23 48 depth)) (As := [.ref hm, .int 48, .int depth]) (rest := [.int r_19, .ref hm]) ⟨hx, hb, hml, hown, hts0⟩ (m_Mo_function l hlt dC dI cI cZ sa rk hm ma fr0 lo0 K hR0 hR1 hR2 hR3 hR4 hR5 hR6 hR7 mo_23 _ 48 depth (fun z => hg (by unfold f_Mo_property; rw [bndM_r w_1, bndM_r w_2, if_neg c_3, if_pos c_10, bndM_r w_11, if_pos c_12, bndM_r w_19, bndM_r w_20, if_pos cb_21, bndM_r w_22, bndM_r w_23, bndM_n z]))) hP hD hK hS hA hC hZ hnt hlocks L_1096 L_1097 L_90 L_1098 k_Mo_function ⟨(by show _ ≤ fr0 + 11; omega), (by show _ ≤ lo0 + 201; omega)⟩ rfl rfl hl.1 (Nat.le_of_ble_eq_true rfl) d_Mo_property_127 rfl (fun q z => by unfold f_Mo_property; rw [bndM_r w_1, bndM_r w_2, if_neg c_3, if_pos c_10, bndM_r w_11, if_pos c_12, bndM_r w_19, bndM_r w_20, if_pos cb_21, bndM_r w_22, bndM_r w_23, bndM_l z]) (fun r_24 mo_24 H locs w_24 hP hD hS => ?_)
        refine mr_Vv (g := (f_Mo_hang mo_24 r_19 r_24)) (As := [.int r_19, .int r_24]) (rest := []) ⟨hx, hb, hml, hown, hts0⟩ (m_Mo_hang l hlt dC dI cI cZ sa rk hm ma mo_24 _ r_19 r_24 (fun z => hg (by unfold f_Mo_property; rw [bndM_r w_1, bndM_r w_2, if_neg c_3, if_pos c_10, bndM_r w_11, if_pos c_12, bndM_r w_19, bndM_r w_20, if_pos cb_21, bndM_r w_22, bndM_r w_23, bndM_r w_24, bndM_n z]))) hP hD hK hS hA hC hZ hnt hlocks L_1115 L_1117 L_69 L_90 L_1118 k_Mo_hang ⟨(by show _ ≤ fr0 + 11; omega), (by show _ ≤ lo0 + 201; omega)⟩ rfl rfl hl.1 (Nat.le_of_ble_eq_true rfl) d_Mo_property_130 rfl (fun q z => by unfold f_Mo_property; rw [bndM_r w_1, bndM_r w_2, if_neg c_3, if_pos c_10, bndM_r w_11, if_pos c_12, bndM_r w_19, bndM_r w_20, if_pos cb_21, bndM_r w_22, bndM_r w_23, bndM_r w_24, bndM_l z]) (fun mo_25 H locs w_25 hP hD hS => ?_)
        exact mr_vret (mo := mo_25) hx hb hr hlocks hK hP hD hS (by unfold f_Mo_property; rw [bndM_r w_1, bndM_r w_2, if_neg c_3, if_pos c_10, bndM_r w_11, if_pos c_12, bndM_r w_19, bndM_r w_20, if_pos cb_21, bndM_r w_22, bndM_r w_23, bndM_r w_24, bndM_r w_25]) d_Mo_property_133
    · refine lv_iload hx hb d_Mo_property_30 (lv_at hl 0 rfl) ?_
      refine lv_iconst (v := 3) hx hb d_Mo_property_32 (by decide) ?_
      refine lv_icmp_ne (tgt := 134) hx hb d_Mo_property_33 (by decide) (fun c_26 => ?_) (fun c_26 => ?_)
      · refine lv_aload_n hx hb d_Mo_property_134 rfl (lv_at hl 3 rfl) ?_
        refine lv_bipush (v := 70) hx hb d_Mo_property_135 (by decide) ?_
        refine mr_Vv (g := (f_Mo_expect mo_2 70)) (As := [.int 70]) (rest := []) ⟨hx, hb, hml, hown, hts0⟩ (m_Mo_expect l hlt dC dI cI cZ sa rk hm ma mo_2 _ 70 (fun z => hg (by unfold f_Mo_property; rw [bndM_r w_1, bndM_r w_2, if_neg c_3, if_neg c_10, if_neg c_26, bndM_n z]))) hP hD hK hS hA hC hZ hnt hlocks L_1111 L_1113 L_68 L_90 L_1114 k_Mo_expect ⟨(by show _ ≤ fr0 + 11; omega), (by show _ ≤ lo0 + 201; omega)⟩ rfl rfl hl.1 (Nat.le_of_ble_eq_true rfl) d_Mo_property_137 rfl (fun q z => by unfold f_Mo_property; rw [bndM_r w_1, bndM_r w_2, if_neg c_3, if_neg c_10, if_neg c_26, bndM_l z]) (fun mo_27 H locs w_27 hP hD hS => ?_)
        refine lv_aload_n hx hb d_Mo_property_140 rfl (lv_at hl 3 rfl) ?_
        refine lv_iload_n hx hb d_Mo_property_141 rfl (lv_at hl 5 rfl) ?_
        refine lv_iload hx hb d_Mo_property_142 (lv_at hl 0 rfl) ?_
        refine lv_iconst (v := 0) hx hb d_Mo_property_144 (by decide) ?_
        refine lv_iload hx hb d_Mo_property_145 (lv_at hl 2 rfl) ?_
        refine mr_Vv (g := (f_Mo_tell mo_27 mark r_2 0 (q_at mo))) (As := [.int mark, .int r_2, .int 0, .int (q_at mo)]) (rest := []) ⟨hx, hb, hml, hown, hts0⟩ (m_Mo_tell l hlt dC dI cI cZ sa rk hm ma mo_27 _ mark r_2 0 (q_at mo) (fun z => hg (by unfold f_Mo_property; rw [bndM_r w_1, bndM_r w_2, if_neg c_3, if_neg c_10, if_neg c_26, bndM_r w_27, bndM_n z]))) hP hD hK hS hA hC hZ hnt hlocks L_1187 L_1189 L_75 L_90 L_1190 k_Mo_tell ⟨(by show _ ≤ fr0 + 11; omega), (by show _ ≤ lo0 + 201; omega)⟩ rfl rfl hl.1 (Nat.le_of_ble_eq_true rfl) d_Mo_property_147 rfl (fun q z => by unfold f_Mo_property; rw [bndM_r w_1, bndM_r w_2, if_neg c_3, if_neg c_10, if_neg c_26, bndM_r w_27, bndM_l z]) (fun mo_28 H locs w_28 hP hD hS => ?_)
        refine lv_aload_n hx hb d_Mo_property_150 rfl (lv_at hl 3 rfl) ?_
        refine lv_bipush (v := 47) hx hb d_Mo_property_151 (by decide) ?_
        refine lv_iload hx hb d_Mo_property_153 (lv_at hl 0 rfl) ?_
        refine lv_iload hx hb d_Mo_property_155 (lv_at hl 2 rfl) ?_
        refine mr_Vi (g := (f_Mo_make mo_28 47 r_2 (q_at mo))) (As := [.int 47, .int r_2, .int (q_at mo)]) (rest := []) ⟨hx, hb, hml, hown, hts0⟩ (m_Mo_make l hlt dC dI cI cZ sa rk hm ma mo_28 _ 47 r_2 (q_at mo) (fun z => hg (by unfold f_Mo_property; rw [bndM_r w_1, bndM_r w_2, if_neg c_3, if_neg c_10, if_neg c_26, bndM_r w_27, bndM_r w_28, bndM_n z]))) hP hD hK hS hA hC hZ hnt hlocks L_1046 L_1048 L_59 L_90 L_1049 k_Mo_make ⟨(by show _ ≤ fr0 + 11; omega), (by show _ ≤ lo0 + 201; omega)⟩ rfl rfl hl.1 (Nat.le_of_ble_eq_true rfl) d_Mo_property_157 rfl (fun q z => by unfold f_Mo_property; rw [bndM_r w_1, bndM_r w_2, if_neg c_3, if_neg c_10, if_neg c_26, bndM_r w_27, bndM_r w_28, bndM_l z]) (fun r_29 mo_29 H locs w_29 hP hD hS => ?_)
        refine lv_istore (lv' := [(7, .int r_29), (6, .int r_2), (5, .int r_1), (4, .int (q_at mo)), (0, .ref hm), (1, .int node), (2, .int mark), (3, .int depth)]) hx hb d_Mo_property_160 hl (by decide) rfl (fun ls hl => ?_)
        refine lv_aload_n hx hb d_Mo_property_162 rfl (lv_at hl 4 rfl) ?_
        refine lv_iload_n hx hb d_Mo_property_163 rfl (lv_at hl 5 rfl) ?_
        refine lv_iload hx hb d_Mo_property_164 (lv_at hl 0 rfl) ?_
        refine mr_Vv (g := (f_Mo_hang mo_29 node r_29)) (As := [.int node, .int r_29]) (rest := []) ⟨hx, hb, hml, hown, hts0⟩ (m_Mo_hang l hlt dC dI cI cZ sa rk hm ma mo_29 _ node r_29 (fun z => hg (by unfold f_Mo_property; rw [bndM_r w_1, bndM_r w_2, if_neg c_3, if_neg c_10, if_neg c_26, bndM_r w_27, bndM_r w_28, bndM_r w_29, bndM_n z]))) hP hD hK hS hA hC hZ hnt hlocks L_1115 L_1117 L_69 L_90 L_1118 k_Mo_hang ⟨(by show _ ≤ fr0 + 11; omega), (by show _ ≤ lo0 + 201; omega)⟩ rfl rfl hl.1 (Nat.le_of_ble_eq_true rfl) d_Mo_property_166 rfl (fun q z => by unfold f_Mo_property; rw [bndM_r w_1, bndM_r w_2, if_neg c_3, if_neg c_10, if_neg c_26, bndM_r w_27, bndM_r w_28, bndM_r w_29, bndM_l z]) (fun mo_30 H locs w_30 hP hD hS => ?_)
        refine lv_aload_n hx hb d_Mo_property_169 rfl (lv_at hl 4 rfl) ?_
        refine lv_iload hx hb d_Mo_property_170 (lv_at hl 0 rfl) ?_
        refine lv_aload_n hx hb d_Mo_property_172 rfl (lv_at hl 4 rfl) ?_
        refine lv_iload_n hx hb d_Mo_property_173 rfl (lv_at hl 7 rfl) ?_
        refine lv_iconst (v := 1) hx hb d_Mo_property_174 (by decide) ?_
        refine lv_iadd hx hb d_Mo_property_175 ?_
        refine lv_iconst (v := 1) hx hb d_Mo_property_176 (by decide) ?_
        refine mr_Si (g := (K 1 [(depth + 1), 1] mo_30)) (As := [.ref hm, .int (depth + 1), .int 1]) (rest := [.int r_29, .ref hm]) ⟨hx, hb, hml, hown, hts0⟩ (hR1 mo_30 _ (depth + 1) 1 (fun z => hg (by unfold f_Mo_property; rw [bndM_r w_1, bndM_r w_2, if_neg c_3, if_neg c_10, if_neg c_26, bndM_r w_27, bndM_r w_28, bndM_r w_29, bndM_r w_30, bndM_n z]))) hP hD hK hS hA hC hZ hnt hlocks L_1138 L_1139 L_90 L_1140 k_Mo_assignment ⟨(by show _ ≤ fr0 + 11; omega), (by show _ ≤ lo0 + 201; omega)⟩ rfl rfl hl.1 (Nat.le_of_ble_eq_true rfl) d_Mo_property_177 rfl (fun q z => by unfold f_Mo_property; rw [bndM_r w_1, bndM_r w_2, if_neg c_3, if_neg c_10, if_neg c_26, bndM_r w_27, bndM_r w_28, bndM_r w_29, bndM_r w_30, bndM_l z]) (fun r_31 mo_31 H locs w_31 hP hD hS => ?_)
        refine mr_Vv (g := (f_Mo_hang mo_31 r_29 r_31)) (As := [.int r_29, .int r_31]) (rest := []) ⟨hx, hb, hml, hown, hts0⟩ (m_Mo_hang l hlt dC dI cI cZ sa rk hm ma mo_31 _ r_29 r_31 (fun z => hg (by unfold f_Mo_property; rw [bndM_r w_1, bndM_r w_2, if_neg c_3, if_neg c_10, if_neg c_26, bndM_r w_27, bndM_r w_28, bndM_r w_29, bndM_r w_30, bndM_r w_31, bndM_n z]))) hP hD hK hS hA hC hZ hnt hlocks L_1115 L_1117 L_69 L_90 L_1118 k_Mo_hang ⟨(by show _ ≤ fr0 + 11; omega), (by show _ ≤ lo0 + 201; omega)⟩ rfl rfl hl.1 (Nat.le_of_ble_eq_true rfl) d_Mo_property_180 rfl (fun q z => by unfold f_Mo_property; rw [bndM_r w_1, bndM_r w_2, if_neg c_3, if_neg c_10, if_neg c_26, bndM_r w_27, bndM_r w_28, bndM_r w_29, bndM_r w_30, bndM_r w_31, bndM_l z]) (fun mo_32 H locs w_32 hP hD hS => ?_)
        exact mr_vret (mo := mo_32) hx hb hr hlocks hK hP hD hS (by unfold f_Mo_property; rw [bndM_r w_1, bndM_r w_2, if_neg c_3, if_neg c_10, if_neg c_26, bndM_r w_27, bndM_r w_28, bndM_r w_29, bndM_r w_30, bndM_r w_31, bndM_r w_32]) d_Mo_property_183
      · refine lv_aload_n hx hb d_Mo_property_36 rfl (lv_at hl 3 rfl) ?_
        refine lv_bipush (v := 70) hx hb d_Mo_property_37 (by decide) ?_
        refine mr_Vi (g := (f_Mo_isSign mo_2 70)) (As := [.int 70]) (rest := []) ⟨hx, hb, hml, hown, hts0⟩ (m_Mo_isSign l hlt dC dI cI cZ sa rk hm ma mo_2 _ 70 (fun z => hg (by unfold f_Mo_property; rw [bndM_r w_1, bndM_r w_2, if_neg c_3, if_neg c_10, if_pos c_26, bndM_n z]))) hP hD hK hS hA hC hZ hnt hlocks L_1053 L_1055 L_60 L_90 L_1056 k_Mo_isSign ⟨(by show _ ≤ fr0 + 11; omega), (by show _ ≤ lo0 + 201; omega)⟩ rfl rfl hl.1 (Nat.le_of_ble_eq_true rfl) d_Mo_property_39 rfl (fun q z => by unfold f_Mo_property; rw [bndM_r w_1, bndM_r w_2, if_neg c_3, if_neg c_10, if_pos c_26, bndM_l z]) (fun r_33 mo_33 H locs w_33 hP hD hS => ?_)
        refine lv_if_ne (tgt := 134) hx hb d_Mo_property_42 (by decide) (fun c_34 => ?_) (fun c_34 => ?_)
        · refine lv_aload_n hx hb d_Mo_property_134 rfl (lv_at hl 3 rfl) ?_
          refine lv_bipush (v := 70) hx hb d_Mo_property_135 (by decide) ?_
          refine mr_Vv (g := (f_Mo_expect mo_33 70)) (As := [.int 70]) (rest := []) ⟨hx, hb, hml, hown, hts0⟩ (m_Mo_expect l hlt dC dI cI cZ sa rk hm ma mo_33 _ 70 (fun z => hg (by unfold f_Mo_property; rw [bndM_r w_1, bndM_r w_2, if_neg c_3, if_neg c_10, if_pos c_26, bndM_r w_33, if_neg c_34, bndM_n z]))) hP hD hK hS hA hC hZ hnt hlocks L_1111 L_1113 L_68 L_90 L_1114 k_Mo_expect ⟨(by show _ ≤ fr0 + 11; omega), (by show _ ≤ lo0 + 201; omega)⟩ rfl rfl hl.1 (Nat.le_of_ble_eq_true rfl) d_Mo_property_137 rfl (fun q z => by unfold f_Mo_property; rw [bndM_r w_1, bndM_r w_2, if_neg c_3, if_neg c_10, if_pos c_26, bndM_r w_33, if_neg c_34, bndM_l z]) (fun mo_35 H locs w_35 hP hD hS => ?_)
          refine lv_aload_n hx hb d_Mo_property_140 rfl (lv_at hl 3 rfl) ?_
          refine lv_iload_n hx hb d_Mo_property_141 rfl (lv_at hl 5 rfl) ?_
          refine lv_iload hx hb d_Mo_property_142 (lv_at hl 0 rfl) ?_
          refine lv_iconst (v := 0) hx hb d_Mo_property_144 (by decide) ?_
          refine lv_iload hx hb d_Mo_property_145 (lv_at hl 2 rfl) ?_
          refine mr_Vv (g := (f_Mo_tell mo_35 mark r_2 0 (q_at mo))) (As := [.int mark, .int r_2, .int 0, .int (q_at mo)]) (rest := []) ⟨hx, hb, hml, hown, hts0⟩ (m_Mo_tell l hlt dC dI cI cZ sa rk hm ma mo_35 _ mark r_2 0 (q_at mo) (fun z => hg (by unfold f_Mo_property; rw [bndM_r w_1, bndM_r w_2, if_neg c_3, if_neg c_10, if_pos c_26, bndM_r w_33, if_neg c_34, bndM_r w_35, bndM_n z]))) hP hD hK hS hA hC hZ hnt hlocks L_1187 L_1189 L_75 L_90 L_1190 k_Mo_tell ⟨(by show _ ≤ fr0 + 11; omega), (by show _ ≤ lo0 + 201; omega)⟩ rfl rfl hl.1 (Nat.le_of_ble_eq_true rfl) d_Mo_property_147 rfl (fun q z => by unfold f_Mo_property; rw [bndM_r w_1, bndM_r w_2, if_neg c_3, if_neg c_10, if_pos c_26, bndM_r w_33, if_neg c_34, bndM_r w_35, bndM_l z]) (fun mo_36 H locs w_36 hP hD hS => ?_)
          refine lv_aload_n hx hb d_Mo_property_150 rfl (lv_at hl 3 rfl) ?_
          refine lv_bipush (v := 47) hx hb d_Mo_property_151 (by decide) ?_
          refine lv_iload hx hb d_Mo_property_153 (lv_at hl 0 rfl) ?_
          refine lv_iload hx hb d_Mo_property_155 (lv_at hl 2 rfl) ?_
          refine mr_Vi (g := (f_Mo_make mo_36 47 r_2 (q_at mo))) (As := [.int 47, .int r_2, .int (q_at mo)]) (rest := []) ⟨hx, hb, hml, hown, hts0⟩ (m_Mo_make l hlt dC dI cI cZ sa rk hm ma mo_36 _ 47 r_2 (q_at mo) (fun z => hg (by unfold f_Mo_property; rw [bndM_r w_1, bndM_r w_2, if_neg c_3, if_neg c_10, if_pos c_26, bndM_r w_33, if_neg c_34, bndM_r w_35, bndM_r w_36, bndM_n z]))) hP hD hK hS hA hC hZ hnt hlocks L_1046 L_1048 L_59 L_90 L_1049 k_Mo_make ⟨(by show _ ≤ fr0 + 11; omega), (by show _ ≤ lo0 + 201; omega)⟩ rfl rfl hl.1 (Nat.le_of_ble_eq_true rfl) d_Mo_property_157 rfl (fun q z => by unfold f_Mo_property; rw [bndM_r w_1, bndM_r w_2, if_neg c_3, if_neg c_10, if_pos c_26, bndM_r w_33, if_neg c_34, bndM_r w_35, bndM_r w_36, bndM_l z]) (fun r_37 mo_37 H locs w_37 hP hD hS => ?_)
          refine lv_istore (lv' := [(7, .int r_37), (6, .int r_2), (5, .int r_1), (4, .int (q_at mo)), (0, .ref hm), (1, .int node), (2, .int mark), (3, .int depth)]) hx hb d_Mo_property_160 hl (by decide) rfl (fun ls hl => ?_)
          refine lv_aload_n hx hb d_Mo_property_162 rfl (lv_at hl 4 rfl) ?_
          refine lv_iload_n hx hb d_Mo_property_163 rfl (lv_at hl 5 rfl) ?_
          refine lv_iload hx hb d_Mo_property_164 (lv_at hl 0 rfl) ?_
          refine mr_Vv (g := (f_Mo_hang mo_37 node r_37)) (As := [.int node, .int r_37]) (rest := []) ⟨hx, hb, hml, hown, hts0⟩ (m_Mo_hang l hlt dC dI cI cZ sa rk hm ma mo_37 _ node r_37 (fun z => hg (by unfold f_Mo_property; rw [bndM_r w_1, bndM_r w_2, if_neg c_3, if_neg c_10, if_pos c_26, bndM_r w_33, if_neg c_34, bndM_r w_35, bndM_r w_36, bndM_r w_37, bndM_n z]))) hP hD hK hS hA hC hZ hnt hlocks L_1115 L_1117 L_69 L_90 L_1118 k_Mo_hang ⟨(by show _ ≤ fr0 + 11; omega), (by show _ ≤ lo0 + 201; omega)⟩ rfl rfl hl.1 (Nat.le_of_ble_eq_true rfl) d_Mo_property_166 rfl (fun q z => by unfold f_Mo_property; rw [bndM_r w_1, bndM_r w_2, if_neg c_3, if_neg c_10, if_pos c_26, bndM_r w_33, if_neg c_34, bndM_r w_35, bndM_r w_36, bndM_r w_37, bndM_l z]) (fun mo_38 H locs w_38 hP hD hS => ?_)
          refine lv_aload_n hx hb d_Mo_property_169 rfl (lv_at hl 4 rfl) ?_
          refine lv_iload hx hb d_Mo_property_170 (lv_at hl 0 rfl) ?_
          refine lv_aload_n hx hb d_Mo_property_172 rfl (lv_at hl 4 rfl) ?_
          refine lv_iload_n hx hb d_Mo_property_173 rfl (lv_at hl 7 rfl) ?_
          refine lv_iconst (v := 1) hx hb d_Mo_property_174 (by decide) ?_
          refine lv_iadd hx hb d_Mo_property_175 ?_
          refine lv_iconst (v := 1) hx hb d_Mo_property_176 (by decide) ?_
          refine mr_Si (g := (K 1 [(depth + 1), 1] mo_38)) (As := [.ref hm, .int (depth + 1), .int 1]) (rest := [.int r_37, .ref hm]) ⟨hx, hb, hml, hown, hts0⟩ (hR1 mo_38 _ (depth + 1) 1 (fun z => hg (by unfold f_Mo_property; rw [bndM_r w_1, bndM_r w_2, if_neg c_3, if_neg c_10, if_pos c_26, bndM_r w_33, if_neg c_34, bndM_r w_35, bndM_r w_36, bndM_r w_37, bndM_r w_38, bndM_n z]))) hP hD hK hS hA hC hZ hnt hlocks L_1138 L_1139 L_90 L_1140 k_Mo_assignment ⟨(by show _ ≤ fr0 + 11; omega), (by show _ ≤ lo0 + 201; omega)⟩ rfl rfl hl.1 (Nat.le_of_ble_eq_true rfl) d_Mo_property_177 rfl (fun q z => by unfold f_Mo_property; rw [bndM_r w_1, bndM_r w_2, if_neg c_3, if_neg c_10, if_pos c_26, bndM_r w_33, if_neg c_34, bndM_r w_35, bndM_r w_36, bndM_r w_37, bndM_r w_38, bndM_l z]) (fun r_39 mo_39 H locs w_39 hP hD hS => ?_)
          refine mr_Vv (g := (f_Mo_hang mo_39 r_37 r_39)) (As := [.int r_37, .int r_39]) (rest := []) ⟨hx, hb, hml, hown, hts0⟩ (m_Mo_hang l hlt dC dI cI cZ sa rk hm ma mo_39 _ r_37 r_39 (fun z => hg (by unfold f_Mo_property; rw [bndM_r w_1, bndM_r w_2, if_neg c_3, if_neg c_10, if_pos c_26, bndM_r w_33, if_neg c_34, bndM_r w_35, bndM_r w_36, bndM_r w_37, bndM_r w_38, bndM_r w_39, bndM_n z]))) hP hD hK hS hA hC hZ hnt hlocks L_1115 L_1117 L_69 L_90 L_1118 k_Mo_hang ⟨(by show _ ≤ fr0 + 11; omega), (by show _ ≤ lo0 + 201; omega)⟩ rfl rfl hl.1 (Nat.le_of_ble_eq_true rfl) d_Mo_property_180 rfl (fun q z => by unfold f_Mo_property; rw [bndM_r w_1, bndM_r w_2, if_neg c_3, if_neg c_10, if_pos c_26, bndM_r w_33, if_neg c_34, bndM_r w_35, bndM_r w_36, bndM_r w_37, bndM_r w_38, bndM_r w_39, bndM_l z]) (fun mo_40 H locs w_40 hP hD hS => ?_)
          exact mr_vret (mo := mo_40) hx hb hr hlocks hK hP hD hS (by unfold f_Mo_property; rw [bndM_r w_1, bndM_r w_2, if_neg c_3, if_neg c_10, if_pos c_26, bndM_r w_33, if_neg c_34, bndM_r w_35, bndM_r w_36, bndM_r w_37, bndM_r w_38, bndM_r w_39, bndM_r w_40]) d_Mo_property_183
        · refine lv_aload_n hx hb d_Mo_property_45 rfl (lv_at hl 3 rfl) ?_
          refine va_get (D := (dC, dI)) (ci := 6) (v := .int (q_at mo_33)) (C := R_Mo) (T := T_Mo) (N := 31) hx hb hts u_Mo hown hK hP 0 rfl rfl 6 (by decide) (hts _ L_927) (fun _ h9 => h9) rfl d_Mo_property_46 ?_
          refine lv_istore (lv' := [(7, .int (q_at mo_33)), (6, .int r_2), (5, .int r_1), (4, .int (q_at mo)), (0, .ref hm), (1, .int node), (2, .int mark), (3, .int depth)]) hx hb d_Mo_property_49 hl (by decide) rfl (fun ls hl => ?_)
          refine lv_aload_n hx hb d_Mo_property_51 rfl (lv_at hl 4 rfl) ?_
          refine lv_iload hx hb d_Mo_property_52 (lv_at hl 1 rfl) ?_
          refine lv_iconst (v := 2) hx hb d_Mo_property_54 (by decide) ?_
          refine lv_icmp_ne (tgt := 63) hx hb d_Mo_property_55 (by decide) (fun _ => ?_) (fun q9 => absurd q9 c_10)
          refine lv_bipush (v := 49) hx hb d_Mo_property_63 (by decide) ?_
          refine lv_iconst (v := 0) hx hb d_Mo_property_65 (by decide) ?_
          refine lv_iload hx hb d_Mo_property_66 (lv_at hl 3 rfl) ?_
          refine mr_Vi (g := (f_Mo_make mo_33 49 0 (q_at mo))) (As := [.int 49, .int 0, .int (q_at mo)]) (rest := []) ⟨hx, hb, hml, hown, hts0⟩ (m_Mo_make l hlt dC dI cI cZ sa rk hm ma mo_33 _ 49 0 (q_at mo) (fun z => hg (by unfold f_Mo_property; rw [bndM_r w_1, bndM_r w_2, if_neg c_3, if_neg c_10, if_pos c_26, bndM_r w_33, if_pos c_34, bndM_n z]))) hP hD hK hS hA hC hZ hnt hlocks L_1046 L_1048 L_59 L_90 L_1049 k_Mo_make ⟨(by show _ ≤ fr0 + 11; omega), (by show _ ≤ lo0 + 201; omega)⟩ rfl rfl hl.1 (Nat.le_of_ble_eq_true rfl) d_Mo_property_68 rfl (fun q z => by unfold f_Mo_property; rw [bndM_r w_1, bndM_r w_2, if_neg c_3, if_neg c_10, if_pos c_26, bndM_r w_33, if_pos c_34, bndM_l z]) (fun r_41 mo_41 H locs w_41 hP hD hS => ?_)
          refine lv_istore (lv' := [(8, .int r_41), (7, .int (q_at mo_33)), (6, .int r_2), (5, .int r_1), (4, .int (q_at mo)), (0, .ref hm), (1, .int node), (2, .int mark), (3, .int depth)]) hx hb d_Mo_property_71 hl (by decide) rfl (fun ls hl => ?_)
          refine lv_aload_n hx hb d_Mo_property_73 rfl (lv_at hl 5 rfl) ?_
          refine va_get (D := (dC, dI)) (ci := 6) (v := .ref (ma 5)) (C := R_Mo) (T := T_Mo) (N := 31) hx hb hts u_Mo hown hK hP 0 rfl rfl 10 (by decide) (hts _ L_931) (fun _ h9 => h9) rfl d_Mo_property_74 ?_
          refine lv_iload hx hb d_Mo_property_77 (lv_at hl 0 rfl) ?_
          refine lv_aload_n hx hb d_Mo_property_79 rfl (lv_at hl 5 rfl) ?_
          refine mr_Vi (g := (f_Mo_propertyName mo_41)) (As := []) (rest := [.int r_41, .ref (ma 5)]) ⟨hx, hb, hml, hown, hts0⟩ (m_Mo_propertyName l hlt dC dI cI cZ sa rk hm ma mo_41 _  (fun z => hg (by unfold f_Mo_property; rw [bndM_r w_1, bndM_r w_2, if_neg c_3, if_neg c_10, if_pos c_26, bndM_r w_33, if_pos c_34, bndM_r w_41, bndM_n z]))) hP hD hK hS hA hC hZ hnt hlocks L_1183 L_1185 L_74 L_90 L_1186 k_Mo_propertyName ⟨(by show _ ≤ fr0 + 11; omega), (by show _ ≤ lo0 + 201; omega)⟩ rfl rfl hl.1 (Nat.le_of_ble_eq_true rfl) d_Mo_property_80 rfl (fun q z => by unfold f_Mo_property; rw [bndM_r w_1, bndM_r w_2, if_neg c_3, if_neg c_10, if_pos c_26, bndM_r w_33, if_pos c_34, bndM_r w_41, bndM_l z]) (fun r_42 mo_42 H locs w_42 hP hD hS => ?_)
          by_cases cb_43 : inb r_41 2600
          case neg => exact absurd (by unfold f_Mo_property; rw [bndM_r w_1, bndM_r w_2, if_neg c_3, if_neg c_10, if_pos c_26, bndM_r w_33, if_pos c_34, bndM_r w_41, bndM_r w_42, if_neg cb_43]) hg
          refine va_iast (D := (dC, dI)) hx hb hK hP hD hS 6 0 rfl rfl cb_43 d_Mo_property_83 (fun H locs hP hD hS => ?_)
          have hP : va_P (dC, dI) cls (wM cI cZ hm ma (s_value mo_42 (upd (q_value mo_42) (r_41 : Int32).toNatClampNeg r_42))) H := hP
          have hD : va_D A (wM cI cZ hm ma (s_value mo_42 (upd (q_value mo_42) (r_41 : Int32).toNatClampNeg r_42))) := hD
          refine lv_aload_n hx hb d_Mo_property_84 rfl (lv_at hl 5 rfl) ?_
          refine lv_iload_n hx hb d_Mo_property_85 rfl (lv_at hl 7 rfl) ?_
          refine lv_aload_n hx hb d_Mo_property_86 rfl (lv_at hl 5 rfl) ?_
          refine va_get (D := (dC, dI)) (ci := 6) (v := .ref (ma 5)) (C := R_Mo) (T := T_Mo) (N := 31) hx hb hts u_Mo hown hK hP 0 rfl rfl 10 (by decide) (hts _ L_931) (fun _ h9 => h9) rfl d_Mo_property_87 ?_
          refine lv_iload hx hb d_Mo_property_90 (lv_at hl 0 rfl) ?_
          refine va_iald (D := (dC, dI)) hx hb hK hP 6 0 rfl rfl cb_43 d_Mo_property_92 ?_
          refine lv_iload hx hb d_Mo_property_93 (lv_at hl 2 rfl) ?_
          refine lv_iconst (v := 1) hx hb d_Mo_property_95 (by decide) ?_
          refine lv_isub hx hb d_Mo_property_96 ?_
          refine lv_iload hx hb d_Mo_property_97 (lv_at hl 1 rfl) ?_
          refine mr_Vv (g := (f_Mo_tell (s_value mo_42 (upd (q_value mo_42) (r_41 : Int32).toNatClampNeg r_42)) mark ((upd (q_value mo_42) (r_41 : Int32).toNatClampNeg r_42) (r_41 : Int32).toNatClampNeg) (r_2 - 1) (q_at mo_33))) (As := [.int mark, .int ((upd (q_value mo_42) (r_41 : Int32).toNatClampNeg r_42) (r_41 : Int32).toNatClampNeg), .int (r_2 - 1), .int (q_at mo_33)]) (rest := []) ⟨hx, hb, hml, hown, hts0⟩ (m_Mo_tell l hlt dC dI cI cZ sa rk hm ma (s_value mo_42 (upd (q_value mo_42) (r_41 : Int32).toNatClampNeg r_42)) _ mark ((upd (q_value mo_42) (r_41 : Int32).toNatClampNeg r_42) (r_41 : Int32).toNatClampNeg) (r_2 - 1) (q_at mo_33) (fun z => hg (by unfold f_Mo_property; rw [bndM_r w_1, bndM_r w_2, if_neg c_3, if_neg c_10, if_pos c_26, bndM_r w_33, if_pos c_34, bndM_r w_41, bndM_r w_42, if_pos cb_43, bndM_n z]))) hP hD hK hS hA hC hZ hnt hlocks L_1187 L_1189 L_75 L_90 L_1190 k_Mo_tell ⟨(by show _ ≤ fr0 + 11; omega), (by show _ ≤ lo0 + 201; omega)⟩ rfl rfl hl.1 (Nat.le_of_ble_eq_true rfl) d_Mo_property_99 rfl (fun q z => by unfold f_Mo_property; rw [bndM_r w_1, bndM_r w_2, if_neg c_3, if_neg c_10, if_pos c_26, bndM_r w_33, if_pos c_34, bndM_r w_41, bndM_r w_42, if_pos cb_43, bndM_l z]) (fun mo_44 H locs w_44 hP hD hS => ?_)
          refine lv_aload_n hx hb d_Mo_property_102 rfl (lv_at hl 5 rfl) ?_
          refine lv_iload_n hx hb d_Mo_property_103 rfl (lv_at hl 6 rfl) ?_
          refine lv_iload hx hb d_Mo_property_104 (lv_at hl 0 rfl) ?_
          refine mr_Vv (g := (f_Mo_hang mo_44 node r_41)) (As := [.int node, .int r_41]) (rest := []) ⟨hx, hb, hml, hown, hts0⟩ (m_Mo_hang l hlt dC dI cI cZ sa rk hm ma mo_44 _ node r_41 (fun z => hg (by unfold f_Mo_property; rw [bndM_r w_1, bndM_r w_2, if_neg c_3, if_neg c_10, if_pos c_26, bndM_r w_33, if_pos c_34, bndM_r w_41, bndM_r w_42, if_pos cb_43, bndM_r w_44, bndM_n z]))) hP hD hK hS hA hC hZ hnt hlocks L_1115 L_1117 L_69 L_90 L_1118 k_Mo_hang ⟨(by show _ ≤ fr0 + 11; omega), (by show _ ≤ lo0 + 201; omega)⟩ rfl rfl hl.1 (Nat.le_of_ble_eq_true rfl) d_Mo_property_106 rfl (fun q z => by unfold f_Mo_property; rw [bndM_r w_1, bndM_r w_2, if_neg c_3, if_neg c_10, if_pos c_26, bndM_r w_33, if_pos c_34, bndM_r w_41, bndM_r w_42, if_pos cb_43, bndM_r w_44, bndM_l z]) (fun mo_45 H locs w_45 hP hD hS => ?_)
          refine lv_aload_n hx hb d_Mo_property_109 rfl (lv_at hl 5 rfl) ?_
          refine lv_iload hx hb d_Mo_property_110 (lv_at hl 0 rfl) ?_
          refine lv_aload_n hx hb d_Mo_property_112 rfl (lv_at hl 5 rfl) ?_
          refine lv_iload hx hb d_Mo_property_113 (lv_at hl 2 rfl) ?_
          refine lv_iconst (v := 2) hx hb d_Mo_property_115 (by decide) ?_
          refine lv_icmp_ne (tgt := 124) hx hb d_Mo_property_116 (by decide) (fun _ => ?_) (fun q9 => absurd q9 c_10)
          refine lv_bipush (v := 49) hx hb d_Mo_property_124 (by decide) ?_
          refine lv_iload_n hx hb d_Mo_property_126 rfl (lv_at hl 8 rfl) ?_
          refine mr_Si (g := (f_Mo_function K mo_45 49 depth)) (As := [.ref hm, .int 49, .int depth]) (rest := [.int r_41, .ref hm]) ⟨hx, hb, hml, hown, hts0⟩ (m_Mo_function l hlt dC dI cI cZ sa rk hm ma fr0 lo0 K hR0 hR1 hR2 hR3 hR4 hR5 hR6 hR7 mo_45 _ 49 depth (fun z => hg (by unfold f_Mo_property; rw [bndM_r w_1, bndM_r w_2, if_neg c_3, if_neg c_10, if_pos c_26, bndM_r w_33, if_pos c_34, bndM_r w_41, bndM_r w_42, if_pos cb_43, bndM_r w_44, bndM_r w_45, bndM_n z]))) hP hD hK hS hA hC hZ hnt hlocks L_1096 L_1097 L_90 L_1098 k_Mo_function ⟨(by show _ ≤ fr0 + 11; omega), (by show _ ≤ lo0 + 201; omega)⟩ rfl rfl hl.1 (Nat.le_of_ble_eq_true rfl) d_Mo_property_127 rfl (fun q z => by unfold f_Mo_property; rw [bndM_r w_1, bndM_r w_2, if_neg c_3, if_neg c_10, if_pos c_26, bndM_r w_33, if_pos c_34, bndM_r w_41, bndM_r w_42, if_pos cb_43, bndM_r w_44, bndM_r w_45, bndM_l z]) (fun r_46 mo_46 H locs w_46 hP hD hS => ?_)
          refine mr_Vv (g := (f_Mo_hang mo_46 r_41 r_46)) (As := [.int r_41, .int r_46]) (rest := []) ⟨hx, hb, hml, hown, hts0⟩ (m_Mo_hang l hlt dC dI cI cZ sa rk hm ma mo_46 _ r_41 r_46 (fun z => hg (by unfold f_Mo_property; rw [bndM_r w_1, bndM_r w_2, if_neg c_3, if_neg c_10, if_pos c_26, bndM_r w_33, if_pos c_34, bndM_r w_41, bndM_r w_42, if_pos cb_43, bndM_r w_44, bndM_r w_45, bndM_r w_46, bndM_n z]))) hP hD hK hS hA hC hZ hnt hlocks L_1115 L_1117 L_69 L_90 L_1118 k_Mo_hang ⟨(by show _ ≤ fr0 + 11; omega), (by show _ ≤ lo0 + 201; omega)⟩ rfl rfl hl.1 (Nat.le_of_ble_eq_true rfl) d_Mo_property_130 rfl (fun q z => by unfold f_Mo_property; rw [bndM_r w_1, bndM_r w_2, if_neg c_3, if_neg c_10, if_pos c_26, bndM_r w_33, if_pos c_34, bndM_r w_41, bndM_r w_42, if_pos cb_43, bndM_r w_44, bndM_r w_45, bndM_r w_46, bndM_l z]) (fun mo_47 H locs w_47 hP hD hS => ?_)
          exact mr_vret (mo := mo_47) hx hb hr hlocks hK hP hD hS (by unfold f_Mo_property; rw [bndM_r w_1, bndM_r w_2, if_neg c_3, if_neg c_10, if_pos c_26, bndM_r w_33, if_pos c_34, bndM_r w_41, bndM_r w_42, if_pos cb_43, bndM_r w_44, bndM_r w_45, bndM_r w_46, bndM_r w_47]) d_Mo_property_133
def f_Mo_object_L12 (K : Nat → List Int32 → MO → Rm) (depth : Int32) (e2 : Int32) (e3 : Int32) : Nat → MO → Rm
  | 0, _ => none
  | fu_2 + 1, sx_2 => (bndM (f_Mo_isSign sx_2 65) (fun r_3 mo_3 => (if r_3 = 0 then (bndM (f_Mo_property K mo_3 e2 e3 depth) (fun _ mo_5 => (bndM (f_Mo_isSign mo_5 65) (fun r_6 mo_6 => (if r_6 = 0 then (bndM (f_Mo_expect mo_6 68) (fun _ mo_8 => (f_Mo_object_L12 K depth e2 e3 fu_2  mo_8))) else (f_Mo_object_L12 K depth e2 e3 fu_2  mo_6)))))) else (some (.inr (0, mo_3))))))
def f_Mo_object (K : Nat → List Int32 → MO → Rm) (mo : MO) (depth : Int32) : Rm := (bndM (f_Mo_plain mo 46) (fun r_1 mo_1 => (bndM (f_Mo_object_L12 K depth r_1 (q_properties mo_1) 5000  mo_1) (fun _ se_2 => (some (.inr (r_1, (s_at (s_properties se_2 (q_properties mo_1)) ((q_at se_2) + 1)))))))))
set_option maxRecDepth 100000 in
set_option maxHeartbeats 4000000 in
theorem m_Mo_object (l : Launch) (hlt : l.stackTraces = false) (dC : Nat → ClassId) (dI : Nat → Nat → Nat) (cI cZ : ClassId) (sa rk hm : Nat) (ma : Nat → Nat) (fr0 lo0 : Nat) (K : Nat → List Int32 → MO → Rm) (hR0 : ∀ (mo : MO) (sz : Nat) (p0 p1 : Int32), K 0 [p0, p1] mo ≠ none → cXi l y_Mo_expression c_Mo_expression 5 .int fr0 lo0 (dC, dI) cI cZ sa rk hm ma mo sz [.ref hm, .int p0, .int p1] (K 0 [p0, p1] mo)) (hR1 : ∀ (mo : MO) (sz : Nat) (p0 p1 : Int32), K 1 [p0, p1] mo ≠ none → cXi l y_Mo_assignment c_Mo_assignment 5 .int fr0 lo0 (dC, dI) cI cZ sa rk hm ma mo sz [.ref hm, .int p0, .int p1] (K 1 [p0, p1] mo)) (hR2 : ∀ (mo : MO) (sz : Nat) (p0 p1 p2 : Int32), K 2 [p0, p1, p2] mo ≠ none → cXi l y_Mo_binary c_Mo_binary 7 .int fr0 lo0 (dC, dI) cI cZ sa rk hm ma mo sz [.ref hm, .int p0, .int p1, .int p2] (K 2 [p0, p1, p2] mo)) (hR3 : ∀ (mo : MO) (sz : Nat) (p0 : Int32), K 3 [p0] mo ≠ none → cXi l y_Mo_unary c_Mo_unary 5 .int fr0 lo0 (dC, dI) cI cZ sa rk hm ma mo sz [.ref hm, .int p0] (K 3 [p0] mo)) (hR4 : ∀ (mo : MO) (sz : Nat) (p0 p1 : Int32), K 4 [p0, p1] mo ≠ none → cXi l y_Mo_member c_Mo_member 6 .int fr0 lo0 (dC, dI) cI cZ sa rk hm ma mo sz [.ref hm, .int p0, .int p1] (K 4 [p0, p1] mo)) (hR5 : ∀ (mo : MO) (sz : Nat) (p0 p1 : Int32), K 5 [p0, p1] mo ≠ none → cXi l y_Mo_statement c_Mo_statement 3 .int fr0 lo0 (dC, dI) cI cZ sa rk hm ma mo sz [.ref hm, .int p0, .int p1] (K 5 [p0, p1] mo)) (hR6 : ∀ (mo : MO) (sz : Nat) (p0 p1 p2 : Int32), K 6 [p0, p1, p2] mo ≠ none → cXv l y_Mo_statements c_Mo_statements 8 fr0 lo0 (dC, dI) cI cZ sa rk hm ma mo sz [.ref hm, .int p0, .int p1, .int p2] (K 6 [p0, p1, p2] mo)) (hR7 : ∀ (mo : MO) (sz : Nat) (p0 : Int32), K 7 [p0] mo ≠ none → cXi l y_Mo_block c_Mo_block 4 .int fr0 lo0 (dC, dI) cI cZ sa rk hm ma mo sz [.ref hm, .int p0] (K 7 [p0] mo)) (mo : MO) (sz : Nat) (depth : Int32) (hg : (f_Mo_object K mo depth) ≠ none) : cXi l y_Mo_object c_Mo_object 4 .int (fr0 + 12) (lo0 + 229) (dC, dI) cI cZ sa rk hm ma mo sz [.ref hm, .int depth] (f_Mo_object K mo depth) := by
  refine vx_ofW (cc := c_Mo_object) (maxL := 4) (ret := (some .int)) (by decide) rfl ?_
  intro p e s m args below meth c s₁ B hml hnt hv
  obtain ⟨rfl, hsz, hP, hK, hD0, hC, hZ⟩ := hv
  have hx := B.exec
  have hb := B.bytes
  have hr := B.returns
  have hts0 := atoms_spec (ws := wy y_Mo_object c_Mo_object 4 (some .int)) B.pre
  have hts := htsL hts0
  have hown : s.vm.findClass R_Mo = some m.cls := findClass_of_methodNamed B.named
  have hlocks := B.notSynchronized
  subst hsz
  have hD := hD0.self (sz := s.heap.size)
  generalize hAe : va_A (wM cI cZ hm ma mo) s.heap.size = A at hD hZ ⊢
  have hA : ∀ q : Nat, s.heap.size ≤ q → A q := fun q h => by rw [← hAe]; exact Or.inr h
  have hS : va_S A s.heap s.heap [] := va_S.rf
  have hl := lv_entry ([.ref hm, .int depth]) (n := 4) (Nat.le_of_ble_eq_true rfl)
  rw [lg_entry_eq]
  generalize (lg_sl ([.ref hm, .int depth]) ++ List.replicate (4 - (lg_sl ([.ref hm, .int depth])).length) Slot.unset).toArray = ls at hl ⊢
  have hl : lv_has ls 4 [(0, .ref hm), (1, .int depth)] := hl
  refine lv_aload_n hx hb d_Mo_object_0 rfl (lv_at hl 0 rfl) ?_
  refine lv_bipush (v := 46) hx hb d_Mo_object_1 (by decide) ?_
  refine mr_Vi (g := (f_Mo_plain mo 46)) (As := [.int 46]) (rest := []) ⟨hx, hb, hml, hown, hts0⟩ (m_Mo_plain l hlt dC dI cI cZ sa rk hm ma mo _ 46 (fun z => hg (by unfold f_Mo_object; rw [bndM_n z]))) hP hD hK hS hA hC hZ hnt hlocks L_1128 L_1130 L_70 L_90 L_1131 k_Mo_plain ⟨(by show _ ≤ fr0 + 12; omega), (by show _ ≤ lo0 + 229; omega)⟩ rfl rfl hl.1 (Nat.le_of_ble_eq_true rfl) d_Mo_object_3 rfl (fun q z => by unfold f_Mo_object; rw [bndM_l z]) (fun r_1 mo_1 H locs w_1 hP hD hS => ?_)
  refine lv_istore_n (lv' := [(2, .int r_1), (0, .ref hm), (1, .int depth)]) hx hb d_Mo_object_6 rfl hl (by decide) rfl (fun ls hl => ?_)
  refine lv_aload_n hx hb d_Mo_object_7 rfl (lv_at hl 1 rfl) ?_
  refine va_get (D := (dC, dI)) (ci := 6) (v := .int (q_properties mo_1)) (C := R_Mo) (T := T_Mo) (N := 31) hx hb hts u_Mo hown hK hP 0 rfl rfl 28 (by decide) (hts _ L_949) (fun _ h9 => h9) rfl d_Mo_object_8 ?_
  refine lv_istore_n (lv' := [(3, .int (q_properties mo_1)), (2, .int r_1), (0, .ref hm), (1, .int depth)]) hx hb d_Mo_object_11 rfl hl (by decide) rfl (fun ls hl => ?_)
  obtain ⟨x_2, hx_2⟩ : ∃ z, f_Mo_object_L12 K depth r_1 (q_properties mo_1) 5000  mo_1 = z := ⟨_, rfl⟩
  have hn_2 : x_2 ≠ none := (fun z => hg (by unfold f_Mo_object; rw [bndM_r w_1, bndM_n (hx_2.trans z)]))
  have hX_2 : ∀ q, x_2 = some (.inl q) → (f_Mo_object K mo depth) = some (.inl q) := (fun q z => by unfold f_Mo_object; rw [bndM_r w_1, bndM_l (hx_2.trans z)])
  have lp_2 : ∀ (fu : Nat) (sx_2 : MO) (H : Heap) (locs : List Loc) (ls : Array Slot), va_P (dC, dI) cls (wM cI cZ hm ma sx_2) H → va_D A (wM cI cZ hm ma sx_2) → va_S A s.heap H locs → lv_has ls 4 [(0, .ref hm), (1, .int depth), (2, .int r_1), (3, .int (q_properties mo_1))] → x_2 = f_Mo_object_L12 K depth r_1 (q_properties mo_1) fu  sx_2 → W p l e (headSpec (wy y_Mo_object c_Mo_object 4 (some .int)) { frames := (fr0 + 12), cells := 1, slots := 6, locals := (lo0 + 229) }).room s m [.ref hm, .int depth].toArray below meth c H locs 0 0 (vx_MQ below (va_Qi (fun r (u : MO) => (f_Mo_object K mo depth) = some (.inr (r, u))) (wB (dC, dI) cI cZ A (wM cI cZ hm ma)) A) (xM (dC, dI) cI cZ hm ma (f_Mo_object K mo depth) A) [.ref hm, .int depth].toArray s (mcM (f_Mo_object K mo depth)) (msM (f_Mo_object K mo depth)) A) (F0 m 12 ls []) := by
    intro fu
    induction fu with
    | zero => intro  sx_2 H locs ls hP hD hS hl hL_2; exact absurd (hL_2.trans rfl) hn_2
    | succ fu_2 ih_2 =>
      intro  sx_2 H locs ls hP hD hS hl hL_2
      rw [f_Mo_object_L12] at hL_2
      refine lv_aload_n hx hb d_Mo_object_12 rfl (lv_at hl 0 rfl) ?_
      refine lv_bipush (v := 65) hx hb d_Mo_object_13 (by decide) ?_
      refine mr_Vi (g := (f_Mo_isSign sx_2 65)) (As := [.int 65]) (rest := []) ⟨hx, hb, hml, hown, hts0⟩ (m_Mo_isSign l hlt dC dI cI cZ sa rk hm ma sx_2 _ 65 (fun z => hn_2 (hL_2.trans (bndM_n z)))) hP hD hK hS hA hC hZ hnt hlocks L_1053 L_1055 L_60 L_90 L_1056 k_Mo_isSign ⟨(by show _ ≤ fr0 + 12; omega), (by show _ ≤ lo0 + 229; omega)⟩ rfl rfl hl.1 (Nat.le_of_ble_eq_true rfl) d_Mo_object_15 rfl (fun q z => hX_2 q (hL_2.trans (bndM_l z))) (fun r_3 mo_3 H locs w_3 hP hD hS => ?_)
      rw [bndM_r w_3] at hL_2
      refine lv_if_ne (tgt := 46) hx hb d_Mo_object_18 (by decide) (fun c_4 => ?_) (fun c_4 => ?_)
      · rw [if_neg c_4] at hL_2
        obtain ⟨se_2, hse_2⟩ : ∃ z : MO, z = mo_3 := ⟨_, rfl⟩
        have hP : va_P (dC, dI) cls (wM cI cZ hm ma se_2) H := by rw [hse_2]; exact hP
        have hD : va_D A (wM cI cZ hm ma se_2) := by rw [hse_2]; exact hD
        have we_2 : f_Mo_object_L12 K depth r_1 (q_properties mo_1) 5000  mo_1 = some (.inr (0, se_2)) := by rw [hse_2]; exact hx_2.trans hL_2
        have hl := lv_sub hl (l' := [(0, .ref hm), (1, .int depth), (2, .int r_1), (3, .int (q_properties mo_1))]) [0, 1, 2, 3] rfl
        refine lv_aload_n hx hb d_Mo_object_46 rfl (lv_at hl 0 rfl) ?_
        refine lv_dup hx hb d_Mo_object_47 rfl ?_
        refine va_get (D := (dC, dI)) (ci := 6) (v := .int (q_at se_2)) (C := R_Mo) (T := T_Mo) (N := 31) hx hb hts u_Mo hown hK hP 0 rfl rfl 6 (by decide) (hts _ L_927) (fun _ h9 => h9) rfl d_Mo_object_48 ?_
        refine lv_iconst (v := 1) hx hb d_Mo_object_51 (by decide) ?_
        refine lv_iadd hx hb d_Mo_object_52 ?_
        refine va_put (D := (dC, dI)) (ci := 6) (v := .int ((q_at se_2) + 1)) (ty := .int) (C := R_Mo) (T := T_Mo) (N := 31) hx hb hts u_Mo ty_Mo tk_Mo nm_Mo hown hK hP hD hS 0 rfl rfl 6 (by decide) (hts _ L_927) (fun _ h9 => h9) rfl (by decide +kernel) rfl rfl (Nat.le_of_ble_eq_true rfl) d_Mo_object_53 (fun H locs hP hD hS => ?_)
        have hP : va_P (dC, dI) cls (wM cI cZ hm ma (s_at se_2 ((q_at se_2) + 1))) H := hP
        have hD : va_D A (wM cI cZ hm ma (s_at se_2 ((q_at se_2) + 1))) := hD
        refine lv_aload_n hx hb d_Mo_object_56 rfl (lv_at hl 0 rfl) ?_
        refine lv_iload_n hx hb d_Mo_object_57 rfl (lv_at hl 3 rfl) ?_
        refine va_put (D := (dC, dI)) (ci := 6) (v := .int (q_properties mo_1)) (ty := .int) (C := R_Mo) (T := T_Mo) (N := 31) hx hb hts u_Mo ty_Mo tk_Mo nm_Mo hown hK hP hD hS 0 rfl rfl 28 (by decide) (hts _ L_949) (fun _ h9 => h9) rfl (by decide +kernel) rfl rfl (Nat.le_of_ble_eq_true rfl) d_Mo_object_58 (fun H locs hP hD hS => ?_)
        have hP : va_P (dC, dI) cls (wM cI cZ hm ma (s_at (s_properties se_2 (q_properties mo_1)) ((q_at se_2) + 1))) H := hP
        have hD : va_D A (wM cI cZ hm ma (s_at (s_properties se_2 (q_properties mo_1)) ((q_at se_2) + 1))) := hD
        refine lv_iload_n hx hb d_Mo_object_61 rfl (lv_at hl 2 rfl) ?_
        exact mr_iret (v := r_1) (mo := (s_at (s_properties se_2 (q_properties mo_1)) ((q_at se_2) + 1))) hx hb hr hlocks hK hP hD hS (by unfold f_Mo_object; rw [bndM_r w_1, bndM_r we_2]) d_Mo_object_62
      · rw [if_pos c_4] at hL_2
        refine lv_aload_n hx hb d_Mo_object_21 rfl (lv_at hl 0 rfl) ?_
        refine lv_iload_n hx hb d_Mo_object_22 rfl (lv_at hl 2 rfl) ?_
        refine lv_iload_n hx hb d_Mo_object_23 rfl (lv_at hl 3 rfl) ?_
        refine lv_iload_n hx hb d_Mo_object_24 rfl (lv_at hl 1 rfl) ?_
        refine mr_Sv (g := (f_Mo_property K mo_3 r_1 (q_properties mo_1) depth)) (As := [.ref hm, .int r_1, .int (q_properties mo_1), .int depth]) (rest := []) ⟨hx, hb, hml, hown, hts0⟩ (m_Mo_property l hlt dC dI cI cZ sa rk hm ma fr0 lo0 K hR0 hR1 hR2 hR3 hR4 hR5 hR6 hR7 mo_3 _ r_1 (q_properties mo_1) depth (fun z => hn_2 (hL_2.trans (bndM_n z)))) hP hD hK hS hA hC hZ hnt hlocks L_1180 L_1181 L_90 L_1182 k_Mo_property ⟨(by show _ ≤ fr0 + 12; omega), (by show _ ≤ lo0 + 229; omega)⟩ rfl rfl hl.1 (Nat.le_of_ble_eq_true rfl) d_Mo_object_25 rfl (fun q z => hX_2 q (hL_2.trans (bndM_l z))) (fun mo_5 H locs w_5 hP hD hS => ?_)
        rw [bndM_r w_5] at hL_2
        refine lv_aload_n hx hb d_Mo_object_28 rfl (lv_at hl 0 rfl) ?_
        refine lv_bipush (v := 65) hx hb d_Mo_object_29 (by decide) ?_
        refine mr_Vi (g := (f_Mo_isSign mo_5 65)) (As := [.int 65]) (rest := []) ⟨hx, hb, hml, hown, hts0⟩ (m_Mo_isSign l hlt dC dI cI cZ sa rk hm ma mo_5 _ 65 (fun z => hn_2 (hL_2.trans (bndM_n z)))) hP hD hK hS hA hC hZ hnt hlocks L_1053 L_1055 L_60 L_90 L_1056 k_Mo_isSign ⟨(by show _ ≤ fr0 + 12; omega), (by show _ ≤ lo0 + 229; omega)⟩ rfl rfl hl.1 (Nat.le_of_ble_eq_true rfl) d_Mo_object_31 rfl (fun q z => hX_2 q (hL_2.trans (bndM_l z))) (fun r_6 mo_6 H locs w_6 hP hD hS => ?_)
        rw [bndM_r w_6] at hL_2
        refine lv_if_ne (tgt := 12) hx hb d_Mo_object_34 (by decide) (fun c_7 => ?_) (fun c_7 => ?_)
        · rw [if_neg c_7] at hL_2
          exact ih_2  mo_6 _ _ ls hP hD hS (lv_sub hl [0, 1, 2, 3] rfl) hL_2
        · rw [if_pos c_7] at hL_2
          refine lv_aload_n hx hb d_Mo_object_37 rfl (lv_at hl 0 rfl) ?_
          refine lv_bipush (v := 68) hx hb d_Mo_object_38 (by decide) ?_
          refine mr_Vv (g := (f_Mo_expect mo_6 68)) (As := [.int 68]) (rest := []) ⟨hx, hb, hml, hown, hts0⟩ (m_Mo_expect l hlt dC dI cI cZ sa rk hm ma mo_6 _ 68 (fun z => hn_2 (hL_2.trans (bndM_n z)))) hP hD hK hS hA hC hZ hnt hlocks L_1111 L_1113 L_68 L_90 L_1114 k_Mo_expect ⟨(by show _ ≤ fr0 + 12; omega), (by show _ ≤ lo0 + 229; omega)⟩ rfl rfl hl.1 (Nat.le_of_ble_eq_true rfl) d_Mo_object_40 rfl (fun q z => hX_2 q (hL_2.trans (bndM_l z))) (fun mo_8 H locs w_8 hP hD hS => ?_)
          rw [bndM_r w_8] at hL_2
          refine lv_goto (tgt := 12) hx hb d_Mo_object_43 (by decide) ?_
          exact ih_2  mo_8 _ _ ls hP hD hS (lv_sub hl [0, 1, 2, 3] rfl) hL_2
  exact lp_2 5000  mo_1 _ _ ls hP hD hS (lv_sub hl [2, 3, 1, 0] rfl) hx_2.symm
def f_Mo_primary (K : Nat → List Int32 → MO → Rm) (mo : MO) (depth : Int32) : Rm := (bndM (f_Mo_deep mo depth) (fun _ mo_1 => (bndM (f_Mo_isKind mo_1 2) (fun r_2 mo_2 => (if r_2 = 0 then (bndM (f_Mo_isKind mo_2 3) (fun r_4 mo_4 => (if r_4 = 0 then (bndM (f_Mo_isKind mo_4 5) (fun r_6 mo_6 => (if r_6 = 0 then (bndM (f_Mo_isWord mo_6 18) (fun r_8 mo_8 => (if r_8 = 0 then (bndM (f_Mo_isWord mo_8 27) (fun r_10 mo_10 => (if r_10 = 0 then (bndM (f_Mo_isWord mo_10 28) (fun r_12 mo_12 => (if r_12 = 0 then (bndM (f_Mo_isWord mo_12 26) (fun r_14 mo_14 => (if r_14 = 0 then (bndM (f_Mo_isWord mo_14 11) (fun r_16 mo_16 => (if r_16 = 0 then (bndM (f_Mo_isSign mo_16 62) (fun r_18 mo_18 => (if r_18 = 0 then (bndM (f_Mo_isSign mo_18 64) (fun r_20 mo_20 => (if r_20 = 0 then (bndM (f_Mo_isSign mo_20 60) (fun r_22 mo_22 => (if r_22 = 0 then (bndM (f_Mo_identifier mo_22) (fun r_24 mo_24 => (bndM (f_Mo_make mo_24 28 r_24 (q_at mo_22)) (fun r_25 mo_25 => (some (.inr (r_25, mo_25))))))) else (bndM (K 0 [(depth + 1), 1] (s_at mo_22 ((q_at mo_22) + 1))) (fun r_26 mo_26 => (bndM (f_Mo_expect mo_26 61) (fun _ mo_27 => (some (.inr (r_26, mo_27)))))))))) else (bndM (f_Mo_object K mo_20 depth) (fun r_28 mo_28 => (some (.inr (r_28, mo_28)))))))) else (bndM (f_Mo_array K mo_18 depth) (fun r_29 mo_29 => (some (.inr (r_29, mo_29)))))))) else (bndM (f_Mo_function K mo_16 50 depth) (fun r_30 mo_30 => (some (.inr (r_30, mo_30)))))))) else (bndM (f_Mo_plain mo_14 34) (fun r_31 mo_31 => (some (.inr (r_31, mo_31)))))))) else (bndM (f_Mo_plain mo_12 33) (fun r_32 mo_32 => (some (.inr (r_32, mo_32)))))))) else (bndM (f_Mo_plain mo_10 32) (fun r_33 mo_33 => (some (.inr (r_33, mo_33)))))))) else (bndM (f_Mo_plain mo_8 27) (fun r_34 mo_34 => (some (.inr (r_34, mo_34)))))))) else (bndM (f_Mo_literal mo_6 31) (fun r_35 mo_35 => (some (.inr (r_35, mo_35)))))))) else (bndM (f_Mo_literal mo_4 30) (fun r_36 mo_36 => (some (.inr (r_36, mo_36)))))))) else (bndM (f_Mo_literal mo_2 29) (fun r_37 mo_37 => (some (.inr (r_37, mo_37))))))))))
set_option maxRecDepth 100000 in
set_option maxHeartbeats 4000000 in
theorem m_Mo_primary (l : Launch) (hlt : l.stackTraces = false) (dC : Nat → ClassId) (dI : Nat → Nat → Nat) (cI cZ : ClassId) (sa rk hm : Nat) (ma : Nat → Nat) (fr0 lo0 : Nat) (K : Nat → List Int32 → MO → Rm) (hR0 : ∀ (mo : MO) (sz : Nat) (p0 p1 : Int32), K 0 [p0, p1] mo ≠ none → cXi l y_Mo_expression c_Mo_expression 5 .int fr0 lo0 (dC, dI) cI cZ sa rk hm ma mo sz [.ref hm, .int p0, .int p1] (K 0 [p0, p1] mo)) (hR1 : ∀ (mo : MO) (sz : Nat) (p0 p1 : Int32), K 1 [p0, p1] mo ≠ none → cXi l y_Mo_assignment c_Mo_assignment 5 .int fr0 lo0 (dC, dI) cI cZ sa rk hm ma mo sz [.ref hm, .int p0, .int p1] (K 1 [p0, p1] mo)) (hR2 : ∀ (mo : MO) (sz : Nat) (p0 p1 p2 : Int32), K 2 [p0, p1, p2] mo ≠ none → cXi l y_Mo_binary c_Mo_binary 7 .int fr0 lo0 (dC, dI) cI cZ sa rk hm ma mo sz [.ref hm, .int p0, .int p1, .int p2] (K 2 [p0, p1, p2] mo)) (hR3 : ∀ (mo : MO) (sz : Nat) (p0 : Int32), K 3 [p0] mo ≠ none → cXi l y_Mo_unary c_Mo_unary 5 .int fr0 lo0 (dC, dI) cI cZ sa rk hm ma mo sz [.ref hm, .int p0] (K 3 [p0] mo)) (hR4 : ∀ (mo : MO) (sz : Nat) (p0 p1 : Int32), K 4 [p0, p1] mo ≠ none → cXi l y_Mo_member c_Mo_member 6 .int fr0 lo0 (dC, dI) cI cZ sa rk hm ma mo sz [.ref hm, .int p0, .int p1] (K 4 [p0, p1] mo)) (hR5 : ∀ (mo : MO) (sz : Nat) (p0 p1 : Int32), K 5 [p0, p1] mo ≠ none → cXi l y_Mo_statement c_Mo_statement 3 .int fr0 lo0 (dC, dI) cI cZ sa rk hm ma mo sz [.ref hm, .int p0, .int p1] (K 5 [p0, p1] mo)) (hR6 : ∀ (mo : MO) (sz : Nat) (p0 p1 p2 : Int32), K 6 [p0, p1, p2] mo ≠ none → cXv l y_Mo_statements c_Mo_statements 8 fr0 lo0 (dC, dI) cI cZ sa rk hm ma mo sz [.ref hm, .int p0, .int p1, .int p2] (K 6 [p0, p1, p2] mo)) (hR7 : ∀ (mo : MO) (sz : Nat) (p0 : Int32), K 7 [p0] mo ≠ none → cXi l y_Mo_block c_Mo_block 4 .int fr0 lo0 (dC, dI) cI cZ sa rk hm ma mo sz [.ref hm, .int p0] (K 7 [p0] mo)) (mo : MO) (sz : Nat) (depth : Int32) (hg : (f_Mo_primary K mo depth) ≠ none) : cXi l y_Mo_primary c_Mo_primary 3 .int (fr0 + 13) (lo0 + 252) (dC, dI) cI cZ sa rk hm ma mo sz [.ref hm, .int depth] (f_Mo_primary K mo depth) := by
  refine vx_ofW (cc := c_Mo_primary) (maxL := 3) (ret := (some .int)) (by decide) rfl ?_
  intro p e s m args below meth c s₁ B hml hnt hv
  obtain ⟨rfl, hsz, hP, hK, hD0, hC, hZ⟩ := hv
  have hx := B.exec
  have hb := B.bytes
  have hr := B.returns
  have hts0 := atoms_spec (ws := wy y_Mo_primary c_Mo_primary 3 (some .int)) B.pre
  have hts := htsL hts0
  have hown : s.vm.findClass R_Mo = some m.cls := findClass_of_methodNamed B.named
  have hlocks := B.notSynchronized
  subst hsz
  have hD := hD0.self (sz := s.heap.size)
  generalize hAe : va_A (wM cI cZ hm ma mo) s.heap.size = A at hD hZ ⊢
  have hA : ∀ q : Nat, s.heap.size ≤ q → A q := fun q h => by rw [← hAe]; exact Or.inr h
  have hS : va_S A s.heap s.heap [] := va_S.rf
  have hl := lv_entry ([.ref hm, .int depth]) (n := 3) (Nat.le_of_ble_eq_true rfl)
  rw [lg_entry_eq]
  generalize (lg_sl ([.ref hm, .int depth]) ++ List.replicate (3 - (lg_sl ([.ref hm, .int depth])).length) Slot.unset).toArray = ls at hl ⊢
  have hl : lv_has ls 3 [(0, .ref hm), (1, .int depth)] := hl
  refine lv_aload_n hx hb d_Mo_primary_0 rfl (lv_at hl 0 rfl) ?_
  refine lv_iload_n hx hb d_Mo_primary_1 rfl (lv_at hl 1 rfl) ?_
  refine mr_Vv (g := (f_Mo_deep mo depth)) (As := [.int depth]) (rest := []) ⟨hx, hb, hml, hown, hts0⟩ (m_Mo_deep l hlt dC dI cI cZ sa rk hm ma mo _ depth (fun z => hg (by unfold f_Mo_primary; rw [bndM_n z]))) hP hD hK hS hA hC hZ hnt hlocks L_1068 L_1070 L_63 L_90 L_1071 k_Mo_deep ⟨(by show _ ≤ fr0 + 13; omega), (by show _ ≤ lo0 + 252; omega)⟩ rfl rfl hl.1 (Nat.le_of_ble_eq_true rfl) d_Mo_primary_2 rfl (fun q z => by unfold f_Mo_primary; rw [bndM_l z]) (fun mo_1 H locs w_1 hP hD hS => ?_)
  refine lv_aload_n hx hb d_Mo_primary_5 rfl (lv_at hl 0 rfl) ?_
  refine lv_iconst (v := 2) hx hb d_Mo_primary_6 (by decide) ?_
  refine mr_Vi (g := (f_Mo_isKind mo_1 2)) (As := [.int 2]) (rest := []) ⟨hx, hb, hml, hown, hts0⟩ (m_Mo_isKind l hlt dC dI cI cZ sa rk hm ma mo_1 _ 2 (fun z => hg (by unfold f_Mo_primary; rw [bndM_r w_1, bndM_n z]))) hP hD hK hS hA hC hZ hnt hlocks L_1057 L_1059 L_61 L_90 L_1060 k_Mo_isKind ⟨(by show _ ≤ fr0 + 13; omega), (by show _ ≤ lo0 + 252; omega)⟩ rfl rfl hl.1 (Nat.le_of_ble_eq_true rfl) d_Mo_primary_7 rfl (fun q z => by unfold f_Mo_primary; rw [bndM_r w_1, bndM_l z]) (fun r_2 mo_2 H locs w_2 hP hD hS => ?_)
  refine lv_if_eq (tgt := 20) hx hb d_Mo_primary_10 (by decide) (fun c_3 => ?_) (fun c_3 => ?_)
  · refine lv_aload_n hx hb d_Mo_primary_20 rfl (lv_at hl 0 rfl) ?_
    refine lv_iconst (v := 3) hx hb d_Mo_primary_21 (by decide) ?_
    refine mr_Vi (g := (f_Mo_isKind mo_2 3)) (As := [.int 3]) (rest := []) ⟨hx, hb, hml, hown, hts0⟩ (m_Mo_isKind l hlt dC dI cI cZ sa rk hm ma mo_2 _ 3 (fun z => hg (by unfold f_Mo_primary; rw [bndM_r w_1, bndM_r w_2, if_pos c_3, bndM_n z]))) hP hD hK hS hA hC hZ hnt hlocks L_1057 L_1059 L_61 L_90 L_1060 k_Mo_isKind ⟨(by show _ ≤ fr0 + 13; omega), (by show _ ≤ lo0 + 252; omega)⟩ rfl rfl hl.1 (Nat.le_of_ble_eq_true rfl) d_Mo_primary_22 rfl (fun q z => by unfold f_Mo_primary; rw [bndM_r w_1, bndM_r w_2, if_pos c_3, bndM_l z]) (fun r_4 mo_4 H locs w_4 hP hD hS => ?_)
    refine lv_if_eq (tgt := 35) hx hb d_Mo_primary_25 (by decide) (fun c_5 => ?_) (fun c_5 => ?_)
    · refine lv_aload_n hx hb d_Mo_primary_35 rfl (lv_at hl 0 rfl) ?_
      refine lv_iconst (v := 5) hx hb d_Mo_primary_36 (by decide) ?_
      refine mr_Vi (g := (f_Mo_isKind mo_4 5)) (As := [.int 5]) (rest := []) ⟨hx, hb, hml, hown, hts0⟩ (m_Mo_isKind l hlt dC dI cI cZ sa rk hm ma mo_4 _ 5 (fun z => hg (by unfold f_Mo_primary; rw [bndM_r w_1, bndM_r w_2, if_pos c_3, bndM_r w_4, if_pos c_5, bndM_n z]))) hP hD hK hS hA hC hZ hnt hlocks L_1057 L_1059 L_61 L_90 L_1060 k_Mo_isKind ⟨(by show _ ≤ fr0 + 13; omega), (by show _ ≤ lo0 + 252; omega)⟩ rfl rfl hl.1 (Nat.le_of_ble_eq_true rfl) d_Mo_primary_37 rfl (fun q z => by unfold f_Mo_primary; rw [bndM_r w_1, bndM_r w_2, if_pos c_3, bndM_r w_4, if_pos c_5, bndM_l z]) (fun r_6 mo_6 H locs w_6 hP hD hS => ?_)
      refine lv_if_eq (tgt := 50) hx hb d_Mo_primary_40 (by decide) (fun c_7 => ?_) (fun c_7 => ?_)
      · refine lv_aload_n hx hb d_Mo_primary_50 rfl (lv_at hl 0 rfl) ?_
        refine lv_bipush (v := 18) hx hb d_Mo_primary_51 (by decide) ?_
        refine mr_Vi (g := (f_Mo_isWord mo_6 18)) (As := [.int 18]) (rest := []) ⟨hx, hb, hml, hown, hts0⟩ (m_Mo_isWord l hlt dC dI cI cZ sa rk hm ma mo_6 _ 18 (fun z => hg (by unfold f_Mo_primary; rw [bndM_r w_1, bndM_r w_2, if_pos c_3, bndM_r w_4, if_pos c_5, bndM_r w_6, if_pos c_7, bndM_n z]))) hP hD hK hS hA hC hZ hnt hlocks L_1061 L_1063 L_62 L_90 L_1064 k_Mo_isWord ⟨(by show _ ≤ fr0 + 13; omega), (by show _ ≤ lo0 + 252; omega)⟩ rfl rfl hl.1 (Nat.le_of_ble_eq_true rfl) d_Mo_primary_53 rfl (fun q z => by unfold f_Mo_primary; rw [bndM_r w_1, bndM_r w_2, if_pos c_3, bndM_r w_4, if_pos c_5, bndM_r w_6, if_pos c_7, bndM_l z]) (fun r_8 mo_8 H locs w_8 hP hD hS => ?_)
        refine lv_if_eq (tgt := 66) hx hb d_Mo_primary_56 (by decide) (fun c_9 => ?_) (fun c_9 => ?_)
        · refine lv_aload_n hx hb d_Mo_primary_66 rfl (lv_at hl 0 rfl) ?_
          refine lv_bipush (v := 27) hx hb d_Mo_primary_67 (by decide) ?_
          refine mr_Vi (g := (f_Mo_isWord mo_8 27)) (As := [.int 27]) (rest := []) ⟨hx, hb, hml, hown, hts0⟩ (m_Mo_isWord l hlt dC dI cI cZ sa rk hm ma mo_8 _ 27 (fun z => hg (by unfold f_Mo_primary; rw [bndM_r w_1, bndM_r w_2, if_pos c_3, bndM_r w_4, if_pos c_5, bndM_r w_6, if_pos c_7, bndM_r w_8, if_pos c_9, bndM_n z]))) hP hD hK hS hA hC hZ hnt hlocks L_1061 L_1063 L_62 L_90 L_1064 k_Mo_isWord ⟨(by show _ ≤ fr0 + 13; omega), (by show _ ≤ lo0 + 252; omega)⟩ rfl rfl hl.1 (Nat.le_of_ble_eq_true rfl) d_Mo_primary_69 rfl (fun q z => by unfold f_Mo_primary; rw [bndM_r w_1, bndM_r w_2, if_pos c_3, bndM_r w_4, if_pos c_5, bndM_r w_6, if_pos c_7, bndM_r w_8, if_pos c_9, bndM_l z]) (fun r_10 mo_10 H locs w_10 hP hD hS => ?_)
          refine lv_if_eq (tgt := 82) hx hb d_Mo_primary_72 (by decide) (fun c_11 => ?_) (fun c_11 => ?_)
          · refine lv_aload_n hx hb d_Mo_primary_82 rfl (lv_at hl 0 rfl) ?_
            refine lv_bipush (v := 28) hx hb d_Mo_primary_83 (by decide) ?_
            refine mr_Vi (g := (f_Mo_isWord mo_10 28)) (As := [.int 28]) (rest := []) ⟨hx, hb, hml, hown, hts0⟩ (m_Mo_isWord l hlt dC dI cI cZ sa rk hm ma mo_10 _ 28 (fun z => hg (by unfold f_Mo_primary; rw [bndM_r w_1, bndM_r w_2, if_pos c_3, bndM_r w_4, if_pos c_5, bndM_r w_6, if_pos c_7, bndM_r w_8, if_pos c_9, bndM_r w_10, if_pos c_11, bndM_n z]))) hP hD hK hS hA hC hZ hnt hlocks L_1061 L_1063 L_62 L_90 L_1064 k_Mo_isWord ⟨(by show _ ≤ fr0 + 13; omega), (by show _ ≤ lo0 + 252; omega)⟩ rfl rfl hl.1 (Nat.le_of_ble_eq_true rfl) d_Mo_primary_85 rfl (fun q z => by unfold f_Mo_primary; rw [bndM_r w_1, bndM_r w_2, if_pos c_3, bndM_r w_4, if_pos c_5, bndM_r w_6, if_pos c_7, bndM_r w_8, if_pos c_9, bndM_r w_10, if_pos c_11, bndM_l z]) (fun r_12 mo_12 H locs w_12 hP hD hS => ?_)
            refine lv_if_eq (tgt := 98) hx hb d_Mo_primary_88 (by decide) (fun c_13 => ?_) (fun c_13 => ?_)
            · refine lv_aload_n hx hb d_Mo_primary_98 rfl (lv_at hl 0 rfl) ?_
              refine lv_bipush (v := 26) hx hb d_Mo_primary_99 (by decide) ?_
              refine mr_Vi (g := (f_Mo_isWord mo_12 26)) (As := [.int 26]) (rest := []) ⟨hx, hb, hml, hown, hts0⟩ (m_Mo_isWord l hlt dC dI cI cZ sa rk hm ma mo_12 _ 26 (fun z => hg (by unfold f_Mo_primary; rw [bndM_r w_1, bndM_r w_2, if_pos c_3, bndM_r w_4, if_pos c_5, bndM_r w_6, if_pos c_7, bndM_r w_8, if_pos c_9, bndM_r w_10, if_pos c_11, bndM_r w_12, if_pos c_13, bndM_n z]))) hP hD hK hS hA hC hZ hnt hlocks L_1061 L_1063 L_62 L_90 L_1064 k_Mo_isWord ⟨(by show _ ≤ fr0 + 13; omega), (by show _ ≤ lo0 + 252; omega)⟩ rfl rfl hl.1 (Nat.le_of_ble_eq_true rfl) d_Mo_primary_101 rfl (fun q z => by unfold f_Mo_primary; rw [bndM_r w_1, bndM_r w_2, if_pos c_3, bndM_r w_4, if_pos c_5, bndM_r w_6, if_pos c_7, bndM_r w_8, if_pos c_9, bndM_r w_10, if_pos c_11, bndM_r w_12, if_pos c_13, bndM_l z]) (fun r_14 mo_14 H locs w_14 hP hD hS => ?_)
              refine lv_if_eq (tgt := 114) hx hb d_Mo_primary_104 (by decide) (fun c_15 => ?_) (fun c_15 => ?_)
              · refine lv_aload_n hx hb d_Mo_primary_114 rfl (lv_at hl 0 rfl) ?_
                refine lv_bipush (v := 11) hx hb d_Mo_primary_115 (by decide) ?_
                refine mr_Vi (g := (f_Mo_isWord mo_14 11)) (As := [.int 11]) (rest := []) ⟨hx, hb, hml, hown, hts0⟩ (m_Mo_isWord l hlt dC dI cI cZ sa rk hm ma mo_14 _ 11 (fun z => hg (by unfold f_Mo_primary; rw [bndM_r w_1, bndM_r w_2, if_pos c_3, bndM_r w_4, if_pos c_5, bndM_r w_6, if_pos c_7, bndM_r w_8, if_pos c_9, bndM_r w_10, if_pos c_11, bndM_r w_12, if_pos c_13, bndM_r w_14, if_pos c_15, bndM_n z]))) hP hD hK hS hA hC hZ hnt hlocks L_1061 L_1063 L_62 L_90 L_1064 k_Mo_isWord ⟨(by show _ ≤ fr0 + 13; omega), (by show _ ≤ lo0 + 252; omega)⟩ rfl rfl hl.1 (Nat.le_of_ble_eq_true rfl) d_Mo_primary_117 rfl (fun q z => by unfold f_Mo_primary; rw [bndM_r w_1, bndM_r w_2, if_pos c_3, bndM_r w_4, if_pos c_5, bndM_r w_6, if_pos c_7, bndM_r w_8, if_pos c_9, bndM_r w_10, if_pos c_11, bndM_r w_12, if_pos c_13, bndM_r w_14, if_pos c_15, bndM_l z]) (fun r_16 mo_16 H locs w_16 hP hD hS => ?_)
                refine lv_if_eq (tgt := 131) hx hb d_Mo_primary_120 (by decide) (fun c_17 => ?_) (fun c_17 => ?_)
                · refine lv_aload_n hx hb d_Mo_primary_131 rfl (lv_at hl 0 rfl) ?_
                  refine lv_bipush (v := 62) hx hb d_Mo_primary_132 (by decide) ?_
                  refine mr_Vi (g := (f_Mo_isSign mo_16 62)) (As := [.int 62]) (rest := []) ⟨hx, hb, hml, hown, hts0⟩ (m_Mo_isSign l hlt dC dI cI cZ sa rk hm ma mo_16 _ 62 (fun z => hg (by unfold f_Mo_primary; rw [bndM_r w_1, bndM_r w_2, if_pos c_3, bndM_r w_4, if_pos c_5, bndM_r w_6, if_pos c_7, bndM_r w_8, if_pos c_9, bndM_r w_10, if_pos c_11, bndM_r w_12, if_pos c_13, bndM_r w_14, if_pos c_15, bndM_r w_16, if_pos c_17, bndM_n z]))) hP hD hK hS hA hC hZ hnt hlocks L_1053 L_1055 L_60 L_90 L_1056 k_Mo_isSign ⟨(by show _ ≤ fr0 + 13; omega), (by show _ ≤ lo0 + 252; omega)⟩ rfl rfl hl.1 (Nat.le_of_ble_eq_true rfl) d_Mo_primary_134 rfl (fun q z => by unfold f_Mo_primary; rw [bndM_r w_1, bndM_r w_2, if_pos c_3, bndM_r w_4, if_pos c_5, bndM_r w_6, if_pos c_7, bndM_r w_8, if_pos c_9, bndM_r w_10, if_pos c_11, bndM_r w_12, if_pos c_13, bndM_r w_14, if_pos c_15, bndM_r w_16, if_pos c_17, bndM_l z]) (fun r_18 mo_18 H locs w_18 hP hD hS => ?_)
                  refine lv_if_eq (tgt := 146) hx hb d_Mo_primary_137 (by decide) (fun c_19 => ?_) (fun c_19 => ?_)
                  · refine lv_aload_n hx hb d_Mo_primary_146 rfl (lv_at hl 0 rfl) ?_
                    refine lv_bipush (v := 64) hx hb d_Mo_primary_147 (by decide) ?_
                    refine mr_Vi (g := (f_Mo_isSign mo_18 64)) (As := [.int 64]) (rest := []) ⟨hx, hb, hml, hown, hts0⟩ (m_Mo_isSign l hlt dC dI cI cZ sa rk hm ma mo_18 _ 64 (fun z => hg (by unfold f_Mo_primary; rw [bndM_r w_1, bndM_r w_2, if_pos c_3, bndM_r w_4, if_pos c_5, bndM_r w_6, if_pos c_7, bndM_r w_8, if_pos c_9, bndM_r w_10, if_pos c_11, bndM_r w_12, if_pos c_13, bndM_r w_14, if_pos c_15, bndM_r w_16, if_pos c_17, bndM_r w_18, if_pos c_19, bndM_n z]))) hP hD hK hS hA hC hZ hnt hlocks L_1053 L_1055 L_60 L_90 L_1056 k_Mo_isSign ⟨(by show _ ≤ fr0 + 13; omega), (by show _ ≤ lo0 + 252; omega)⟩ rfl rfl hl.1 (Nat.le_of_ble_eq_true rfl) d_Mo_primary_149 rfl (fun q z => by unfold f_Mo_primary; rw [bndM_r w_1, bndM_r w_2, if_pos c_3, bndM_r w_4, if_pos c_5, bndM_r w_6, if_pos c_7, bndM_r w_8, if_pos c_9, bndM_r w_10, if_pos c_11, bndM_r w_12, if_pos c_13, bndM_r w_14, if_pos c_15, bndM_r w_16, if_pos c_17, bndM_r w_18, if_pos c_19, bndM_l z]) (fun r_20 mo_20 H locs w_20 hP hD hS => ?_)
                    refine lv_if_eq (tgt := 161) hx hb d_Mo_primary_152 (by decide) (fun c_21 => ?_) (fun c_21 => ?_)
                    · refine lv_aload_n hx hb d_Mo_primary_161 rfl (lv_at hl 0 rfl) ?_
                      refine lv_bipush (v := 60) hx hb d_Mo_primary_162 (by decide) ?_
                      refine mr_Vi (g := (f_Mo_isSign mo_20 60)) (As := [.int 60]) (rest := []) ⟨hx, hb, hml, hown, hts0⟩ (m_Mo_isSign l hlt dC dI cI cZ sa rk hm ma mo_20 _ 60 (fun z => hg (by unfold f_Mo_primary; rw [bndM_r w_1, bndM_r w_2, if_pos c_3, bndM_r w_4, if_pos c_5, bndM_r w_6, if_pos c_7, bndM_r w_8, if_pos c_9, bndM_r w_10, if_pos c_11, bndM_r w_12, if_pos c_13, bndM_r w_14, if_pos c_15, bndM_r w_16, if_pos c_17, bndM_r w_18, if_pos c_19, bndM_r w_20, if_pos c_21, bndM_n z]))) hP hD hK hS hA hC hZ hnt hlocks L_1053 L_1055 L_60 L_90 L_1056 k_Mo_isSign ⟨(by show _ ≤ fr0 + 13; omega), (by show _ ≤ lo0 + 252; omega)⟩ rfl rfl hl.1 (Nat.le_of_ble_eq_true rfl) d_Mo_primary_164 rfl (fun q z => by unfold f_Mo_primary; rw [bndM_r w_1, bndM_r w_2, if_pos c_3, bndM_r w_4, if_pos c_5, bndM_r w_6, if_pos c_7, bndM_r w_8, if_pos c_9, bndM_r w_10, if_pos c_11, bndM_r w_12, if_pos c_13, bndM_r w_14, if_pos c_15, bndM_r w_16, if_pos c_17, bndM_r w_18, if_pos c_19, bndM_r w_20, if_pos c_21, bndM_l z]) (fun r_22 mo_22 H locs w_22 hP hD hS => ?_)
                      refine lv_if_eq (tgt := 197) hx hb d_Mo_primary_167 (by decide) (fun c_23 => ?_) (fun c_23 => ?_)
                      · refine lv_aload_n hx hb d_Mo_primary_197 rfl (lv_at hl 0 rfl) ?_
                        refine va_get (D := (dC, dI)) (ci := 6) (v := .int (q_at mo_22)) (C := R_Mo) (T := T_Mo) (N := 31) hx hb hts u_Mo hown hK hP 0 rfl rfl 6 (by decide) (hts _ L_927) (fun _ h9 => h9) rfl d_Mo_primary_198 ?_
                        refine lv_istore_n (lv' := [(2, .int (q_at mo_22)), (0, .ref hm), (1, .int depth)]) hx hb d_Mo_primary_201 rfl hl (by decide) rfl (fun ls hl => ?_)
                        refine lv_aload_n hx hb d_Mo_primary_202 rfl (lv_at hl 1 rfl) ?_
                        refine lv_bipush (v := 28) hx hb d_Mo_primary_203 (by decide) ?_
                        refine lv_aload_n hx hb d_Mo_primary_205 rfl (lv_at hl 1 rfl) ?_
                        refine mr_Vi (g := (f_Mo_identifier mo_22)) (As := []) (rest := [.int 28, .ref hm]) ⟨hx, hb, hml, hown, hts0⟩ (m_Mo_identifier l hlt dC dI cI cZ sa rk hm ma mo_22 _  (fun z => hg (by unfold f_Mo_primary; rw [bndM_r w_1, bndM_r w_2, if_pos c_3, bndM_r w_4, if_pos c_5, bndM_r w_6, if_pos c_7, bndM_r w_8, if_pos c_9, bndM_r w_10, if_pos c_11, bndM_r w_12, if_pos c_13, bndM_r w_14, if_pos c_15, bndM_r w_16, if_pos c_17, bndM_r w_18, if_pos c_19, bndM_r w_20, if_pos c_21, bndM_r w_22, if_pos c_23, bndM_n z]))) hP hD hK hS hA hC hZ hnt hlocks L_1107 L_1109 L_67 L_90 L_1110 k_Mo_identifier ⟨(by show _ ≤ fr0 + 13; omega), (by show _ ≤ lo0 + 252; omega)⟩ rfl rfl hl.1 (Nat.le_of_ble_eq_true rfl) d_Mo_primary_206 rfl (fun q z => by unfold f_Mo_primary; rw [bndM_r w_1, bndM_r w_2, if_pos c_3, bndM_r w_4, if_pos c_5, bndM_r w_6, if_pos c_7, bndM_r w_8, if_pos c_9, bndM_r w_10, if_pos c_11, bndM_r w_12, if_pos c_13, bndM_r w_14, if_pos c_15, bndM_r w_16, if_pos c_17, bndM_r w_18, if_pos c_19, bndM_r w_20, if_pos c_21, bndM_r w_22, if_pos c_23, bndM_l z]) (fun r_24 mo_24 H locs w_24 hP hD hS => ?_)
                        refine lv_iload_n hx hb d_Mo_primary_209 rfl (lv_at hl 0 rfl) ?_
                        refine mr_Vi (g := (f_Mo_make mo_24 28 r_24 (q_at mo_22))) (As := [.int 28, .int r_24, .int (q_at mo_22)]) (rest := []) ⟨hx, hb, hml, hown, hts0⟩ (m_Mo_make l hlt dC dI cI cZ sa rk hm ma mo_24 _ 28 r_24 (q_at mo_22) (fun z => hg (by unfold f_Mo_primary; rw [bndM_r w_1, bndM_r w_2, if_pos c_3, bndM_r w_4, if_pos c_5, bndM_r w_6, if_pos c_7, bndM_r w_8, if_pos c_9, bndM_r w_10, if_pos c_11, bndM_r w_12, if_pos c_13, bndM_r w_14, if_pos c_15, bndM_r w_16, if_pos c_17, bndM_r w_18, if_pos c_19, bndM_r w_20, if_pos c_21, bndM_r w_22, if_pos c_23, bndM_r w_24, bndM_n z]))) hP hD hK hS hA hC hZ hnt hlocks L_1046 L_1048 L_59 L_90 L_1049 k_Mo_make ⟨(by show _ ≤ fr0 + 13; omega), (by show _ ≤ lo0 + 252; omega)⟩ rfl rfl hl.1 (Nat.le_of_ble_eq_true rfl) d_Mo_primary_210 rfl (fun q z => by unfold f_Mo_primary; rw [bndM_r w_1, bndM_r w_2, if_pos c_3, bndM_r w_4, if_pos c_5, bndM_r w_6, if_pos c_7, bndM_r w_8, if_pos c_9, bndM_r w_10, if_pos c_11, bndM_r w_12, if_pos c_13, bndM_r w_14, if_pos c_15, bndM_r w_16, if_pos c_17, bndM_r w_18, if_pos c_19, bndM_r w_20, if_pos c_21, bndM_r w_22, if_pos c_23, bndM_r w_24, bndM_l z]) (fun r_25 mo_25 H locs w_25 hP hD hS => ?_)
                        exact mr_iret (v := r_25) (mo := mo_25) hx hb hr hlocks hK hP hD hS (by unfold f_Mo_primary; rw [bndM_r w_1, bndM_r w_2, if_pos c_3, bndM_r w_4, if_pos c_5, bndM_r w_6, if_pos c_7, bndM_r w_8, if_pos c_9, bndM_r w_10, if_pos c_11, bndM_r w_12, if_pos c_13, bndM_r w_14, if_pos c_15, bndM_r w_16, if_pos c_17, bndM_r w_18, if_pos c_19, bndM_r w_20, if_pos c_21, bndM_r w_22, if_pos c_23, bndM_r w_24, bndM_r w_25]) d_Mo_primary_213
                      · refine lv_aload_n hx hb d_Mo_primary_170 rfl (lv_at hl 0 rfl) ?_
                        refine lv_dup hx hb d_Mo_primary_171 rfl ?_
                        refine va_get (D := (dC, dI)) (ci := 6) (v := .int (q_at mo_22)) (C := R_Mo) (T := T_Mo) (N := 31) hx hb hts u_Mo hown hK hP 0 rfl rfl 6 (by decide) (hts _ L_927) (fun _ h9 => h9) rfl d_Mo_primary_172 ?_
                        refine lv_iconst (v := 1) hx hb d_Mo_primary_175 (by decide) ?_
                        refine lv_iadd hx hb d_Mo_primary_176 ?_
                        refine va_put (D := (dC, dI)) (ci := 6) (v := .int ((q_at mo_22) + 1)) (ty := .int) (C := R_Mo) (T := T_Mo) (N := 31) hx hb hts u_Mo ty_Mo tk_Mo nm_Mo hown hK hP hD hS 0 rfl rfl 6 (by decide) (hts _ L_927) (fun _ h9 => h9) rfl (by decide +kernel) rfl rfl (Nat.le_of_ble_eq_true rfl) d_Mo_primary_177 (fun H locs hP hD hS => ?_)
                        have hP : va_P (dC, dI) cls (wM cI cZ hm ma (s_at mo_22 ((q_at mo_22) + 1))) H := hP
                        have hD : va_D A (wM cI cZ hm ma (s_at mo_22 ((q_at mo_22) + 1))) := hD
                        refine lv_aload_n hx hb d_Mo_primary_180 rfl (lv_at hl 0 rfl) ?_
                        refine lv_iload_n hx hb d_Mo_primary_181 rfl (lv_at hl 1 rfl) ?_
                        refine lv_iconst (v := 1) hx hb d_Mo_primary_182 (by decide) ?_
                        refine lv_iadd hx hb d_Mo_primary_183 ?_
                        refine lv_iconst (v := 1) hx hb d_Mo_primary_184 (by decide) ?_
                        refine mr_Si (g := (K 0 [(depth + 1), 1] (s_at mo_22 ((q_at mo_22) + 1)))) (As := [.ref hm, .int (depth + 1), .int 1]) (rest := []) ⟨hx, hb, hml, hown, hts0⟩ (hR0 (s_at mo_22 ((q_at mo_22) + 1)) _ (depth + 1) 1 (fun z => hg (by unfold f_Mo_primary; rw [bndM_r w_1, bndM_r w_2, if_pos c_3, bndM_r w_4, if_pos c_5, bndM_r w_6, if_pos c_7, bndM_r w_8, if_pos c_9, bndM_r w_10, if_pos c_11, bndM_r w_12, if_pos c_13, bndM_r w_14, if_pos c_15, bndM_r w_16, if_pos c_17, bndM_r w_18, if_pos c_19, bndM_r w_20, if_pos c_21, bndM_r w_22, if_neg c_23, bndM_n z]))) hP hD hK hS hA hC hZ hnt hlocks L_1135 L_1136 L_90 L_1137 k_Mo_expression ⟨(by show _ ≤ fr0 + 13; omega), (by show _ ≤ lo0 + 252; omega)⟩ rfl rfl hl.1 (Nat.le_of_ble_eq_true rfl) d_Mo_primary_185 rfl (fun q z => by unfold f_Mo_primary; rw [bndM_r w_1, bndM_r w_2, if_pos c_3, bndM_r w_4, if_pos c_5, bndM_r w_6, if_pos c_7, bndM_r w_8, if_pos c_9, bndM_r w_10, if_pos c_11, bndM_r w_12, if_pos c_13, bndM_r w_14, if_pos c_15, bndM_r w_16, if_pos c_17, bndM_r w_18, if_pos c_19, bndM_r w_20, if_pos c_21, bndM_r w_22, if_neg c_23, bndM_l z]) (fun r_26 mo_26 H locs w_26 hP hD hS => ?_)
                        refine lv_istore_n (lv' := [(2, .int r_26), (0, .ref hm), (1, .int depth)]) hx hb d_Mo_primary_188 rfl hl (by decide) rfl (fun ls hl => ?_)
                        refine lv_aload_n hx hb d_Mo_primary_189 rfl (lv_at hl 1 rfl) ?_
                        refine lv_bipush (v := 61) hx hb d_Mo_primary_190 (by decide) ?_
                        refine mr_Vv (g := (f_Mo_expect mo_26 61)) (As := [.int 61]) (rest := []) ⟨hx, hb, hml, hown, hts0⟩ (m_Mo_expect l hlt dC dI cI cZ sa rk hm ma mo_26 _ 61 (fun z => hg (by unfold f_Mo_primary; rw [bndM_r w_1, bndM_r w_2, if_pos c_3, bndM_r w_4, if_pos c_5, bndM_r w_6, if_pos c_7, bndM_r w_8, if_pos c_9, bndM_r w_10, if_pos c_11, bndM_r w_12, if_pos c_13, bndM_r w_14, if_pos c_15, bndM_r w_16, if_pos c_17, bndM_r w_18, if_pos c_19, bndM_r w_20, if_pos c_21, bndM_r w_22, if_neg c_23, bndM_r w_26, bndM_n z]))) hP hD hK hS hA hC hZ hnt hlocks L_1111 L_1113 L_68 L_90 L_1114 k_Mo_expect ⟨(by show _ ≤ fr0 + 13; omega), (by show _ ≤ lo0 + 252; omega)⟩ rfl rfl hl.1 (Nat.le_of_ble_eq_true rfl) d_Mo_primary_192 rfl (fun q z => by unfold f_Mo_primary; rw [bndM_r w_1, bndM_r w_2, if_pos c_3, bndM_r w_4, if_pos c_5, bndM_r w_6, if_pos c_7, bndM_r w_8, if_pos c_9, bndM_r w_10, if_pos c_11, bndM_r w_12, if_pos c_13, bndM_r w_14, if_pos c_15, bndM_r w_16, if_pos c_17, bndM_r w_18, if_pos c_19, bndM_r w_20, if_pos c_21, bndM_r w_22, if_neg c_23, bndM_r w_26, bndM_l z]) (fun mo_27 H locs w_27 hP hD hS => ?_)
                        refine lv_iload_n hx hb d_Mo_primary_195 rfl (lv_at hl 0 rfl) ?_
                        exact mr_iret (v := r_26) (mo := mo_27) hx hb hr hlocks hK hP hD hS (by unfold f_Mo_primary; rw [bndM_r w_1, bndM_r w_2, if_pos c_3, bndM_r w_4, if_pos c_5, bndM_r w_6, if_pos c_7, bndM_r w_8, if_pos c_9, bndM_r w_10, if_pos c_11, bndM_r w_12, if_pos c_13, bndM_r w_14, if_pos c_15, bndM_r w_16, if_pos c_17, bndM_r w_18, if_pos c_19, bndM_r w_20, if_pos c_21, bndM_r w_22, if_neg c_23, bndM_r w_26, bndM_r w_27]) d_Mo_primary_196
                    · refine lv_aload_n hx hb d_Mo_primary_155 rfl (lv_at hl 0 rfl) ?_
                      refine lv_iload_n hx hb d_Mo_primary_156 rfl (lv_at hl 1 rfl) ?_
                      refine mr_Si (g := (f_Mo_object K mo_20 depth)) (As := [.ref hm, .int depth]) (rest := []) ⟨hx, hb, hml, hown, hts0⟩ (m_Mo_object l hlt dC dI cI cZ sa rk hm ma fr0 lo0 K hR0 hR1 hR2 hR3 hR4 hR5 hR6 hR7 mo_20 _ depth (fun z => hg (by unfold f_Mo_primary; rw [bndM_r w_1, bndM_r w_2, if_pos c_3, bndM_r w_4, if_pos c_5, bndM_r w_6, if_pos c_7, bndM_r w_8, if_pos c_9, bndM_r w_10, if_pos c_11, bndM_r w_12, if_pos c_13, bndM_r w_14, if_pos c_15, bndM_r w_16, if_pos c_17, bndM_r w_18, if_pos c_19, bndM_r w_20, if_neg c_21, bndM_n z]))) hP hD hK hS hA hC hZ hnt hlocks L_1177 L_1178 L_90 L_1179 k_Mo_object ⟨(by show _ ≤ fr0 + 13; omega), (by show _ ≤ lo0 + 252; omega)⟩ rfl rfl hl.1 (Nat.le_of_ble_eq_true rfl) d_Mo_primary_157 rfl (fun q z => by unfold f_Mo_primary; rw [bndM_r w_1, bndM_r w_2, if_pos c_3, bndM_r w_4, if_pos c_5, bndM_r w_6, if_pos c_7, bndM_r w_8, if_pos c_9, bndM_r w_10, if_pos c_11, bndM_r w_12, if_pos c_13, bndM_r w_14, if_pos c_15, bndM_r w_16, if_pos c_17, bndM_r w_18, if_pos c_19, bndM_r w_20, if_neg c_21, bndM_l z]) (fun r_28 mo_28 H locs w_28 hP hD hS => ?_)
                      exact mr_iret (v := r_28) (mo := mo_28) hx hb hr hlocks hK hP hD hS (by unfold f_Mo_primary; rw [bndM_r w_1, bndM_r w_2, if_pos c_3, bndM_r w_4, if_pos c_5, bndM_r w_6, if_pos c_7, bndM_r w_8, if_pos c_9, bndM_r w_10, if_pos c_11, bndM_r w_12, if_pos c_13, bndM_r w_14, if_pos c_15, bndM_r w_16, if_pos c_17, bndM_r w_18, if_pos c_19, bndM_r w_20, if_neg c_21, bndM_r w_28]) d_Mo_primary_160
                  · refine lv_aload_n hx hb d_Mo_primary_140 rfl (lv_at hl 0 rfl) ?_
                    refine lv_iload_n hx hb d_Mo_primary_141 rfl (lv_at hl 1 rfl) ?_
                    refine mr_Si (g := (f_Mo_array K mo_18 depth)) (As := [.ref hm, .int depth]) (rest := []) ⟨hx, hb, hml, hown, hts0⟩ (m_Mo_array l hlt dC dI cI cZ sa rk hm ma fr0 lo0 K hR0 hR1 hR2 hR3 hR4 hR5 hR6 hR7 mo_18 _ depth (fun z => hg (by unfold f_Mo_primary; rw [bndM_r w_1, bndM_r w_2, if_pos c_3, bndM_r w_4, if_pos c_5, bndM_r w_6, if_pos c_7, bndM_r w_8, if_pos c_9, bndM_r w_10, if_pos c_11, bndM_r w_12, if_pos c_13, bndM_r w_14, if_pos c_15, bndM_r w_16, if_pos c_17, bndM_r w_18, if_neg c_19, bndM_n z]))) hP hD hK hS hA hC hZ hnt hlocks L_1170 L_1171 L_90 L_1172 k_Mo_array ⟨(by show _ ≤ fr0 + 13; omega), (by show _ ≤ lo0 + 252; omega)⟩ rfl rfl hl.1 (Nat.le_of_ble_eq_true rfl) d_Mo_primary_142 rfl (fun q z => by unfold f_Mo_primary; rw [bndM_r w_1, bndM_r w_2, if_pos c_3, bndM_r w_4, if_pos c_5, bndM_r w_6, if_pos c_7, bndM_r w_8, if_pos c_9, bndM_r w_10, if_pos c_11, bndM_r w_12, if_pos c_13, bndM_r w_14, if_pos c_15, bndM_r w_16, if_pos c_17, bndM_r w_18, if_neg c_19, bndM_l z]) (fun r_29 mo_29 H locs w_29 hP hD hS => ?_)
                    exact mr_iret (v := r_29) (mo := mo_29) hx hb hr hlocks hK hP hD hS (by unfold f_Mo_primary; rw [bndM_r w_1, bndM_r w_2, if_pos c_3, bndM_r w_4, if_pos c_5, bndM_r w_6, if_pos c_7, bndM_r w_8, if_pos c_9, bndM_r w_10, if_pos c_11, bndM_r w_12, if_pos c_13, bndM_r w_14, if_pos c_15, bndM_r w_16, if_pos c_17, bndM_r w_18, if_neg c_19, bndM_r w_29]) d_Mo_primary_145
                · refine lv_aload_n hx hb d_Mo_primary_123 rfl (lv_at hl 0 rfl) ?_
                  refine lv_bipush (v := 50) hx hb d_Mo_primary_124 (by decide) ?_
                  refine lv_iload_n hx hb d_Mo_primary_126 rfl (lv_at hl 1 rfl) ?_
                  refine mr_Si (g := (f_Mo_function K mo_16 50 depth)) (As := [.ref hm, .int 50, .int depth]) (rest := []) ⟨hx, hb, hml, hown, hts0⟩ (m_Mo_function l hlt dC dI cI cZ sa rk hm ma fr0 lo0 K hR0 hR1 hR2 hR3 hR4 hR5 hR6 hR7 mo_16 _ 50 depth (fun z => hg (by unfold f_Mo_primary; rw [bndM_r w_1, bndM_r w_2, if_pos c_3, bndM_r w_4, if_pos c_5, bndM_r w_6, if_pos c_7, bndM_r w_8, if_pos c_9, bndM_r w_10, if_pos c_11, bndM_r w_12, if_pos c_13, bndM_r w_14, if_pos c_15, bndM_r w_16, if_neg c_17, bndM_n z]))) hP hD hK hS hA hC hZ hnt hlocks L_1096 L_1097 L_90 L_1098 k_Mo_function ⟨(by show _ ≤ fr0 + 13; omega), (by show _ ≤ lo0 + 252; omega)⟩ rfl rfl hl.1 (Nat.le_of_ble_eq_true rfl) d_Mo_primary_127 rfl (fun q z => by unfold f_Mo_primary; rw [bndM_r w_1, bndM_r w_2, if_pos c_3, bndM_r w_4, if_pos c_5, bndM_r w_6, if_pos c_7, bndM_r w_8, if_pos c_9, bndM_r w_10, if_pos c_11, bndM_r w_12, if_pos c_13, bndM_r w_14, if_pos c_15, bndM_r w_16, if_neg c_17, bndM_l z]) (fun r_30 mo_30 H locs w_30 hP hD hS => ?_)
                  exact mr_iret (v := r_30) (mo := mo_30) hx hb hr hlocks hK hP hD hS (by unfold f_Mo_primary; rw [bndM_r w_1, bndM_r w_2, if_pos c_3, bndM_r w_4, if_pos c_5, bndM_r w_6, if_pos c_7, bndM_r w_8, if_pos c_9, bndM_r w_10, if_pos c_11, bndM_r w_12, if_pos c_13, bndM_r w_14, if_pos c_15, bndM_r w_16, if_neg c_17, bndM_r w_30]) d_Mo_primary_130
              · refine lv_aload_n hx hb d_Mo_primary_107 rfl (lv_at hl 0 rfl) ?_
                refine lv_bipush (v := 34) hx hb d_Mo_primary_108 (by decide) ?_
                refine mr_Vi (g := (f_Mo_plain mo_14 34)) (As := [.int 34]) (rest := []) ⟨hx, hb, hml, hown, hts0⟩ (m_Mo_plain l hlt dC dI cI cZ sa rk hm ma mo_14 _ 34 (fun z => hg (by unfold f_Mo_primary; rw [bndM_r w_1, bndM_r w_2, if_pos c_3, bndM_r w_4, if_pos c_5, bndM_r w_6, if_pos c_7, bndM_r w_8, if_pos c_9, bndM_r w_10, if_pos c_11, bndM_r w_12, if_pos c_13, bndM_r w_14, if_neg c_15, bndM_n z]))) hP hD hK hS hA hC hZ hnt hlocks L_1128 L_1130 L_70 L_90 L_1131 k_Mo_plain ⟨(by show _ ≤ fr0 + 13; omega), (by show _ ≤ lo0 + 252; omega)⟩ rfl rfl hl.1 (Nat.le_of_ble_eq_true rfl) d_Mo_primary_110 rfl (fun q z => by unfold f_Mo_primary; rw [bndM_r w_1, bndM_r w_2, if_pos c_3, bndM_r w_4, if_pos c_5, bndM_r w_6, if_pos c_7, bndM_r w_8, if_pos c_9, bndM_r w_10, if_pos c_11, bndM_r w_12, if_pos c_13, bndM_r w_14, if_neg c_15, bndM_l z]) (fun r_31 mo_31 H locs w_31 hP hD hS => ?_)
                exact mr_iret (v := r_31) (mo := mo_31) hx hb hr hlocks hK hP hD hS (by unfold f_Mo_primary; rw [bndM_r w_1, bndM_r w_2, if_pos c_3, bndM_r w_4, if_pos c_5, bndM_r w_6, if_pos c_7, bndM_r w_8, if_pos c_9, bndM_r w_10, if_pos c_11, bndM_r w_12, if_pos c_13, bndM_r w_14, if_neg c_15, bndM_r w_31]) d_Mo_primary_113
            · refine lv_aload_n hx hb d_Mo_primary_91 rfl (lv_at hl 0 rfl) ?_
              refine lv_bipush (v := 33) hx hb d_Mo_primary_92 (by decide) ?_
              refine mr_Vi (g := (f_Mo_plain mo_12 33)) (As := [.int 33]) (rest := []) ⟨hx, hb, hml, hown, hts0⟩ (m_Mo_plain l hlt dC dI cI cZ sa rk hm ma mo_12 _ 33 (fun z => hg (by unfold f_Mo_primary; rw [bndM_r w_1, bndM_r w_2, if_pos c_3, bndM_r w_4, if_pos c_5, bndM_r w_6, if_pos c_7, bndM_r w_8, if_pos c_9, bndM_r w_10, if_pos c_11, bndM_r w_12, if_neg c_13, bndM_n z]))) hP hD hK hS hA hC hZ hnt hlocks L_1128 L_1130 L_70 L_90 L_1131 k_Mo_plain ⟨(by show _ ≤ fr0 + 13; omega), (by show _ ≤ lo0 + 252; omega)⟩ rfl rfl hl.1 (Nat.le_of_ble_eq_true rfl) d_Mo_primary_94 rfl (fun q z => by unfold f_Mo_primary; rw [bndM_r w_1, bndM_r w_2, if_pos c_3, bndM_r w_4, if_pos c_5, bndM_r w_6, if_pos c_7, bndM_r w_8, if_pos c_9, bndM_r w_10, if_pos c_11, bndM_r w_12, if_neg c_13, bndM_l z]) (fun r_32 mo_32 H locs w_32 hP hD hS => ?_)
              exact mr_iret (v := r_32) (mo := mo_32) hx hb hr hlocks hK hP hD hS (by unfold f_Mo_primary; rw [bndM_r w_1, bndM_r w_2, if_pos c_3, bndM_r w_4, if_pos c_5, bndM_r w_6, if_pos c_7, bndM_r w_8, if_pos c_9, bndM_r w_10, if_pos c_11, bndM_r w_12, if_neg c_13, bndM_r w_32]) d_Mo_primary_97
          · refine lv_aload_n hx hb d_Mo_primary_75 rfl (lv_at hl 0 rfl) ?_
            refine lv_bipush (v := 32) hx hb d_Mo_primary_76 (by decide) ?_
            refine mr_Vi (g := (f_Mo_plain mo_10 32)) (As := [.int 32]) (rest := []) ⟨hx, hb, hml, hown, hts0⟩ (m_Mo_plain l hlt dC dI cI cZ sa rk hm ma mo_10 _ 32 (fun z => hg (by unfold f_Mo_primary; rw [bndM_r w_1, bndM_r w_2, if_pos c_3, bndM_r w_4, if_pos c_5, bndM_r w_6, if_pos c_7, bndM_r w_8, if_pos c_9, bndM_r w_10, if_neg c_11, bndM_n z]))) hP hD hK hS hA hC hZ hnt hlocks L_1128 L_1130 L_70 L_90 L_1131 k_Mo_plain ⟨(by show _ ≤ fr0 + 13; omega), (by show _ ≤ lo0 + 252; omega)⟩ rfl rfl hl.1 (Nat.le_of_ble_eq_true rfl) d_Mo_primary_78 rfl (fun q z => by unfold f_Mo_primary; rw [bndM_r w_1, bndM_r w_2, if_pos c_3, bndM_r w_4, if_pos c_5, bndM_r w_6, if_pos c_7, bndM_r w_8, if_pos c_9, bndM_r w_10, if_neg c_11, bndM_l z]) (fun r_33 mo_33 H locs w_33 hP hD hS => ?_)
            exact mr_iret (v := r_33) (mo := mo_33) hx hb hr hlocks hK hP hD hS (by unfold f_Mo_primary; rw [bndM_r w_1, bndM_r w_2, if_pos c_3, bndM_r w_4, if_pos c_5, bndM_r w_6, if_pos c_7, bndM_r w_8, if_pos c_9, bndM_r w_10, if_neg c_11, bndM_r w_33]) d_Mo_primary_81
        · refine lv_aload_n hx hb d_Mo_primary_59 rfl (lv_at hl 0 rfl) ?_
          refine lv_bipush (v := 27) hx hb d_Mo_primary_60 (by decide) ?_
          refine mr_Vi (g := (f_Mo_plain mo_8 27)) (As := [.int 27]) (rest := []) ⟨hx, hb, hml, hown, hts0⟩ (m_Mo_plain l hlt dC dI cI cZ sa rk hm ma mo_8 _ 27 (fun z => hg (by unfold f_Mo_primary; rw [bndM_r w_1, bndM_r w_2, if_pos c_3, bndM_r w_4, if_pos c_5, bndM_r w_6, if_pos c_7, bndM_r w_8, if_neg c_9, bndM_n z]))) hP hD hK hS hA hC hZ hnt hlocks L_1128 L_1130 L_70 L_90 L_1131 k_Mo_plain ⟨(by show _ ≤ fr0 + 13; omega), (by show _ ≤ lo0 + 252; omega)⟩ rfl rfl hl.1 (Nat.le_of_ble_eq_true rfl) d_Mo_primary_62 rfl (fun q z => by unfold f_Mo_primary; rw [bndM_r w_1, bndM_r w_2, if_pos c_3, bndM_r w_4, if_pos c_5, bndM_r w_6, if_pos c_7, bndM_r w_8, if_neg c_9, bndM_l z]) (fun r_34 mo_34 H locs w_34 hP hD hS => ?_)
          exact mr_iret (v := r_34) (mo := mo_34) hx hb hr hlocks hK hP hD hS (by unfold f_Mo_primary; rw [bndM_r w_1, bndM_r w_2, if_pos c_3, bndM_r w_4, if_pos c_5, bndM_r w_6, if_pos c_7, bndM_r w_8, if_neg c_9, bndM_r w_34]) d_Mo_primary_65
      · refine lv_aload_n hx hb d_Mo_primary_43 rfl (lv_at hl 0 rfl) ?_
        refine lv_bipush (v := 31) hx hb d_Mo_primary_44 (by decide) ?_
        refine mr_Vi (g := (f_Mo_literal mo_6 31)) (As := [.int 31]) (rest := []) ⟨hx, hb, hml, hown, hts0⟩ (m_Mo_literal l hlt dC dI cI cZ sa rk hm ma mo_6 _ 31 (fun z => hg (by unfold f_Mo_primary; rw [bndM_r w_1, bndM_r w_2, if_pos c_3, bndM_r w_4, if_pos c_5, bndM_r w_6, if_neg c_7, bndM_n z]))) hP hD hK hS hA hC hZ hnt hlocks L_1166 L_1168 L_72 L_90 L_1169 k_Mo_literal ⟨(by show _ ≤ fr0 + 13; omega), (by show _ ≤ lo0 + 252; omega)⟩ rfl rfl hl.1 (Nat.le_of_ble_eq_true rfl) d_Mo_primary_46 rfl (fun q z => by unfold f_Mo_primary; rw [bndM_r w_1, bndM_r w_2, if_pos c_3, bndM_r w_4, if_pos c_5, bndM_r w_6, if_neg c_7, bndM_l z]) (fun r_35 mo_35 H locs w_35 hP hD hS => ?_)
        exact mr_iret (v := r_35) (mo := mo_35) hx hb hr hlocks hK hP hD hS (by unfold f_Mo_primary; rw [bndM_r w_1, bndM_r w_2, if_pos c_3, bndM_r w_4, if_pos c_5, bndM_r w_6, if_neg c_7, bndM_r w_35]) d_Mo_primary_49
    · refine lv_aload_n hx hb d_Mo_primary_28 rfl (lv_at hl 0 rfl) ?_
      refine lv_bipush (v := 30) hx hb d_Mo_primary_29 (by decide) ?_
      refine mr_Vi (g := (f_Mo_literal mo_4 30)) (As := [.int 30]) (rest := []) ⟨hx, hb, hml, hown, hts0⟩ (m_Mo_literal l hlt dC dI cI cZ sa rk hm ma mo_4 _ 30 (fun z => hg (by unfold f_Mo_primary; rw [bndM_r w_1, bndM_r w_2, if_pos c_3, bndM_r w_4, if_neg c_5, bndM_n z]))) hP hD hK hS hA hC hZ hnt hlocks L_1166 L_1168 L_72 L_90 L_1169 k_Mo_literal ⟨(by show _ ≤ fr0 + 13; omega), (by show _ ≤ lo0 + 252; omega)⟩ rfl rfl hl.1 (Nat.le_of_ble_eq_true rfl) d_Mo_primary_31 rfl (fun q z => by unfold f_Mo_primary; rw [bndM_r w_1, bndM_r w_2, if_pos c_3, bndM_r w_4, if_neg c_5, bndM_l z]) (fun r_36 mo_36 H locs w_36 hP hD hS => ?_)
      exact mr_iret (v := r_36) (mo := mo_36) hx hb hr hlocks hK hP hD hS (by unfold f_Mo_primary; rw [bndM_r w_1, bndM_r w_2, if_pos c_3, bndM_r w_4, if_neg c_5, bndM_r w_36]) d_Mo_primary_34
  · refine lv_aload_n hx hb d_Mo_primary_13 rfl (lv_at hl 0 rfl) ?_
    refine lv_bipush (v := 29) hx hb d_Mo_primary_14 (by decide) ?_
    refine mr_Vi (g := (f_Mo_literal mo_2 29)) (As := [.int 29]) (rest := []) ⟨hx, hb, hml, hown, hts0⟩ (m_Mo_literal l hlt dC dI cI cZ sa rk hm ma mo_2 _ 29 (fun z => hg (by unfold f_Mo_primary; rw [bndM_r w_1, bndM_r w_2, if_neg c_3, bndM_n z]))) hP hD hK hS hA hC hZ hnt hlocks L_1166 L_1168 L_72 L_90 L_1169 k_Mo_literal ⟨(by show _ ≤ fr0 + 13; omega), (by show _ ≤ lo0 + 252; omega)⟩ rfl rfl hl.1 (Nat.le_of_ble_eq_true rfl) d_Mo_primary_16 rfl (fun q z => by unfold f_Mo_primary; rw [bndM_r w_1, bndM_r w_2, if_neg c_3, bndM_l z]) (fun r_37 mo_37 H locs w_37 hP hD hS => ?_)
    exact mr_iret (v := r_37) (mo := mo_37) hx hb hr hlocks hK hP hD hS (by unfold f_Mo_primary; rw [bndM_r w_1, bndM_r w_2, if_neg c_3, bndM_r w_37]) d_Mo_primary_19
def f_Mo_member_L26 (K : Nat → List Int32 → MO → Rm) (depth : Int32) (calls : Int32) : Nat → Int32 → Int32 → MO → Rm
  | 0, _, _, _ => none
  | fu_4 + 1, x3, x4, sx_4 => (if x4 = 0 then (some (.inr (x3, sx_4))) else (bndM (f_Mo_isSign sx_4 66) (fun r_6 mo_6 => (if r_6 = 0 then (bndM (f_Mo_isSign mo_6 62) (fun r_8 mo_8 => (if r_8 = 0 then (if calls = 0 then (f_Mo_member_L26 K depth calls fu_4 x3 0 mo_8) else (bndM (f_Mo_isSign mo_8 60) (fun r_11 mo_11 => (if r_11 = 0 then (f_Mo_member_L26 K depth calls fu_4 x3 0 mo_11) else (bndM (f_Mo_make mo_11 38 0 (q_at mo_11)) (fun r_13 mo_13 => (bndM (f_Mo_hang mo_13 r_13 x3) (fun _ mo_14 => (bndM (f_Mo_arguments K mo_14 r_13 depth) (fun _ mo_15 => (f_Mo_member_L26 K depth calls fu_4 r_13 x4 mo_15))))))))))) else (bndM (f_Mo_make mo_8 37 0 (q_at mo_8)) (fun r_16 mo_16 => (bndM (f_Mo_hang (s_at mo_16 ((q_at mo_16) + 1)) r_16 x3) (fun _ mo_17 => (bndM (K 0 [(depth + 1), 1] mo_17) (fun r_18 mo_18 => (bndM (f_Mo_hang mo_18 r_16 r_18) (fun _ mo_19 => (bndM (f_Mo_expect mo_19 63) (fun _ mo_20 => (f_Mo_member_L26 K depth calls fu_4 r_16 x4 mo_20)))))))))))))) else (bndM (f_Mo_make mo_6 36 0 (q_at mo_6)) (fun r_21 mo_21 => (bndM (f_Mo_isKind (s_at mo_21 ((q_at mo_21) + 1)) 1) (fun r_22 mo_22 => (if r_22 = 0 then (bndM (f_Mo_refuse mo_22 (q_at mo_22)) (fun _ mo_27 => (if inb (q_at mo_27) 1001 then (if inb r_21 2600 then (bndM (f_Mo_hang (s_at (s_value mo_27 (upd (q_value mo_27) (r_21 : Int32).toNatClampNeg ((q_names mo_27) ((q_at mo_27) : Int32).toNatClampNeg))) ((q_at mo_27) + 1)) r_21 x3) (fun _ mo_30 => (f_Mo_member_L26 K depth calls fu_4 r_21 x4 mo_30))) else none) else none))) else (if inb (q_at mo_22) 1001 then (if inb r_21 2600 then (bndM (f_Mo_hang (s_at (s_value mo_22 (upd (q_value mo_22) (r_21 : Int32).toNatClampNeg ((q_names mo_22) ((q_at mo_22) : Int32).toNatClampNeg))) ((q_at mo_22) + 1)) r_21 x3) (fun _ mo_26 => (f_Mo_member_L26 K depth calls fu_4 r_21 x4 mo_26))) else none) else none))))))))))
def f_Mo_member (K : Nat → List Int32 → MO → Rm) (mo : MO) (depth : Int32) (calls : Int32) : Rm := (bndM (f_Mo_isWord mo 15) (fun r_1 mo_1 => (if r_1 = 0 then (bndM (f_Mo_primary K mo_1 depth) (fun r_3 mo_3 => (bndM (f_Mo_member_L26 K depth calls 5000 r_3 1 mo_3) (fun rv_4 se_4 => (some (.inr (rv_4, se_4))))))) else (bndM (f_Mo_newOne K mo_1 depth) (fun r_31 mo_31 => (bndM (f_Mo_member_L26 K depth calls 5000 r_31 1 mo_31) (fun rv_32 se_32 => (some (.inr (rv_32, se_32))))))))))
set_option maxRecDepth 100000 in
set_option maxHeartbeats 4000000 in
theorem m_Mo_member (l : Launch) (hlt : l.stackTraces = false) (dC : Nat → ClassId) (dI : Nat → Nat → Nat) (cI cZ : ClassId) (sa rk hm : Nat) (ma : Nat → Nat) (fr0 lo0 : Nat) (K : Nat → List Int32 → MO → Rm) (hR0 : ∀ (mo : MO) (sz : Nat) (p0 p1 : Int32), K 0 [p0, p1] mo ≠ none → cXi l y_Mo_expression c_Mo_expression 5 .int fr0 lo0 (dC, dI) cI cZ sa rk hm ma mo sz [.ref hm, .int p0, .int p1] (K 0 [p0, p1] mo)) (hR1 : ∀ (mo : MO) (sz : Nat) (p0 p1 : Int32), K 1 [p0, p1] mo ≠ none → cXi l y_Mo_assignment c_Mo_assignment 5 .int fr0 lo0 (dC, dI) cI cZ sa rk hm ma mo sz [.ref hm, .int p0, .int p1] (K 1 [p0, p1] mo)) (hR2 : ∀ (mo : MO) (sz : Nat) (p0 p1 p2 : Int32), K 2 [p0, p1, p2] mo ≠ none → cXi l y_Mo_binary c_Mo_binary 7 .int fr0 lo0 (dC, dI) cI cZ sa rk hm ma mo sz [.ref hm, .int p0, .int p1, .int p2] (K 2 [p0, p1, p2] mo)) (hR3 : ∀ (mo : MO) (sz : Nat) (p0 : Int32), K 3 [p0] mo ≠ none → cXi l y_Mo_unary c_Mo_unary 5 .int fr0 lo0 (dC, dI) cI cZ sa rk hm ma mo sz [.ref hm, .int p0] (K 3 [p0] mo)) (hR4 : ∀ (mo : MO) (sz : Nat) (p0 p1 : Int32), K 4 [p0, p1] mo ≠ none → cXi l y_Mo_member c_Mo_member 6 .int fr0 lo0 (dC, dI) cI cZ sa rk hm ma mo sz [.ref hm, .int p0, .int p1] (K 4 [p0, p1] mo)) (hR5 : ∀ (mo : MO) (sz : Nat) (p0 p1 : Int32), K 5 [p0, p1] mo ≠ none → cXi l y_Mo_statement c_Mo_statement 3 .int fr0 lo0 (dC, dI) cI cZ sa rk hm ma mo sz [.ref hm, .int p0, .int p1] (K 5 [p0, p1] mo)) (hR6 : ∀ (mo : MO) (sz : Nat) (p0 p1 p2 : Int32), K 6 [p0, p1, p2] mo ≠ none → cXv l y_Mo_statements c_Mo_statements 8 fr0 lo0 (dC, dI) cI cZ sa rk hm ma mo sz [.ref hm, .int p0, .int p1, .int p2] (K 6 [p0, p1, p2] mo)) (hR7 : ∀ (mo : MO) (sz : Nat) (p0 : Int32), K 7 [p0] mo ≠ none → cXi l y_Mo_block c_Mo_block 4 .int fr0 lo0 (dC, dI) cI cZ sa rk hm ma mo sz [.ref hm, .int p0] (K 7 [p0] mo)) (mo : MO) (sz : Nat) (depth : Int32) (calls : Int32) (hg : (f_Mo_member K mo depth calls) ≠ none) : cXi l y_Mo_member c_Mo_member 6 .int (fr0 + 14) (lo0 + 274) (dC, dI) cI cZ sa rk hm ma mo sz [.ref hm, .int depth, .int calls] (f_Mo_member K mo depth calls) := by
  refine vx_ofW (cc := c_Mo_member) (maxL := 6) (ret := (some .int)) (by decide) rfl ?_
  intro p e s m args below meth c s₁ B hml hnt hv
  obtain ⟨rfl, hsz, hP, hK, hD0, hC, hZ⟩ := hv
  have hx := B.exec
  have hb := B.bytes
  have hr := B.returns
  have hts0 := atoms_spec (ws := wy y_Mo_member c_Mo_member 6 (some .int)) B.pre
  have hts := htsL hts0
  have hown : s.vm.findClass R_Mo = some m.cls := findClass_of_methodNamed B.named
  have hlocks := B.notSynchronized
  subst hsz
  have hD := hD0.self (sz := s.heap.size)
  generalize hAe : va_A (wM cI cZ hm ma mo) s.heap.size = A at hD hZ ⊢
  have hA : ∀ q : Nat, s.heap.size ≤ q → A q := fun q h => by rw [← hAe]; exact Or.inr h
  have hS : va_S A s.heap s.heap [] := va_S.rf
  have hl := lv_entry ([.ref hm, .int depth, .int calls]) (n := 6) (Nat.le_of_ble_eq_true rfl)
  rw [lg_entry_eq]
  generalize (lg_sl ([.ref hm, .int depth, .int calls]) ++ List.replicate (6 - (lg_sl ([.ref hm, .int depth, .int calls])).length) Slot.unset).toArray = ls at hl ⊢
  have hl : lv_has ls 6 [(0, .ref hm), (1, .int depth), (2, .int calls)] := hl
  refine lv_aload_n hx hb d_Mo_member_0 rfl (lv_at hl 0 rfl) ?_
  refine lv_bipush (v := 15) hx hb d_Mo_member_1 (by decide) ?_
  refine mr_Vi (g := (f_Mo_isWord mo 15)) (As := [.int 15]) (rest := []) ⟨hx, hb, hml, hown, hts0⟩ (m_Mo_isWord l hlt dC dI cI cZ sa rk hm ma mo _ 15 (fun z => hg (by unfold f_Mo_member; rw [bndM_n z]))) hP hD hK hS hA hC hZ hnt hlocks L_1061 L_1063 L_62 L_90 L_1064 k_Mo_isWord ⟨(by show _ ≤ fr0 + 14; omega), (by show _ ≤ lo0 + 274; omega)⟩ rfl rfl hl.1 (Nat.le_of_ble_eq_true rfl) d_Mo_member_3 rfl (fun q z => by unfold f_Mo_member; rw [bndM_l z]) (fun r_1 mo_1 H locs w_1 hP hD hS => ?_)
  refine lv_if_eq (tgt := 17) hx hb d_Mo_member_6 (by decide) (fun c_2 => ?_) (fun c_2 => ?_)
  · refine lv_aload_n hx hb d_Mo_member_17 rfl (lv_at hl 0 rfl) ?_
    refine lv_iload_n hx hb d_Mo_member_18 rfl (lv_at hl 1 rfl) ?_
    refine mr_Si (g := (f_Mo_primary K mo_1 depth)) (As := [.ref hm, .int depth]) (rest := []) ⟨hx, hb, hml, hown, hts0⟩ (m_Mo_primary l hlt dC dI cI cZ sa rk hm ma fr0 lo0 K hR0 hR1 hR2 hR3 hR4 hR5 hR6 hR7 mo_1 _ depth (fun z => hg (by unfold f_Mo_member; rw [bndM_r w_1, if_pos c_2, bndM_n z]))) hP hD hK hS hA hC hZ hnt hlocks L_1163 L_1164 L_90 L_1165 k_Mo_primary ⟨(by show _ ≤ fr0 + 14; omega), (by show _ ≤ lo0 + 274; omega)⟩ rfl rfl hl.1 (Nat.le_of_ble_eq_true rfl) d_Mo_member_19 rfl (fun q z => by unfold f_Mo_member; rw [bndM_r w_1, if_pos c_2, bndM_l z]) (fun r_3 mo_3 H locs w_3 hP hD hS => ?_)
    refine lv_istore_n (lv' := [(3, .int r_3), (0, .ref hm), (1, .int depth), (2, .int calls)]) hx hb d_Mo_member_22 rfl hl (by decide) rfl (fun ls hl => ?_)
    refine lv_iconst (v := 1) hx hb d_Mo_member_23 (by decide) ?_
    refine lv_istore (lv' := [(4, .int 1), (3, .int r_3), (0, .ref hm), (1, .int depth), (2, .int calls)]) hx hb d_Mo_member_24 hl (by decide) rfl (fun ls hl => ?_)
    obtain ⟨x_4, hx_4⟩ : ∃ z, f_Mo_member_L26 K depth calls 5000 r_3 1 mo_3 = z := ⟨_, rfl⟩
    have hn_4 : x_4 ≠ none := (fun z => hg (by unfold f_Mo_member; rw [bndM_r w_1, if_pos c_2, bndM_r w_3, bndM_n (hx_4.trans z)]))
    have hX_4 : ∀ q, x_4 = some (.inl q) → (f_Mo_member K mo depth calls) = some (.inl q) := (fun q z => by unfold f_Mo_member; rw [bndM_r w_1, if_pos c_2, bndM_r w_3, bndM_l (hx_4.trans z)])
    have lp_4 : ∀ (fu : Nat) (x3 x4 : Int32) (sx_4 : MO) (H : Heap) (locs : List Loc) (ls : Array Slot), va_P (dC, dI) cls (wM cI cZ hm ma sx_4) H → va_D A (wM cI cZ hm ma sx_4) → va_S A s.heap H locs → lv_has ls 6 [(0, .ref hm), (1, .int depth), (2, .int calls), (3, .int x3), (4, .int x4)] → x_4 = f_Mo_member_L26 K depth calls fu x3 x4 sx_4 → W p l e (headSpec (wy y_Mo_member c_Mo_member 6 (some .int)) { frames := (fr0 + 14), cells := 1, slots := 6, locals := (lo0 + 274) }).room s m [.ref hm, .int depth, .int calls].toArray below meth c H locs 0 0 (vx_MQ below (va_Qi (fun r (u : MO) => (f_Mo_member K mo depth calls) = some (.inr (r, u))) (wB (dC, dI) cI cZ A (wM cI cZ hm ma)) A) (xM (dC, dI) cI cZ hm ma (f_Mo_member K mo depth calls) A) [.ref hm, .int depth, .int calls].toArray s (mcM (f_Mo_member K mo depth calls)) (msM (f_Mo_member K mo depth calls)) A) (F0 m 26 ls []) := by
      intro fu
      induction fu with
      | zero => intro x3 x4 sx_4 H locs ls hP hD hS hl hL_4; exact absurd (hL_4.trans rfl) hn_4
      | succ fu_4 ih_4 =>
        intro x3 x4 sx_4 H locs ls hP hD hS hl hL_4
        rw [f_Mo_member_L26] at hL_4
        refine lv_iload hx hb d_Mo_member_26 (lv_at hl 4 rfl) ?_
        refine lv_if_eq (tgt := 235) hx hb d_Mo_member_28 (by decide) (fun c_5 => ?_) (fun c_5 => ?_)
        · rw [if_pos c_5] at hL_4
          obtain ⟨se_4, hse_4⟩ : ∃ z : MO, z = sx_4 := ⟨_, rfl⟩
          have hP : va_P (dC, dI) cls (wM cI cZ hm ma se_4) H := by rw [hse_4]; exact hP
          have hD : va_D A (wM cI cZ hm ma se_4) := by rw [hse_4]; exact hD
          obtain ⟨rv_4, hrv_4⟩ : ∃ z : Int32, z = x3 := ⟨_, rfl⟩
          have we_4 : f_Mo_member_L26 K depth calls 5000 r_3 1 mo_3 = some (.inr (rv_4, se_4)) := by rw [hrv_4, hse_4]; exact hx_4.trans hL_4
          have hl : lv_has ls 6 [(0, .ref hm), (1, .int depth), (2, .int calls), (3, .int rv_4)] := by rw [hrv_4]; exact lv_sub hl [0, 1, 2, 3] rfl
          refine lv_iload_n hx hb d_Mo_member_235 rfl (lv_at hl 3 rfl) ?_
          exact mr_iret (v := rv_4) (mo := se_4) hx hb hr hlocks hK hP hD hS (by unfold f_Mo_member; rw [bndM_r w_1, if_pos c_2, bndM_r w_3, bndM_r we_4]) d_Mo_member_236
        · rw [if_neg c_5] at hL_4
          refine lv_aload_n hx hb d_Mo_member_31 rfl (lv_at hl 0 rfl) ?_
          refine lv_bipush (v := 66) hx hb d_Mo_member_32 (by decide) ?_
          refine mr_Vi (g := (f_Mo_isSign sx_4 66)) (As := [.int 66]) (rest := []) ⟨hx, hb, hml, hown, hts0⟩ (m_Mo_isSign l hlt dC dI cI cZ sa rk hm ma sx_4 _ 66 (fun z => hn_4 (hL_4.trans (bndM_n z)))) hP hD hK hS hA hC hZ hnt hlocks L_1053 L_1055 L_60 L_90 L_1056 k_Mo_isSign ⟨(by show _ ≤ fr0 + 14; omega), (by show _ ≤ lo0 + 274; omega)⟩ rfl rfl hl.1 (Nat.le_of_ble_eq_true rfl) d_Mo_member_34 rfl (fun q z => hX_4 q (hL_4.trans (bndM_l z))) (fun r_6 mo_6 H locs w_6 hP hD hS => ?_)
          rw [bndM_r w_6] at hL_4
          refine lv_if_eq (tgt := 118) hx hb d_Mo_member_37 (by decide) (fun c_7 => ?_) (fun c_7 => ?_)
          · rw [if_pos c_7] at hL_4
            refine lv_aload_n hx hb d_Mo_member_118 rfl (lv_at hl 0 rfl) ?_
            refine lv_bipush (v := 62) hx hb d_Mo_member_119 (by decide) ?_
            refine mr_Vi (g := (f_Mo_isSign mo_6 62)) (As := [.int 62]) (rest := []) ⟨hx, hb, hml, hown, hts0⟩ (m_Mo_isSign l hlt dC dI cI cZ sa rk hm ma mo_6 _ 62 (fun z => hn_4 (hL_4.trans (bndM_n z)))) hP hD hK hS hA hC hZ hnt hlocks L_1053 L_1055 L_60 L_90 L_1056 k_Mo_isSign ⟨(by show _ ≤ fr0 + 14; omega), (by show _ ≤ lo0 + 274; omega)⟩ rfl rfl hl.1 (Nat.le_of_ble_eq_true rfl) d_Mo_member_121 rfl (fun q z => hX_4 q (hL_4.trans (bndM_l z))) (fun r_8 mo_8 H locs w_8 hP hD hS => ?_)
            rw [bndM_r w_8] at hL_4
            refine lv_if_eq (tgt := 183) hx hb d_Mo_member_124 (by decide) (fun c_9 => ?_) (fun c_9 => ?_)
            · rw [if_pos c_9] at hL_4
              refine lv_iload_n hx hb d_Mo_member_183 rfl (lv_at hl 2 rfl) ?_
              refine lv_if_eq (tgt := 229) hx hb d_Mo_member_184 (by decide) (fun c_10 => ?_) (fun c_10 => ?_)
              · rw [if_pos c_10] at hL_4
                refine lv_iconst (v := 0) hx hb d_Mo_member_229 (by decide) ?_
                refine lv_istore (lv' := [(4, .int 0), (0, .ref hm), (1, .int depth), (2, .int calls), (3, .int x3)]) hx hb d_Mo_member_230 hl (by decide) rfl (fun ls hl => ?_)
                refine lv_goto (tgt := 26) hx hb d_Mo_member_232 (by decide) ?_
                exact ih_4 x3 0 mo_8 _ _ ls hP hD hS (lv_sub hl [1, 2, 3, 4, 0] rfl) hL_4
              · rw [if_neg c_10] at hL_4
                refine lv_aload_n hx hb d_Mo_member_187 rfl (lv_at hl 0 rfl) ?_
                refine lv_bipush (v := 60) hx hb d_Mo_member_188 (by decide) ?_
                refine mr_Vi (g := (f_Mo_isSign mo_8 60)) (As := [.int 60]) (rest := []) ⟨hx, hb, hml, hown, hts0⟩ (m_Mo_isSign l hlt dC dI cI cZ sa rk hm ma mo_8 _ 60 (fun z => hn_4 (hL_4.trans (bndM_n z)))) hP hD hK hS hA hC hZ hnt hlocks L_1053 L_1055 L_60 L_90 L_1056 k_Mo_isSign ⟨(by show _ ≤ fr0 + 14; omega), (by show _ ≤ lo0 + 274; omega)⟩ rfl rfl hl.1 (Nat.le_of_ble_eq_true rfl) d_Mo_member_190 rfl (fun q z => hX_4 q (hL_4.trans (bndM_l z))) (fun r_11 mo_11 H locs w_11 hP hD hS => ?_)
                rw [bndM_r w_11] at hL_4
                refine lv_if_eq (tgt := 229) hx hb d_Mo_member_193 (by decide) (fun c_12 => ?_) (fun c_12 => ?_)
                · rw [if_pos c_12] at hL_4
                  refine lv_iconst (v := 0) hx hb d_Mo_member_229 (by decide) ?_
                  refine lv_istore (lv' := [(4, .int 0), (0, .ref hm), (1, .int depth), (2, .int calls), (3, .int x3)]) hx hb d_Mo_member_230 hl (by decide) rfl (fun ls hl => ?_)
                  refine lv_goto (tgt := 26) hx hb d_Mo_member_232 (by decide) ?_
                  exact ih_4 x3 0 mo_11 _ _ ls hP hD hS (lv_sub hl [1, 2, 3, 4, 0] rfl) hL_4
                · rw [if_neg c_12] at hL_4
                  refine lv_aload_n hx hb d_Mo_member_196 rfl (lv_at hl 0 rfl) ?_
                  refine lv_bipush (v := 38) hx hb d_Mo_member_197 (by decide) ?_
                  refine lv_iconst (v := 0) hx hb d_Mo_member_199 (by decide) ?_
                  refine lv_aload_n hx hb d_Mo_member_200 rfl (lv_at hl 0 rfl) ?_
                  refine va_get (D := (dC, dI)) (ci := 6) (v := .int (q_at mo_11)) (C := R_Mo) (T := T_Mo) (N := 31) hx hb hts u_Mo hown hK hP 0 rfl rfl 6 (by decide) (hts _ L_927) (fun _ h9 => h9) rfl d_Mo_member_201 ?_
                  refine mr_Vi (g := (f_Mo_make mo_11 38 0 (q_at mo_11))) (As := [.int 38, .int 0, .int (q_at mo_11)]) (rest := []) ⟨hx, hb, hml, hown, hts0⟩ (m_Mo_make l hlt dC dI cI cZ sa rk hm ma mo_11 _ 38 0 (q_at mo_11) (fun z => hn_4 (hL_4.trans (bndM_n z)))) hP hD hK hS hA hC hZ hnt hlocks L_1046 L_1048 L_59 L_90 L_1049 k_Mo_make ⟨(by show _ ≤ fr0 + 14; omega), (by show _ ≤ lo0 + 274; omega)⟩ rfl rfl hl.1 (Nat.le_of_ble_eq_true rfl) d_Mo_member_204 rfl (fun q z => hX_4 q (hL_4.trans (bndM_l z))) (fun r_13 mo_13 H locs w_13 hP hD hS => ?_)
                  rw [bndM_r w_13] at hL_4
                  refine lv_istore (lv' := [(5, .int r_13), (0, .ref hm), (1, .int depth), (2, .int calls), (3, .int x3), (4, .int x4)]) hx hb d_Mo_member_207 hl (by decide) rfl (fun ls hl => ?_)
                  refine lv_aload_n hx hb d_Mo_member_209 rfl (lv_at hl 1 rfl) ?_
                  refine lv_iload hx hb d_Mo_member_210 (lv_at hl 0 rfl) ?_
                  refine lv_iload_n hx hb d_Mo_member_212 rfl (lv_at hl 4 rfl) ?_
                  refine mr_Vv (g := (f_Mo_hang mo_13 r_13 x3)) (As := [.int r_13, .int x3]) (rest := []) ⟨hx, hb, hml, hown, hts0⟩ (m_Mo_hang l hlt dC dI cI cZ sa rk hm ma mo_13 _ r_13 x3 (fun z => hn_4 (hL_4.trans (bndM_n z)))) hP hD hK hS hA hC hZ hnt hlocks L_1115 L_1117 L_69 L_90 L_1118 k_Mo_hang ⟨(by show _ ≤ fr0 + 14; omega), (by show _ ≤ lo0 + 274; omega)⟩ rfl rfl hl.1 (Nat.le_of_ble_eq_true rfl) d_Mo_member_213 rfl (fun q z => hX_4 q (hL_4.trans (bndM_l z))) (fun mo_14 H locs w_14 hP hD hS => ?_)
                  rw [bndM_r w_14] at hL_4
                  refine lv_aload_n hx hb d_Mo_member_216 rfl (lv_at hl 1 rfl) ?_
                  refine lv_iload hx hb d_Mo_member_217 (lv_at hl 0 rfl) ?_
                  refine lv_iload_n hx hb d_Mo_member_219 rfl (lv_at hl 2 rfl) ?_
                  refine mr_Sv (g := (f_Mo_arguments K mo_14 r_13 depth)) (As := [.ref hm, .int r_13, .int depth]) (rest := []) ⟨hx, hb, hml, hown, hts0⟩ (m_Mo_arguments l hlt dC dI cI cZ sa rk hm ma fr0 lo0 K hR0 hR1 hR2 hR3 hR4 hR5 hR6 hR7 mo_14 _ r_13 depth (fun z => hn_4 (hL_4.trans (bndM_n z)))) hP hD hK hS hA hC hZ hnt hlocks L_1160 L_1161 L_90 L_1162 k_Mo_arguments ⟨(by show _ ≤ fr0 + 14; omega), (by show _ ≤ lo0 + 274; omega)⟩ rfl rfl hl.1 (Nat.le_of_ble_eq_true rfl) d_Mo_member_220 rfl (fun q z => hX_4 q (hL_4.trans (bndM_l z))) (fun mo_15 H locs w_15 hP hD hS => ?_)
                  rw [bndM_r w_15] at hL_4
                  refine lv_iload hx hb d_Mo_member_223 (lv_at hl 0 rfl) ?_
                  refine lv_istore_n (lv' := [(3, .int r_13), (5, .int r_13), (0, .ref hm), (1, .int depth), (2, .int calls), (4, .int x4)]) hx hb d_Mo_member_225 rfl hl (by decide) rfl (fun ls hl => ?_)
                  refine lv_goto (tgt := 26) hx hb d_Mo_member_226 (by decide) ?_
                  exact ih_4 r_13 x4 mo_15 _ _ ls hP hD hS (lv_sub hl [2, 3, 4, 0, 5] rfl) hL_4
            · rw [if_neg c_9] at hL_4
              refine lv_aload_n hx hb d_Mo_member_127 rfl (lv_at hl 0 rfl) ?_
              refine lv_bipush (v := 37) hx hb d_Mo_member_128 (by decide) ?_
              refine lv_iconst (v := 0) hx hb d_Mo_member_130 (by decide) ?_
              refine lv_aload_n hx hb d_Mo_member_131 rfl (lv_at hl 0 rfl) ?_
              refine va_get (D := (dC, dI)) (ci := 6) (v := .int (q_at mo_8)) (C := R_Mo) (T := T_Mo) (N := 31) hx hb hts u_Mo hown hK hP 0 rfl rfl 6 (by decide) (hts _ L_927) (fun _ h9 => h9) rfl d_Mo_member_132 ?_
              refine mr_Vi (g := (f_Mo_make mo_8 37 0 (q_at mo_8))) (As := [.int 37, .int 0, .int (q_at mo_8)]) (rest := []) ⟨hx, hb, hml, hown, hts0⟩ (m_Mo_make l hlt dC dI cI cZ sa rk hm ma mo_8 _ 37 0 (q_at mo_8) (fun z => hn_4 (hL_4.trans (bndM_n z)))) hP hD hK hS hA hC hZ hnt hlocks L_1046 L_1048 L_59 L_90 L_1049 k_Mo_make ⟨(by show _ ≤ fr0 + 14; omega), (by show _ ≤ lo0 + 274; omega)⟩ rfl rfl hl.1 (Nat.le_of_ble_eq_true rfl) d_Mo_member_135 rfl (fun q z => hX_4 q (hL_4.trans (bndM_l z))) (fun r_16 mo_16 H locs w_16 hP hD hS => ?_)
              rw [bndM_r w_16] at hL_4
              refine lv_istore (lv' := [(5, .int r_16), (0, .ref hm), (1, .int depth), (2, .int calls), (3, .int x3), (4, .int x4)]) hx hb d_Mo_member_138 hl (by decide) rfl (fun ls hl => ?_)
              refine lv_aload_n hx hb d_Mo_member_140 rfl (lv_at hl 1 rfl) ?_
              refine lv_dup hx hb d_Mo_member_141 rfl ?_
              refine va_get (D := (dC, dI)) (ci := 6) (v := .int (q_at mo_16)) (C := R_Mo) (T := T_Mo) (N := 31) hx hb hts u_Mo hown hK hP 0 rfl rfl 6 (by decide) (hts _ L_927) (fun _ h9 => h9) rfl d_Mo_member_142 ?_
              refine lv_iconst (v := 1) hx hb d_Mo_member_145 (by decide) ?_
              refine lv_iadd hx hb d_Mo_member_146 ?_
              refine va_put (D := (dC, dI)) (ci := 6) (v := .int ((q_at mo_16) + 1)) (ty := .int) (C := R_Mo) (T := T_Mo) (N := 31) hx hb hts u_Mo ty_Mo tk_Mo nm_Mo hown hK hP hD hS 0 rfl rfl 6 (by decide) (hts _ L_927) (fun _ h9 => h9) rfl (by decide +kernel) rfl rfl (Nat.le_of_ble_eq_true rfl) d_Mo_member_147 (fun H locs hP hD hS => ?_)
              have hP : va_P (dC, dI) cls (wM cI cZ hm ma (s_at mo_16 ((q_at mo_16) + 1))) H := hP
              have hD : va_D A (wM cI cZ hm ma (s_at mo_16 ((q_at mo_16) + 1))) := hD
              refine lv_aload_n hx hb d_Mo_member_150 rfl (lv_at hl 1 rfl) ?_
              refine lv_iload hx hb d_Mo_member_151 (lv_at hl 0 rfl) ?_
              refine lv_iload_n hx hb d_Mo_member_153 rfl (lv_at hl 4 rfl) ?_
              refine mr_Vv (g := (f_Mo_hang (s_at mo_16 ((q_at mo_16) + 1)) r_16 x3)) (As := [.int r_16, .int x3]) (rest := []) ⟨hx, hb, hml, hown, hts0⟩ (m_Mo_hang l hlt dC dI cI cZ sa rk hm ma (s_at mo_16 ((q_at mo_16) + 1)) _ r_16 x3 (fun z => hn_4 (hL_4.trans (bndM_n z)))) hP hD hK hS hA hC hZ hnt hlocks L_1115 L_1117 L_69 L_90 L_1118 k_Mo_hang ⟨(by show _ ≤ fr0 + 14; omega), (by show _ ≤ lo0 + 274; omega)⟩ rfl rfl hl.1 (Nat.le_of_ble_eq_true rfl) d_Mo_member_154 rfl (fun q z => hX_4 q (hL_4.trans (bndM_l z))) (fun mo_17 H locs w_17 hP hD hS => ?_)
              rw [bndM_r w_17] at hL_4
              refine lv_aload_n hx hb d_Mo_member_157 rfl (lv_at hl 1 rfl) ?_
              refine lv_iload hx hb d_Mo_member_158 (lv_at hl 0 rfl) ?_
              refine lv_aload_n hx hb d_Mo_member_160 rfl (lv_at hl 1 rfl) ?_
              refine lv_iload_n hx hb d_Mo_member_161 rfl (lv_at hl 2 rfl) ?_
              refine lv_iconst (v := 1) hx hb d_Mo_member_162 (by decide) ?_
              refine lv_iadd hx hb d_Mo_member_163 ?_
              refine lv_iconst (v := 1) hx hb d_Mo_member_164 (by decide) ?_
              refine mr_Si (g := (K 0 [(depth + 1), 1] mo_17)) (As := [.ref hm, .int (depth + 1), .int 1]) (rest := [.int r_16, .ref hm]) ⟨hx, hb, hml, hown, hts0⟩ (hR0 mo_17 _ (depth + 1) 1 (fun z => hn_4 (hL_4.trans (bndM_n z)))) hP hD hK hS hA hC hZ hnt hlocks L_1135 L_1136 L_90 L_1137 k_Mo_expression ⟨(by show _ ≤ fr0 + 14; omega), (by show _ ≤ lo0 + 274; omega)⟩ rfl rfl hl.1 (Nat.le_of_ble_eq_true rfl) d_Mo_member_165 rfl (fun q z => hX_4 q (hL_4.trans (bndM_l z))) (fun r_18 mo_18 H locs w_18 hP hD hS => ?_)
              rw [bndM_r w_18] at hL_4
              refine mr_Vv (g := (f_Mo_hang mo_18 r_16 r_18)) (As := [.int r_16, .int r_18]) (rest := []) ⟨hx, hb, hml, hown, hts0⟩ (m_Mo_hang l hlt dC dI cI cZ sa rk hm ma mo_18 _ r_16 r_18 (fun z => hn_4 (hL_4.trans (bndM_n z)))) hP hD hK hS hA hC hZ hnt hlocks L_1115 L_1117 L_69 L_90 L_1118 k_Mo_hang ⟨(by show _ ≤ fr0 + 14; omega), (by show _ ≤ lo0 + 274; omega)⟩ rfl rfl hl.1 (Nat.le_of_ble_eq_true rfl) d_Mo_member_168 rfl (fun q z => hX_4 q (hL_4.trans (bndM_l z))) (fun mo_19 H locs w_19 hP hD hS => ?_)
              rw [bndM_r w_19] at hL_4
              refine lv_aload_n hx hb d_Mo_member_171 rfl (lv_at hl 1 rfl) ?_
              refine lv_bipush (v := 63) hx hb d_Mo_member_172 (by decide) ?_
              refine mr_Vv (g := (f_Mo_expect mo_19 63)) (As := [.int 63]) (rest := []) ⟨hx, hb, hml, hown, hts0⟩ (m_Mo_expect l hlt dC dI cI cZ sa rk hm ma mo_19 _ 63 (fun z => hn_4 (hL_4.trans (bndM_n z)))) hP hD hK hS hA hC hZ hnt hlocks L_1111 L_1113 L_68 L_90 L_1114 k_Mo_expect ⟨(by show _ ≤ fr0 + 14; omega), (by show _ ≤ lo0 + 274; omega)⟩ rfl rfl hl.1 (Nat.le_of_ble_eq_true rfl) d_Mo_member_174 rfl (fun q z => hX_4 q (hL_4.trans (bndM_l z))) (fun mo_20 H locs w_20 hP hD hS => ?_)
              rw [bndM_r w_20] at hL_4
              refine lv_iload hx hb d_Mo_member_177 (lv_at hl 0 rfl) ?_
              refine lv_istore_n (lv' := [(3, .int r_16), (5, .int r_16), (0, .ref hm), (1, .int depth), (2, .int calls), (4, .int x4)]) hx hb d_Mo_member_179 rfl hl (by decide) rfl (fun ls hl => ?_)
              refine lv_goto (tgt := 26) hx hb d_Mo_member_180 (by decide) ?_
              exact ih_4 r_16 x4 mo_20 _ _ ls hP hD hS (lv_sub hl [2, 3, 4, 0, 5] rfl) hL_4
          · rw [if_neg c_7] at hL_4
            refine lv_aload_n hx hb d_Mo_member_40 rfl (lv_at hl 0 rfl) ?_
            refine lv_bipush (v := 36) hx hb d_Mo_member_41 (by decide) ?_
            refine lv_iconst (v := 0) hx hb d_Mo_member_43 (by decide) ?_
            refine lv_aload_n hx hb d_Mo_member_44 rfl (lv_at hl 0 rfl) ?_
            refine va_get (D := (dC, dI)) (ci := 6) (v := .int (q_at mo_6)) (C := R_Mo) (T := T_Mo) (N := 31) hx hb hts u_Mo hown hK hP 0 rfl rfl 6 (by decide) (hts _ L_927) (fun _ h9 => h9) rfl d_Mo_member_45 ?_
            refine mr_Vi (g := (f_Mo_make mo_6 36 0 (q_at mo_6))) (As := [.int 36, .int 0, .int (q_at mo_6)]) (rest := []) ⟨hx, hb, hml, hown, hts0⟩ (m_Mo_make l hlt dC dI cI cZ sa rk hm ma mo_6 _ 36 0 (q_at mo_6) (fun z => hn_4 (hL_4.trans (bndM_n z)))) hP hD hK hS hA hC hZ hnt hlocks L_1046 L_1048 L_59 L_90 L_1049 k_Mo_make ⟨(by show _ ≤ fr0 + 14; omega), (by show _ ≤ lo0 + 274; omega)⟩ rfl rfl hl.1 (Nat.le_of_ble_eq_true rfl) d_Mo_member_48 rfl (fun q z => hX_4 q (hL_4.trans (bndM_l z))) (fun r_21 mo_21 H locs w_21 hP hD hS => ?_)
            rw [bndM_r w_21] at hL_4
            refine lv_istore (lv' := [(5, .int r_21), (0, .ref hm), (1, .int depth), (2, .int calls), (3, .int x3), (4, .int x4)]) hx hb d_Mo_member_51 hl (by decide) rfl (fun ls hl => ?_)
            refine lv_aload_n hx hb d_Mo_member_53 rfl (lv_at hl 1 rfl) ?_
            refine lv_dup hx hb d_Mo_member_54 rfl ?_
            refine va_get (D := (dC, dI)) (ci := 6) (v := .int (q_at mo_21)) (C := R_Mo) (T := T_Mo) (N := 31) hx hb hts u_Mo hown hK hP 0 rfl rfl 6 (by decide) (hts _ L_927) (fun _ h9 => h9) rfl d_Mo_member_55 ?_
            refine lv_iconst (v := 1) hx hb d_Mo_member_58 (by decide) ?_
            refine lv_iadd hx hb d_Mo_member_59 ?_
            refine va_put (D := (dC, dI)) (ci := 6) (v := .int ((q_at mo_21) + 1)) (ty := .int) (C := R_Mo) (T := T_Mo) (N := 31) hx hb hts u_Mo ty_Mo tk_Mo nm_Mo hown hK hP hD hS 0 rfl rfl 6 (by decide) (hts _ L_927) (fun _ h9 => h9) rfl (by decide +kernel) rfl rfl (Nat.le_of_ble_eq_true rfl) d_Mo_member_60 (fun H locs hP hD hS => ?_)
            have hP : va_P (dC, dI) cls (wM cI cZ hm ma (s_at mo_21 ((q_at mo_21) + 1))) H := hP
            have hD : va_D A (wM cI cZ hm ma (s_at mo_21 ((q_at mo_21) + 1))) := hD
            refine lv_aload_n hx hb d_Mo_member_63 rfl (lv_at hl 1 rfl) ?_
            refine lv_iconst (v := 1) hx hb d_Mo_member_64 (by decide) ?_
            refine mr_Vi (g := (f_Mo_isKind (s_at mo_21 ((q_at mo_21) + 1)) 1)) (As := [.int 1]) (rest := []) ⟨hx, hb, hml, hown, hts0⟩ (m_Mo_isKind l hlt dC dI cI cZ sa rk hm ma (s_at mo_21 ((q_at mo_21) + 1)) _ 1 (fun z => hn_4 (hL_4.trans (bndM_n z)))) hP hD hK hS hA hC hZ hnt hlocks L_1057 L_1059 L_61 L_90 L_1060 k_Mo_isKind ⟨(by show _ ≤ fr0 + 14; omega), (by show _ ≤ lo0 + 274; omega)⟩ rfl rfl hl.1 (Nat.le_of_ble_eq_true rfl) d_Mo_member_65 rfl (fun q z => hX_4 q (hL_4.trans (bndM_l z))) (fun r_22 mo_22 H locs w_22 hP hD hS => ?_)
            rw [bndM_r w_22] at hL_4
            refine lv_if_ne (tgt := 79) hx hb d_Mo_member_68 (by decide) (fun c_23 => ?_) (fun c_23 => ?_)
            · rw [if_neg c_23] at hL_4
              refine lv_aload_n hx hb d_Mo_member_79 rfl (lv_at hl 1 rfl) ?_
              refine va_get (D := (dC, dI)) (ci := 6) (v := .ref (ma 5)) (C := R_Mo) (T := T_Mo) (N := 31) hx hb hts u_Mo hown hK hP 0 rfl rfl 10 (by decide) (hts _ L_931) (fun _ h9 => h9) rfl d_Mo_member_80 ?_
              refine lv_iload hx hb d_Mo_member_83 (lv_at hl 0 rfl) ?_
              refine lv_aload_n hx hb d_Mo_member_85 rfl (lv_at hl 1 rfl) ?_
              refine va_get (D := (dC, dI)) (ci := 6) (v := .ref (ma 2)) (C := R_Mo) (T := T_Mo) (N := 31) hx hb hts u_Mo hown hK hP 0 rfl rfl 3 (by decide) (hts _ L_924) (fun _ h9 => h9) rfl d_Mo_member_86 ?_
              refine lv_aload_n hx hb d_Mo_member_89 rfl (lv_at hl 1 rfl) ?_
              refine va_get (D := (dC, dI)) (ci := 6) (v := .int (q_at mo_22)) (C := R_Mo) (T := T_Mo) (N := 31) hx hb hts u_Mo hown hK hP 0 rfl rfl 6 (by decide) (hts _ L_927) (fun _ h9 => h9) rfl d_Mo_member_90 ?_
              by_cases cb_24 : inb (q_at mo_22) 1001
              case neg => exact absurd (hL_4.trans (if_neg cb_24)) hn_4
              rw [if_pos cb_24] at hL_4
              refine va_iald (D := (dC, dI)) hx hb hK hP 3 0 rfl rfl cb_24 d_Mo_member_93 ?_
              by_cases cb_25 : inb r_21 2600
              case neg => exact absurd (hL_4.trans (if_neg cb_25)) hn_4
              rw [if_pos cb_25] at hL_4
              refine va_iast (D := (dC, dI)) hx hb hK hP hD hS 6 0 rfl rfl cb_25 d_Mo_member_94 (fun H locs hP hD hS => ?_)
              have hP : va_P (dC, dI) cls (wM cI cZ hm ma (s_value mo_22 (upd (q_value mo_22) (r_21 : Int32).toNatClampNeg ((q_names mo_22) ((q_at mo_22) : Int32).toNatClampNeg)))) H := hP
              have hD : va_D A (wM cI cZ hm ma (s_value mo_22 (upd (q_value mo_22) (r_21 : Int32).toNatClampNeg ((q_names mo_22) ((q_at mo_22) : Int32).toNatClampNeg)))) := hD
              refine lv_aload_n hx hb d_Mo_member_95 rfl (lv_at hl 1 rfl) ?_
              refine lv_dup hx hb d_Mo_member_96 rfl ?_
              refine va_get (D := (dC, dI)) (ci := 6) (v := .int (q_at mo_22)) (C := R_Mo) (T := T_Mo) (N := 31) hx hb hts u_Mo hown hK hP 0 rfl rfl 6 (by decide) (hts _ L_927) (fun _ h9 => h9) rfl d_Mo_member_97 ?_
              refine lv_iconst (v := 1) hx hb d_Mo_member_100 (by decide) ?_
              refine lv_iadd hx hb d_Mo_member_101 ?_
              refine va_put (D := (dC, dI)) (ci := 6) (v := .int ((q_at mo_22) + 1)) (ty := .int) (C := R_Mo) (T := T_Mo) (N := 31) hx hb hts u_Mo ty_Mo tk_Mo nm_Mo hown hK hP hD hS 0 rfl rfl 6 (by decide) (hts _ L_927) (fun _ h9 => h9) rfl (by decide +kernel) rfl rfl (Nat.le_of_ble_eq_true rfl) d_Mo_member_102 (fun H locs hP hD hS => ?_)
              have hP : va_P (dC, dI) cls (wM cI cZ hm ma (s_at (s_value mo_22 (upd (q_value mo_22) (r_21 : Int32).toNatClampNeg ((q_names mo_22) ((q_at mo_22) : Int32).toNatClampNeg))) ((q_at mo_22) + 1))) H := hP
              have hD : va_D A (wM cI cZ hm ma (s_at (s_value mo_22 (upd (q_value mo_22) (r_21 : Int32).toNatClampNeg ((q_names mo_22) ((q_at mo_22) : Int32).toNatClampNeg))) ((q_at mo_22) + 1))) := hD
              refine lv_aload_n hx hb d_Mo_member_105 rfl (lv_at hl 1 rfl) ?_
              refine lv_iload hx hb d_Mo_member_106 (lv_at hl 0 rfl) ?_
              refine lv_iload_n hx hb d_Mo_member_108 rfl (lv_at hl 4 rfl) ?_
              refine mr_Vv (g := (f_Mo_hang (s_at (s_value mo_22 (upd (q_value mo_22) (r_21 : Int32).toNatClampNeg ((q_names mo_22) ((q_at mo_22) : Int32).toNatClampNeg))) ((q_at mo_22) + 1)) r_21 x3)) (As := [.int r_21, .int x3]) (rest := []) ⟨hx, hb, hml, hown, hts0⟩ (m_Mo_hang l hlt dC dI cI cZ sa rk hm ma (s_at (s_value mo_22 (upd (q_value mo_22) (r_21 : Int32).toNatClampNeg ((q_names mo_22) ((q_at mo_22) : Int32).toNatClampNeg))) ((q_at mo_22) + 1)) _ r_21 x3 (fun z => hn_4 (hL_4.trans (bndM_n z)))) hP hD hK hS hA hC hZ hnt hlocks L_1115 L_1117 L_69 L_90 L_1118 k_Mo_hang ⟨(by show _ ≤ fr0 + 14; omega), (by show _ ≤ lo0 + 274; omega)⟩ rfl rfl hl.1 (Nat.le_of_ble_eq_true rfl) d_Mo_member_109 rfl (fun q z => hX_4 q (hL_4.trans (bndM_l z))) (fun mo_26 H locs w_26 hP hD hS => ?_)
              rw [bndM_r w_26] at hL_4
              refine lv_iload hx hb d_Mo_member_112 (lv_at hl 0 rfl) ?_
              refine lv_istore_n (lv' := [(3, .int r_21), (5, .int r_21), (0, .ref hm), (1, .int depth), (2, .int calls), (4, .int x4)]) hx hb d_Mo_member_114 rfl hl (by decide) rfl (fun ls hl => ?_)
              refine lv_goto (tgt := 26) hx hb d_Mo_member_115 (by decide) ?_
              exact ih_4 r_21 x4 mo_26 _ _ ls hP hD hS (lv_sub hl [2, 3, 4, 0, 5] rfl) hL_4
            · rw [if_pos c_23] at hL_4
              refine lv_aload_n hx hb d_Mo_member_71 rfl (lv_at hl 1 rfl) ?_
              refine lv_aload_n hx hb d_Mo_member_72 rfl (lv_at hl 1 rfl) ?_
              refine va_get (D := (dC, dI)) (ci := 6) (v := .int (q_at mo_22)) (C := R_Mo) (T := T_Mo) (N := 31) hx hb hts u_Mo hown hK hP 0 rfl rfl 6 (by decide) (hts _ L_927) (fun _ h9 => h9) rfl d_Mo_member_73 ?_
              refine mr_Vv (g := (f_Mo_refuse mo_22 (q_at mo_22))) (As := [.int (q_at mo_22)]) (rest := []) ⟨hx, hb, hml, hown, hts0⟩ (m_Mo_refuse l hlt dC dI cI cZ sa rk hm ma mo_22 _ (q_at mo_22) ) hP hD hK hS hA hC hZ hnt hlocks L_1072 L_1074 L_64 L_90 L_1075 k_Mo_refuse ⟨(by show _ ≤ fr0 + 14; omega), (by show _ ≤ lo0 + 274; omega)⟩ rfl rfl hl.1 (Nat.le_of_ble_eq_true rfl) d_Mo_member_76 rfl (fun q z => hX_4 q (hL_4.trans (bndM_l z))) (fun mo_27 H locs w_27 hP hD hS => ?_)
              rw [bndM_r w_27] at hL_4
              refine lv_aload_n hx hb d_Mo_member_79 rfl (lv_at hl 1 rfl) ?_
              refine va_get (D := (dC, dI)) (ci := 6) (v := .ref (ma 5)) (C := R_Mo) (T := T_Mo) (N := 31) hx hb hts u_Mo hown hK hP 0 rfl rfl 10 (by decide) (hts _ L_931) (fun _ h9 => h9) rfl d_Mo_member_80 ?_
              refine lv_iload hx hb d_Mo_member_83 (lv_at hl 0 rfl) ?_
              refine lv_aload_n hx hb d_Mo_member_85 rfl (lv_at hl 1 rfl) ?_
              refine va_get (D := (dC, dI)) (ci := 6) (v := .ref (ma 2)) (C := R_Mo) (T := T_Mo) (N := 31) hx hb hts u_Mo hown hK hP 0 rfl rfl 3 (by decide) (hts _ L_924) (fun _ h9 => h9) rfl d_Mo_member_86 ?_
              refine lv_aload_n hx hb d_Mo_member_89 rfl (lv_at hl 1 rfl) ?_
              refine va_get (D := (dC, dI)) (ci := 6) (v := .int (q_at mo_27)) (C := R_Mo) (T := T_Mo) (N := 31) hx hb hts u_Mo hown hK hP 0 rfl rfl 6 (by decide) (hts _ L_927) (fun _ h9 => h9) rfl d_Mo_member_90 ?_
              by_cases cb_28 : inb (q_at mo_27) 1001
              case neg => exact absurd (hL_4.trans (if_neg cb_28)) hn_4
              rw [if_pos cb_28] at hL_4
              refine va_iald (D := (dC, dI)) hx hb hK hP 3 0 rfl rfl cb_28 d_Mo_member_93 ?_
              by_cases cb_29 : inb r_21 2600
              case neg => exact absurd (hL_4.trans (if_neg cb_29)) hn_4
              rw [if_pos cb_29] at hL_4
              refine va_iast (D := (dC, dI)) hx hb hK hP hD hS 6 0 rfl rfl cb_29 d_Mo_member_94 (fun H locs hP hD hS => ?_)
              have hP : va_P (dC, dI) cls (wM cI cZ hm ma (s_value mo_27 (upd (q_value mo_27) (r_21 : Int32).toNatClampNeg ((q_names mo_27) ((q_at mo_27) : Int32).toNatClampNeg)))) H := hP
              have hD : va_D A (wM cI cZ hm ma (s_value mo_27 (upd (q_value mo_27) (r_21 : Int32).toNatClampNeg ((q_names mo_27) ((q_at mo_27) : Int32).toNatClampNeg)))) := hD
              refine lv_aload_n hx hb d_Mo_member_95 rfl (lv_at hl 1 rfl) ?_
              refine lv_dup hx hb d_Mo_member_96 rfl ?_
              refine va_get (D := (dC, dI)) (ci := 6) (v := .int (q_at mo_27)) (C := R_Mo) (T := T_Mo) (N := 31) hx hb hts u_Mo hown hK hP 0 rfl rfl 6 (by decide) (hts _ L_927) (fun _ h9 => h9) rfl d_Mo_member_97 ?_
              refine lv_iconst (v := 1) hx hb d_Mo_member_100 (by decide) ?_
              refine lv_iadd hx hb d_Mo_member_101 ?_
              refine va_put (D := (dC, dI)) (ci := 6) (v := .int ((q_at mo_27) + 1)) (ty := .int) (C := R_Mo) (T := T_Mo) (N := 31) hx hb hts u_Mo ty_Mo tk_Mo nm_Mo hown hK hP hD hS 0 rfl rfl 6 (by decide) (hts _ L_927) (fun _ h9 => h9) rfl (by decide +kernel) rfl rfl (Nat.le_of_ble_eq_true rfl) d_Mo_member_102 (fun H locs hP hD hS => ?_)
              have hP : va_P (dC, dI) cls (wM cI cZ hm ma (s_at (s_value mo_27 (upd (q_value mo_27) (r_21 : Int32).toNatClampNeg ((q_names mo_27) ((q_at mo_27) : Int32).toNatClampNeg))) ((q_at mo_27) + 1))) H := hP
              have hD : va_D A (wM cI cZ hm ma (s_at (s_value mo_27 (upd (q_value mo_27) (r_21 : Int32).toNatClampNeg ((q_names mo_27) ((q_at mo_27) : Int32).toNatClampNeg))) ((q_at mo_27) + 1))) := hD
              refine lv_aload_n hx hb d_Mo_member_105 rfl (lv_at hl 1 rfl) ?_
              refine lv_iload hx hb d_Mo_member_106 (lv_at hl 0 rfl) ?_
              refine lv_iload_n hx hb d_Mo_member_108 rfl (lv_at hl 4 rfl) ?_
              refine mr_Vv (g := (f_Mo_hang (s_at (s_value mo_27 (upd (q_value mo_27) (r_21 : Int32).toNatClampNeg ((q_names mo_27) ((q_at mo_27) : Int32).toNatClampNeg))) ((q_at mo_27) + 1)) r_21 x3)) (As := [.int r_21, .int x3]) (rest := []) ⟨hx, hb, hml, hown, hts0⟩ (m_Mo_hang l hlt dC dI cI cZ sa rk hm ma (s_at (s_value mo_27 (upd (q_value mo_27) (r_21 : Int32).toNatClampNeg ((q_names mo_27) ((q_at mo_27) : Int32).toNatClampNeg))) ((q_at mo_27) + 1)) _ r_21 x3 (fun z => hn_4 (hL_4.trans (bndM_n z)))) hP hD hK hS hA hC hZ hnt hlocks L_1115 L_1117 L_69 L_90 L_1118 k_Mo_hang ⟨(by show _ ≤ fr0 + 14; omega), (by show _ ≤ lo0 + 274; omega)⟩ rfl rfl hl.1 (Nat.le_of_ble_eq_true rfl) d_Mo_member_109 rfl (fun q z => hX_4 q (hL_4.trans (bndM_l z))) (fun mo_30 H locs w_30 hP hD hS => ?_)
              rw [bndM_r w_30] at hL_4
              refine lv_iload hx hb d_Mo_member_112 (lv_at hl 0 rfl) ?_
              refine lv_istore_n (lv' := [(3, .int r_21), (5, .int r_21), (0, .ref hm), (1, .int depth), (2, .int calls), (4, .int x4)]) hx hb d_Mo_member_114 rfl hl (by decide) rfl (fun ls hl => ?_)
              refine lv_goto (tgt := 26) hx hb d_Mo_member_115 (by decide) ?_
              exact ih_4 r_21 x4 mo_30 _ _ ls hP hD hS (lv_sub hl [2, 3, 4, 0, 5] rfl) hL_4
    exact lp_4 5000 r_3 1 mo_3 _ _ ls hP hD hS (lv_sub hl [2, 3, 4, 1, 0] rfl) hx_4.symm
  · refine lv_aload_n hx hb d_Mo_member_9 rfl (lv_at hl 0 rfl) ?_
    refine lv_iload_n hx hb d_Mo_member_10 rfl (lv_at hl 1 rfl) ?_
    refine mr_Si (g := (f_Mo_newOne K mo_1 depth)) (As := [.ref hm, .int depth]) (rest := []) ⟨hx, hb, hml, hown, hts0⟩ (m_Mo_newOne l hlt dC dI cI cZ sa rk hm ma fr0 lo0 K hR0 hR1 hR2 hR3 hR4 hR5 hR6 hR7 mo_1 _ depth (fun z => hg (by unfold f_Mo_member; rw [bndM_r w_1, if_neg c_2, bndM_n z]))) hP hD hK hS hA hC hZ hnt hlocks L_1157 L_1158 L_90 L_1159 k_Mo_newOne ⟨(by show _ ≤ fr0 + 14; omega), (by show _ ≤ lo0 + 274; omega)⟩ rfl rfl hl.1 (Nat.le_of_ble_eq_true rfl) d_Mo_member_11 rfl (fun q z => by unfold f_Mo_member; rw [bndM_r w_1, if_neg c_2, bndM_l z]) (fun r_31 mo_31 H locs w_31 hP hD hS => ?_)
    refine lv_goto (tgt := 22) hx hb d_Mo_member_14 (by decide) ?_
    refine lv_istore_n (lv' := [(3, .int r_31), (0, .ref hm), (1, .int depth), (2, .int calls)]) hx hb d_Mo_member_22 rfl hl (by decide) rfl (fun ls hl => ?_)
    refine lv_iconst (v := 1) hx hb d_Mo_member_23 (by decide) ?_
    refine lv_istore (lv' := [(4, .int 1), (3, .int r_31), (0, .ref hm), (1, .int depth), (2, .int calls)]) hx hb d_Mo_member_24 hl (by decide) rfl (fun ls hl => ?_)
    obtain ⟨x_32, hx_32⟩ : ∃ z, f_Mo_member_L26 K depth calls 5000 r_31 1 mo_31 = z := ⟨_, rfl⟩
    have hn_32 : x_32 ≠ none := (fun z => hg (by unfold f_Mo_member; rw [bndM_r w_1, if_neg c_2, bndM_r w_31, bndM_n (hx_32.trans z)]))
    have hX_32 : ∀ q, x_32 = some (.inl q) → (f_Mo_member K mo depth calls) = some (.inl q) := (fun q z => by unfold f_Mo_member; rw [bndM_r w_1, if_neg c_2, bndM_r w_31, bndM_l (hx_32.trans z)])
    have lp_32 : ∀ (fu : Nat) (x3 x4 : Int32) (sx_32 : MO) (H : Heap) (locs : List Loc) (ls : Array Slot), va_P (dC, dI) cls (wM cI cZ hm ma sx_32) H → va_D A (wM cI cZ hm ma sx_32) → va_S A s.heap H locs → lv_has ls 6 [(0, .ref hm), (1, .int depth), (2, .int calls), (3, .int x3), (4, .int x4)] → x_32 = f_Mo_member_L26 K depth calls fu x3 x4 sx_32 → W p l e (headSpec (wy y_Mo_member c_Mo_member 6 (some .int)) { frames := (fr0 + 14), cells := 1, slots := 6, locals := (lo0 + 274) }).room s m [.ref hm, .int depth, .int calls].toArray below meth c H locs 0 0 (vx_MQ below (va_Qi (fun r (u : MO) => (f_Mo_member K mo depth calls) = some (.inr (r, u))) (wB (dC, dI) cI cZ A (wM cI cZ hm ma)) A) (xM (dC, dI) cI cZ hm ma (f_Mo_member K mo depth calls) A) [.ref hm, .int depth, .int calls].toArray s (mcM (f_Mo_member K mo depth calls)) (msM (f_Mo_member K mo depth calls)) A) (F0 m 26 ls []) := by
      intro fu
      induction fu with
      | zero => intro x3 x4 sx_32 H locs ls hP hD hS hl hL_32; exact absurd (hL_32.trans rfl) hn_32
      | succ fu_32 ih_32 =>
        intro x3 x4 sx_32 H locs ls hP hD hS hl hL_32
        rw [f_Mo_member_L26] at hL_32
        refine lv_iload hx hb d_Mo_member_26 (lv_at hl 4 rfl) ?_
        refine lv_if_eq (tgt := 235) hx hb d_Mo_member_28 (by decide) (fun c_33 => ?_) (fun c_33 => ?_)
        · rw [if_pos c_33] at hL_32
          obtain ⟨se_32, hse_32⟩ : ∃ z : MO, z = sx_32 := ⟨_, rfl⟩
          have hP : va_P (dC, dI) cls (wM cI cZ hm ma se_32) H := by rw [hse_32]; exact hP
          have hD : va_D A (wM cI cZ hm ma se_32) := by rw [hse_32]; exact hD
          obtain ⟨rv_32, hrv_32⟩ : ∃ z : Int32, z = x3 := ⟨_, rfl⟩
          have we_32 : f_Mo_member_L26 K depth calls 5000 r_31 1 mo_31 = some (.inr (rv_32, se_32)) := by rw [hrv_32, hse_32]; exact hx_32.trans hL_32
          have hl : lv_has ls 6 [(0, .ref hm), (1, .int depth), (2, .int calls), (3, .int rv_32)] := by rw [hrv_32]; exact lv_sub hl [0, 1, 2, 3] rfl
          refine lv_iload_n hx hb d_Mo_member_235 rfl (lv_at hl 3 rfl) ?_
          exact mr_iret (v := rv_32) (mo := se_32) hx hb hr hlocks hK hP hD hS (by unfold f_Mo_member; rw [bndM_r w_1, if_neg c_2, bndM_r w_31, bndM_r we_32]) d_Mo_member_236
        · rw [if_neg c_33] at hL_32
          refine lv_aload_n hx hb d_Mo_member_31 rfl (lv_at hl 0 rfl) ?_
          refine lv_bipush (v := 66) hx hb d_Mo_member_32 (by decide) ?_
          refine mr_Vi (g := (f_Mo_isSign sx_32 66)) (As := [.int 66]) (rest := []) ⟨hx, hb, hml, hown, hts0⟩ (m_Mo_isSign l hlt dC dI cI cZ sa rk hm ma sx_32 _ 66 (fun z => hn_32 (hL_32.trans (bndM_n z)))) hP hD hK hS hA hC hZ hnt hlocks L_1053 L_1055 L_60 L_90 L_1056 k_Mo_isSign ⟨(by show _ ≤ fr0 + 14; omega), (by show _ ≤ lo0 + 274; omega)⟩ rfl rfl hl.1 (Nat.le_of_ble_eq_true rfl) d_Mo_member_34 rfl (fun q z => hX_32 q (hL_32.trans (bndM_l z))) (fun r_34 mo_34 H locs w_34 hP hD hS => ?_)
          rw [bndM_r w_34] at hL_32
          refine lv_if_eq (tgt := 118) hx hb d_Mo_member_37 (by decide) (fun c_35 => ?_) (fun c_35 => ?_)
          · rw [if_pos c_35] at hL_32
            refine lv_aload_n hx hb d_Mo_member_118 rfl (lv_at hl 0 rfl) ?_
            refine lv_bipush (v := 62) hx hb d_Mo_member_119 (by decide) ?_
            refine mr_Vi (g := (f_Mo_isSign mo_34 62)) (As := [.int 62]) (rest := []) ⟨hx, hb, hml, hown, hts0⟩ (m_Mo_isSign l hlt dC dI cI cZ sa rk hm ma mo_34 _ 62 (fun z => hn_32 (hL_32.trans (bndM_n z)))) hP hD hK hS hA hC hZ hnt hlocks L_1053 L_1055 L_60 L_90 L_1056 k_Mo_isSign ⟨(by show _ ≤ fr0 + 14; omega), (by show _ ≤ lo0 + 274; omega)⟩ rfl rfl hl.1 (Nat.le_of_ble_eq_true rfl) d_Mo_member_121 rfl (fun q z => hX_32 q (hL_32.trans (bndM_l z))) (fun r_36 mo_36 H locs w_36 hP hD hS => ?_)
            rw [bndM_r w_36] at hL_32
            refine lv_if_eq (tgt := 183) hx hb d_Mo_member_124 (by decide) (fun c_37 => ?_) (fun c_37 => ?_)
            · rw [if_pos c_37] at hL_32
              refine lv_iload_n hx hb d_Mo_member_183 rfl (lv_at hl 2 rfl) ?_
              refine lv_if_eq (tgt := 229) hx hb d_Mo_member_184 (by decide) (fun c_38 => ?_) (fun c_38 => ?_)
              · rw [if_pos c_38] at hL_32
                refine lv_iconst (v := 0) hx hb d_Mo_member_229 (by decide) ?_
                refine lv_istore (lv' := [(4, .int 0), (0, .ref hm), (1, .int depth), (2, .int calls), (3, .int x3)]) hx hb d_Mo_member_230 hl (by decide) rfl (fun ls hl => ?_)
                refine lv_goto (tgt := 26) hx hb d_Mo_member_232 (by decide) ?_
                exact ih_32 x3 0 mo_36 _ _ ls hP hD hS (lv_sub hl [1, 2, 3, 4, 0] rfl) hL_32
              · rw [if_neg c_38] at hL_32
                refine lv_aload_n hx hb d_Mo_member_187 rfl (lv_at hl 0 rfl) ?_
                refine lv_bipush (v := 60) hx hb d_Mo_member_188 (by decide) ?_
                refine mr_Vi (g := (f_Mo_isSign mo_36 60)) (As := [.int 60]) (rest := []) ⟨hx, hb, hml, hown, hts0⟩ (m_Mo_isSign l hlt dC dI cI cZ sa rk hm ma mo_36 _ 60 (fun z => hn_32 (hL_32.trans (bndM_n z)))) hP hD hK hS hA hC hZ hnt hlocks L_1053 L_1055 L_60 L_90 L_1056 k_Mo_isSign ⟨(by show _ ≤ fr0 + 14; omega), (by show _ ≤ lo0 + 274; omega)⟩ rfl rfl hl.1 (Nat.le_of_ble_eq_true rfl) d_Mo_member_190 rfl (fun q z => hX_32 q (hL_32.trans (bndM_l z))) (fun r_39 mo_39 H locs w_39 hP hD hS => ?_)
                rw [bndM_r w_39] at hL_32
                refine lv_if_eq (tgt := 229) hx hb d_Mo_member_193 (by decide) (fun c_40 => ?_) (fun c_40 => ?_)
                · rw [if_pos c_40] at hL_32
                  refine lv_iconst (v := 0) hx hb d_Mo_member_229 (by decide) ?_
                  refine lv_istore (lv' := [(4, .int 0), (0, .ref hm), (1, .int depth), (2, .int calls), (3, .int x3)]) hx hb d_Mo_member_230 hl (by decide) rfl (fun ls hl => ?_)
                  refine lv_goto (tgt := 26) hx hb d_Mo_member_232 (by decide) ?_
                  exact ih_32 x3 0 mo_39 _ _ ls hP hD hS (lv_sub hl [1, 2, 3, 4, 0] rfl) hL_32
                · rw [if_neg c_40] at hL_32
                  refine lv_aload_n hx hb d_Mo_member_196 rfl (lv_at hl 0 rfl) ?_
                  refine lv_bipush (v := 38) hx hb d_Mo_member_197 (by decide) ?_
                  refine lv_iconst (v := 0) hx hb d_Mo_member_199 (by decide) ?_
                  refine lv_aload_n hx hb d_Mo_member_200 rfl (lv_at hl 0 rfl) ?_
                  refine va_get (D := (dC, dI)) (ci := 6) (v := .int (q_at mo_39)) (C := R_Mo) (T := T_Mo) (N := 31) hx hb hts u_Mo hown hK hP 0 rfl rfl 6 (by decide) (hts _ L_927) (fun _ h9 => h9) rfl d_Mo_member_201 ?_
                  refine mr_Vi (g := (f_Mo_make mo_39 38 0 (q_at mo_39))) (As := [.int 38, .int 0, .int (q_at mo_39)]) (rest := []) ⟨hx, hb, hml, hown, hts0⟩ (m_Mo_make l hlt dC dI cI cZ sa rk hm ma mo_39 _ 38 0 (q_at mo_39) (fun z => hn_32 (hL_32.trans (bndM_n z)))) hP hD hK hS hA hC hZ hnt hlocks L_1046 L_1048 L_59 L_90 L_1049 k_Mo_make ⟨(by show _ ≤ fr0 + 14; omega), (by show _ ≤ lo0 + 274; omega)⟩ rfl rfl hl.1 (Nat.le_of_ble_eq_true rfl) d_Mo_member_204 rfl (fun q z => hX_32 q (hL_32.trans (bndM_l z))) (fun r_41 mo_41 H locs w_41 hP hD hS => ?_)
                  rw [bndM_r w_41] at hL_32
                  refine lv_istore (lv' := [(5, .int r_41), (0, .ref hm), (1, .int depth), (2, .int calls), (3, .int x3), (4, .int x4)]) hx hb d_Mo_member_207 hl (by decide) rfl (fun ls hl => ?_)
                  refine lv_aload_n hx hb d_Mo_member_209 rfl (lv_at hl 1 rfl) ?_
                  refine lv_iload hx hb d_Mo_member_210 (lv_at hl 0 rfl) ?_
                  refine lv_iload_n hx hb d_Mo_member_212 rfl (lv_at hl 4 rfl) ?_
                  refine mr_Vv (g := (f_Mo_hang mo_41 r_41 x3)) (As := [.int r_41, .int x3]) (rest := []) ⟨hx, hb, hml, hown, hts0⟩ (m_Mo_hang l hlt dC dI cI cZ sa rk hm ma mo_41 _ r_41 x3 (fun z => hn_32 (hL_32.trans (bndM_n z)))) hP hD hK hS hA hC hZ hnt hlocks L_1115 L_1117 L_69 L_90 L_1118 k_Mo_hang ⟨(by show _ ≤ fr0 + 14; omega), (by show _ ≤ lo0 + 274; omega)⟩ rfl rfl hl.1 (Nat.le_of_ble_eq_true rfl) d_Mo_member_213 rfl (fun q z => hX_32 q (hL_32.trans (bndM_l z))) (fun mo_42 H locs w_42 hP hD hS => ?_)
                  rw [bndM_r w_42] at hL_32
                  refine lv_aload_n hx hb d_Mo_member_216 rfl (lv_at hl 1 rfl) ?_
                  refine lv_iload hx hb d_Mo_member_217 (lv_at hl 0 rfl) ?_
                  refine lv_iload_n hx hb d_Mo_member_219 rfl (lv_at hl 2 rfl) ?_
                  refine mr_Sv (g := (f_Mo_arguments K mo_42 r_41 depth)) (As := [.ref hm, .int r_41, .int depth]) (rest := []) ⟨hx, hb, hml, hown, hts0⟩ (m_Mo_arguments l hlt dC dI cI cZ sa rk hm ma fr0 lo0 K hR0 hR1 hR2 hR3 hR4 hR5 hR6 hR7 mo_42 _ r_41 depth (fun z => hn_32 (hL_32.trans (bndM_n z)))) hP hD hK hS hA hC hZ hnt hlocks L_1160 L_1161 L_90 L_1162 k_Mo_arguments ⟨(by show _ ≤ fr0 + 14; omega), (by show _ ≤ lo0 + 274; omega)⟩ rfl rfl hl.1 (Nat.le_of_ble_eq_true rfl) d_Mo_member_220 rfl (fun q z => hX_32 q (hL_32.trans (bndM_l z))) (fun mo_43 H locs w_43 hP hD hS => ?_)
                  rw [bndM_r w_43] at hL_32
                  refine lv_iload hx hb d_Mo_member_223 (lv_at hl 0 rfl) ?_
                  refine lv_istore_n (lv' := [(3, .int r_41), (5, .int r_41), (0, .ref hm), (1, .int depth), (2, .int calls), (4, .int x4)]) hx hb d_Mo_member_225 rfl hl (by decide) rfl (fun ls hl => ?_)
                  refine lv_goto (tgt := 26) hx hb d_Mo_member_226 (by decide) ?_
                  exact ih_32 r_41 x4 mo_43 _ _ ls hP hD hS (lv_sub hl [2, 3, 4, 0, 5] rfl) hL_32
            · rw [if_neg c_37] at hL_32
              refine lv_aload_n hx hb d_Mo_member_127 rfl (lv_at hl 0 rfl) ?_
              refine lv_bipush (v := 37) hx hb d_Mo_member_128 (by decide) ?_
              refine lv_iconst (v := 0) hx hb d_Mo_member_130 (by decide) ?_
              refine lv_aload_n hx hb d_Mo_member_131 rfl (lv_at hl 0 rfl) ?_
              refine va_get (D := (dC, dI)) (ci := 6) (v := .int (q_at mo_36)) (C := R_Mo) (T := T_Mo) (N := 31) hx hb hts u_Mo hown hK hP 0 rfl rfl 6 (by decide) (hts _ L_927) (fun _ h9 => h9) rfl d_Mo_member_132 ?_
              refine mr_Vi (g := (f_Mo_make mo_36 37 0 (q_at mo_36))) (As := [.int 37, .int 0, .int (q_at mo_36)]) (rest := []) ⟨hx, hb, hml, hown, hts0⟩ (m_Mo_make l hlt dC dI cI cZ sa rk hm ma mo_36 _ 37 0 (q_at mo_36) (fun z => hn_32 (hL_32.trans (bndM_n z)))) hP hD hK hS hA hC hZ hnt hlocks L_1046 L_1048 L_59 L_90 L_1049 k_Mo_make ⟨(by show _ ≤ fr0 + 14; omega), (by show _ ≤ lo0 + 274; omega)⟩ rfl rfl hl.1 (Nat.le_of_ble_eq_true rfl) d_Mo_member_135 rfl (fun q z => hX_32 q (hL_32.trans (bndM_l z))) (fun r_44 mo_44 H locs w_44 hP hD hS => ?_)
              rw [bndM_r w_44] at hL_32
              refine lv_istore (lv' := [(5, .int r_44), (0, .ref hm), (1, .int depth), (2, .int calls), (3, .int x3), (4, .int x4)]) hx hb d_Mo_member_138 hl (by decide) rfl (fun ls hl => ?_)
              refine lv_aload_n hx hb d_Mo_member_140 rfl (lv_at hl 1 rfl) ?_
              refine lv_dup hx hb d_Mo_member_141 rfl ?_
              refine va_get (D := (dC, dI)) (ci := 6) (v := .int (q_at mo_44)) (C := R_Mo) (T := T_Mo) (N := 31) hx hb hts u_Mo hown hK hP 0 rfl rfl 6 (by decide) (hts _ L_927) (fun _ h9 => h9) rfl d_Mo_member_142 ?_
              refine lv_iconst (v := 1) hx hb d_Mo_member_145 (by decide) ?_
              refine lv_iadd hx hb d_Mo_member_146 ?_
              refine va_put (D := (dC, dI)) (ci := 6) (v := .int ((q_at mo_44) + 1)) (ty := .int) (C := R_Mo) (T := T_Mo) (N := 31) hx hb hts u_Mo ty_Mo tk_Mo nm_Mo hown hK hP hD hS 0 rfl rfl 6 (by decide) (hts _ L_927) (fun _ h9 => h9) rfl (by decide +kernel) rfl rfl (Nat.le_of_ble_eq_true rfl) d_Mo_member_147 (fun H locs hP hD hS => ?_)
              have hP : va_P (dC, dI) cls (wM cI cZ hm ma (s_at mo_44 ((q_at mo_44) + 1))) H := hP
              have hD : va_D A (wM cI cZ hm ma (s_at mo_44 ((q_at mo_44) + 1))) := hD
              refine lv_aload_n hx hb d_Mo_member_150 rfl (lv_at hl 1 rfl) ?_
              refine lv_iload hx hb d_Mo_member_151 (lv_at hl 0 rfl) ?_
              refine lv_iload_n hx hb d_Mo_member_153 rfl (lv_at hl 4 rfl) ?_
              refine mr_Vv (g := (f_Mo_hang (s_at mo_44 ((q_at mo_44) + 1)) r_44 x3)) (As := [.int r_44, .int x3]) (rest := []) ⟨hx, hb, hml, hown, hts0⟩ (m_Mo_hang l hlt dC dI cI cZ sa rk hm ma (s_at mo_44 ((q_at mo_44) + 1)) _ r_44 x3 (fun z => hn_32 (hL_32.trans (bndM_n z)))) hP hD hK hS hA hC hZ hnt hlocks L_1115 L_1117 L_69 L_90 L_1118 k_Mo_hang ⟨(by show _ ≤ fr0 + 14; omega), (by show _ ≤ lo0 + 274; omega)⟩ rfl rfl hl.1 (Nat.le_of_ble_eq_true rfl) d_Mo_member_154 rfl (fun q z => hX_32 q (hL_32.trans (bndM_l z))) (fun mo_45 H locs w_45 hP hD hS => ?_)
              rw [bndM_r w_45] at hL_32
              refine lv_aload_n hx hb d_Mo_member_157 rfl (lv_at hl 1 rfl) ?_
              refine lv_iload hx hb d_Mo_member_158 (lv_at hl 0 rfl) ?_
              refine lv_aload_n hx hb d_Mo_member_160 rfl (lv_at hl 1 rfl) ?_
              refine lv_iload_n hx hb d_Mo_member_161 rfl (lv_at hl 2 rfl) ?_
              refine lv_iconst (v := 1) hx hb d_Mo_member_162 (by decide) ?_
              refine lv_iadd hx hb d_Mo_member_163 ?_
              refine lv_iconst (v := 1) hx hb d_Mo_member_164 (by decide) ?_
              refine mr_Si (g := (K 0 [(depth + 1), 1] mo_45)) (As := [.ref hm, .int (depth + 1), .int 1]) (rest := [.int r_44, .ref hm]) ⟨hx, hb, hml, hown, hts0⟩ (hR0 mo_45 _ (depth + 1) 1 (fun z => hn_32 (hL_32.trans (bndM_n z)))) hP hD hK hS hA hC hZ hnt hlocks L_1135 L_1136 L_90 L_1137 k_Mo_expression ⟨(by show _ ≤ fr0 + 14; omega), (by show _ ≤ lo0 + 274; omega)⟩ rfl rfl hl.1 (Nat.le_of_ble_eq_true rfl) d_Mo_member_165 rfl (fun q z => hX_32 q (hL_32.trans (bndM_l z))) (fun r_46 mo_46 H locs w_46 hP hD hS => ?_)
              rw [bndM_r w_46] at hL_32
              refine mr_Vv (g := (f_Mo_hang mo_46 r_44 r_46)) (As := [.int r_44, .int r_46]) (rest := []) ⟨hx, hb, hml, hown, hts0⟩ (m_Mo_hang l hlt dC dI cI cZ sa rk hm ma mo_46 _ r_44 r_46 (fun z => hn_32 (hL_32.trans (bndM_n z)))) hP hD hK hS hA hC hZ hnt hlocks L_1115 L_1117 L_69 L_90 L_1118 k_Mo_hang ⟨(by show _ ≤ fr0 + 14; omega), (by show _ ≤ lo0 + 274; omega)⟩ rfl rfl hl.1 (Nat.le_of_ble_eq_true rfl) d_Mo_member_168 rfl (fun q z => hX_32 q (hL_32.trans (bndM_l z))) (fun mo_47 H locs w_47 hP hD hS => ?_)
              rw [bndM_r w_47] at hL_32
              refine lv_aload_n hx hb d_Mo_member_171 rfl (lv_at hl 1 rfl) ?_
              refine lv_bipush (v := 63) hx hb d_Mo_member_172 (by decide) ?_
              refine mr_Vv (g := (f_Mo_expect mo_47 63)) (As := [.int 63]) (rest := []) ⟨hx, hb, hml, hown, hts0⟩ (m_Mo_expect l hlt dC dI cI cZ sa rk hm ma mo_47 _ 63 (fun z => hn_32 (hL_32.trans (bndM_n z)))) hP hD hK hS hA hC hZ hnt hlocks L_1111 L_1113 L_68 L_90 L_1114 k_Mo_expect ⟨(by show _ ≤ fr0 + 14; omega), (by show _ ≤ lo0 + 274; omega)⟩ rfl rfl hl.1 (Nat.le_of_ble_eq_true rfl) d_Mo_member_174 rfl (fun q z => hX_32 q (hL_32.trans (bndM_l z))) (fun mo_48 H locs w_48 hP hD hS => ?_)
              rw [bndM_r w_48] at hL_32
              refine lv_iload hx hb d_Mo_member_177 (lv_at hl 0 rfl) ?_
              refine lv_istore_n (lv' := [(3, .int r_44), (5, .int r_44), (0, .ref hm), (1, .int depth), (2, .int calls), (4, .int x4)]) hx hb d_Mo_member_179 rfl hl (by decide) rfl (fun ls hl => ?_)
              refine lv_goto (tgt := 26) hx hb d_Mo_member_180 (by decide) ?_
              exact ih_32 r_44 x4 mo_48 _ _ ls hP hD hS (lv_sub hl [2, 3, 4, 0, 5] rfl) hL_32
          · rw [if_neg c_35] at hL_32
            refine lv_aload_n hx hb d_Mo_member_40 rfl (lv_at hl 0 rfl) ?_
            refine lv_bipush (v := 36) hx hb d_Mo_member_41 (by decide) ?_
            refine lv_iconst (v := 0) hx hb d_Mo_member_43 (by decide) ?_
            refine lv_aload_n hx hb d_Mo_member_44 rfl (lv_at hl 0 rfl) ?_
            refine va_get (D := (dC, dI)) (ci := 6) (v := .int (q_at mo_34)) (C := R_Mo) (T := T_Mo) (N := 31) hx hb hts u_Mo hown hK hP 0 rfl rfl 6 (by decide) (hts _ L_927) (fun _ h9 => h9) rfl d_Mo_member_45 ?_
            refine mr_Vi (g := (f_Mo_make mo_34 36 0 (q_at mo_34))) (As := [.int 36, .int 0, .int (q_at mo_34)]) (rest := []) ⟨hx, hb, hml, hown, hts0⟩ (m_Mo_make l hlt dC dI cI cZ sa rk hm ma mo_34 _ 36 0 (q_at mo_34) (fun z => hn_32 (hL_32.trans (bndM_n z)))) hP hD hK hS hA hC hZ hnt hlocks L_1046 L_1048 L_59 L_90 L_1049 k_Mo_make ⟨(by show _ ≤ fr0 + 14; omega), (by show _ ≤ lo0 + 274; omega)⟩ rfl rfl hl.1 (Nat.le_of_ble_eq_true rfl) d_Mo_member_48 rfl (fun q z => hX_32 q (hL_32.trans (bndM_l z))) (fun r_49 mo_49 H locs w_49 hP hD hS => ?_)
            rw [bndM_r w_49] at hL_32
            refine lv_istore (lv' := [(5, .int r_49), (0, .ref hm), (1, .int depth), (2, .int calls), (3, .int x3), (4, .int x4)]) hx hb d_Mo_member_51 hl (by decide) rfl (fun ls hl => ?_)
            refine lv_aload_n hx hb d_Mo_member_53 rfl (lv_at hl 1 rfl) ?_
            refine lv_dup hx hb d_Mo_member_54 rfl ?_
            refine va_get (D := (dC, dI)) (ci := 6) (v := .int (q_at mo_49)) (C := R_Mo) (T := T_Mo) (N := 31) hx hb hts u_Mo hown hK hP 0 rfl rfl 6 (by decide) (hts _ L_927) (fun _ h9 => h9) rfl d_Mo_member_55 ?_
            refine lv_iconst (v := 1) hx hb d_Mo_member_58 (by decide) ?_
            refine lv_iadd hx hb d_Mo_member_59 ?_
            refine va_put (D := (dC, dI)) (ci := 6) (v := .int ((q_at mo_49) + 1)) (ty := .int) (C := R_Mo) (T := T_Mo) (N := 31) hx hb hts u_Mo ty_Mo tk_Mo nm_Mo hown hK hP hD hS 0 rfl rfl 6 (by decide) (hts _ L_927) (fun _ h9 => h9) rfl (by decide +kernel) rfl rfl (Nat.le_of_ble_eq_true rfl) d_Mo_member_60 (fun H locs hP hD hS => ?_)
            have hP : va_P (dC, dI) cls (wM cI cZ hm ma (s_at mo_49 ((q_at mo_49) + 1))) H := hP
            have hD : va_D A (wM cI cZ hm ma (s_at mo_49 ((q_at mo_49) + 1))) := hD
            refine lv_aload_n hx hb d_Mo_member_63 rfl (lv_at hl 1 rfl) ?_
            refine lv_iconst (v := 1) hx hb d_Mo_member_64 (by decide) ?_
            refine mr_Vi (g := (f_Mo_isKind (s_at mo_49 ((q_at mo_49) + 1)) 1)) (As := [.int 1]) (rest := []) ⟨hx, hb, hml, hown, hts0⟩ (m_Mo_isKind l hlt dC dI cI cZ sa rk hm ma (s_at mo_49 ((q_at mo_49) + 1)) _ 1 (fun z => hn_32 (hL_32.trans (bndM_n z)))) hP hD hK hS hA hC hZ hnt hlocks L_1057 L_1059 L_61 L_90 L_1060 k_Mo_isKind ⟨(by show _ ≤ fr0 + 14; omega), (by show _ ≤ lo0 + 274; omega)⟩ rfl rfl hl.1 (Nat.le_of_ble_eq_true rfl) d_Mo_member_65 rfl (fun q z => hX_32 q (hL_32.trans (bndM_l z))) (fun r_50 mo_50 H locs w_50 hP hD hS => ?_)
            rw [bndM_r w_50] at hL_32
            refine lv_if_ne (tgt := 79) hx hb d_Mo_member_68 (by decide) (fun c_51 => ?_) (fun c_51 => ?_)
            · rw [if_neg c_51] at hL_32
              refine lv_aload_n hx hb d_Mo_member_79 rfl (lv_at hl 1 rfl) ?_
              refine va_get (D := (dC, dI)) (ci := 6) (v := .ref (ma 5)) (C := R_Mo) (T := T_Mo) (N := 31) hx hb hts u_Mo hown hK hP 0 rfl rfl 10 (by decide) (hts _ L_931) (fun _ h9 => h9) rfl d_Mo_member_80 ?_
              refine lv_iload hx hb d_Mo_member_83 (lv_at hl 0 rfl) ?_
              refine lv_aload_n hx hb d_Mo_member_85 rfl (lv_at hl 1 rfl) ?_
              refine va_get (D := (dC, dI)) (ci := 6) (v := .ref (ma 2)) (C := R_Mo) (T := T_Mo) (N := 31) hx hb hts u_Mo hown hK hP 0 rfl rfl 3 (by decide) (hts _ L_924) (fun _ h9 => h9) rfl d_Mo_member_86 ?_
              refine lv_aload_n hx hb d_Mo_member_89 rfl (lv_at hl 1 rfl) ?_
              refine va_get (D := (dC, dI)) (ci := 6) (v := .int (q_at mo_50)) (C := R_Mo) (T := T_Mo) (N := 31) hx hb hts u_Mo hown hK hP 0 rfl rfl 6 (by decide) (hts _ L_927) (fun _ h9 => h9) rfl d_Mo_member_90 ?_
              by_cases cb_52 : inb (q_at mo_50) 1001
              case neg => exact absurd (hL_32.trans (if_neg cb_52)) hn_32
              rw [if_pos cb_52] at hL_32
              refine va_iald (D := (dC, dI)) hx hb hK hP 3 0 rfl rfl cb_52 d_Mo_member_93 ?_
              by_cases cb_53 : inb r_49 2600
              case neg => exact absurd (hL_32.trans (if_neg cb_53)) hn_32
              rw [if_pos cb_53] at hL_32
              refine va_iast (D := (dC, dI)) hx hb hK hP hD hS 6 0 rfl rfl cb_53 d_Mo_member_94 (fun H locs hP hD hS => ?_)
              have hP : va_P (dC, dI) cls (wM cI cZ hm ma (s_value mo_50 (upd (q_value mo_50) (r_49 : Int32).toNatClampNeg ((q_names mo_50) ((q_at mo_50) : Int32).toNatClampNeg)))) H := hP
              have hD : va_D A (wM cI cZ hm ma (s_value mo_50 (upd (q_value mo_50) (r_49 : Int32).toNatClampNeg ((q_names mo_50) ((q_at mo_50) : Int32).toNatClampNeg)))) := hD
              refine lv_aload_n hx hb d_Mo_member_95 rfl (lv_at hl 1 rfl) ?_
              refine lv_dup hx hb d_Mo_member_96 rfl ?_
              refine va_get (D := (dC, dI)) (ci := 6) (v := .int (q_at mo_50)) (C := R_Mo) (T := T_Mo) (N := 31) hx hb hts u_Mo hown hK hP 0 rfl rfl 6 (by decide) (hts _ L_927) (fun _ h9 => h9) rfl d_Mo_member_97 ?_
              refine lv_iconst (v := 1) hx hb d_Mo_member_100 (by decide) ?_
              refine lv_iadd hx hb d_Mo_member_101 ?_
              refine va_put (D := (dC, dI)) (ci := 6) (v := .int ((q_at mo_50) + 1)) (ty := .int) (C := R_Mo) (T := T_Mo) (N := 31) hx hb hts u_Mo ty_Mo tk_Mo nm_Mo hown hK hP hD hS 0 rfl rfl 6 (by decide) (hts _ L_927) (fun _ h9 => h9) rfl (by decide +kernel) rfl rfl (Nat.le_of_ble_eq_true rfl) d_Mo_member_102 (fun H locs hP hD hS => ?_)
              have hP : va_P (dC, dI) cls (wM cI cZ hm ma (s_at (s_value mo_50 (upd (q_value mo_50) (r_49 : Int32).toNatClampNeg ((q_names mo_50) ((q_at mo_50) : Int32).toNatClampNeg))) ((q_at mo_50) + 1))) H := hP
              have hD : va_D A (wM cI cZ hm ma (s_at (s_value mo_50 (upd (q_value mo_50) (r_49 : Int32).toNatClampNeg ((q_names mo_50) ((q_at mo_50) : Int32).toNatClampNeg))) ((q_at mo_50) + 1))) := hD
              refine lv_aload_n hx hb d_Mo_member_105 rfl (lv_at hl 1 rfl) ?_
              refine lv_iload hx hb d_Mo_member_106 (lv_at hl 0 rfl) ?_
              refine lv_iload_n hx hb d_Mo_member_108 rfl (lv_at hl 4 rfl) ?_
              refine mr_Vv (g := (f_Mo_hang (s_at (s_value mo_50 (upd (q_value mo_50) (r_49 : Int32).toNatClampNeg ((q_names mo_50) ((q_at mo_50) : Int32).toNatClampNeg))) ((q_at mo_50) + 1)) r_49 x3)) (As := [.int r_49, .int x3]) (rest := []) ⟨hx, hb, hml, hown, hts0⟩ (m_Mo_hang l hlt dC dI cI cZ sa rk hm ma (s_at (s_value mo_50 (upd (q_value mo_50) (r_49 : Int32).toNatClampNeg ((q_names mo_50) ((q_at mo_50) : Int32).toNatClampNeg))) ((q_at mo_50) + 1)) _ r_49 x3 (fun z => hn_32 (hL_32.trans (bndM_n z)))) hP hD hK hS hA hC hZ hnt hlocks L_1115 L_1117 L_69 L_90 L_1118 k_Mo_hang ⟨(by show _ ≤ fr0 + 14; omega), (by show _ ≤ lo0 + 274; omega)⟩ rfl rfl hl.1 (Nat.le_of_ble_eq_true rfl) d_Mo_member_109 rfl (fun q z => hX_32 q (hL_32.trans (bndM_l z))) (fun mo_54 H locs w_54 hP hD hS => ?_)
              rw [bndM_r w_54] at hL_32
              refine lv_iload hx hb d_Mo_member_112 (lv_at hl 0 rfl) ?_
              refine lv_istore_n (lv' := [(3, .int r_49), (5, .int r_49), (0, .ref hm), (1, .int depth), (2, .int calls), (4, .int x4)]) hx hb d_Mo_member_114 rfl hl (by decide) rfl (fun ls hl => ?_)
              refine lv_goto (tgt := 26) hx hb d_Mo_member_115 (by decide) ?_
              exact ih_32 r_49 x4 mo_54 _ _ ls hP hD hS (lv_sub hl [2, 3, 4, 0, 5] rfl) hL_32
            · rw [if_pos c_51] at hL_32
              refine lv_aload_n hx hb d_Mo_member_71 rfl (lv_at hl 1 rfl) ?_
              refine lv_aload_n hx hb d_Mo_member_72 rfl (lv_at hl 1 rfl) ?_
              refine va_get (D := (dC, dI)) (ci := 6) (v := .int (q_at mo_50)) (C := R_Mo) (T := T_Mo) (N := 31) hx hb hts u_Mo hown hK hP 0 rfl rfl 6 (by decide) (hts _ L_927) (fun _ h9 => h9) rfl d_Mo_member_73 ?_
              refine mr_Vv (g := (f_Mo_refuse mo_50 (q_at mo_50))) (As := [.int (q_at mo_50)]) (rest := []) ⟨hx, hb, hml, hown, hts0⟩ (m_Mo_refuse l hlt dC dI cI cZ sa rk hm ma mo_50 _ (q_at mo_50) ) hP hD hK hS hA hC hZ hnt hlocks L_1072 L_1074 L_64 L_90 L_1075 k_Mo_refuse ⟨(by show _ ≤ fr0 + 14; omega), (by show _ ≤ lo0 + 274; omega)⟩ rfl rfl hl.1 (Nat.le_of_ble_eq_true rfl) d_Mo_member_76 rfl (fun q z => hX_32 q (hL_32.trans (bndM_l z))) (fun mo_55 H locs w_55 hP hD hS => ?_)
              rw [bndM_r w_55] at hL_32
              refine lv_aload_n hx hb d_Mo_member_79 rfl (lv_at hl 1 rfl) ?_
              refine va_get (D := (dC, dI)) (ci := 6) (v := .ref (ma 5)) (C := R_Mo) (T := T_Mo) (N := 31) hx hb hts u_Mo hown hK hP 0 rfl rfl 10 (by decide) (hts _ L_931) (fun _ h9 => h9) rfl d_Mo_member_80 ?_
              refine lv_iload hx hb d_Mo_member_83 (lv_at hl 0 rfl) ?_
              refine lv_aload_n hx hb d_Mo_member_85 rfl (lv_at hl 1 rfl) ?_
              refine va_get (D := (dC, dI)) (ci := 6) (v := .ref (ma 2)) (C := R_Mo) (T := T_Mo) (N := 31) hx hb hts u_Mo hown hK hP 0 rfl rfl 3 (by decide) (hts _ L_924) (fun _ h9 => h9) rfl d_Mo_member_86 ?_
              refine lv_aload_n hx hb d_Mo_member_89 rfl (lv_at hl 1 rfl) ?_
              refine va_get (D := (dC, dI)) (ci := 6) (v := .int (q_at mo_55)) (C := R_Mo) (T := T_Mo) (N := 31) hx hb hts u_Mo hown hK hP 0 rfl rfl 6 (by decide) (hts _ L_927) (fun _ h9 => h9) rfl d_Mo_member_90 ?_
              by_cases cb_56 : inb (q_at mo_55) 1001
              case neg => exact absurd (hL_32.trans (if_neg cb_56)) hn_32
              rw [if_pos cb_56] at hL_32
              refine va_iald (D := (dC, dI)) hx hb hK hP 3 0 rfl rfl cb_56 d_Mo_member_93 ?_
              by_cases cb_57 : inb r_49 2600
              case neg => exact absurd (hL_32.trans (if_neg cb_57)) hn_32
              rw [if_pos cb_57] at hL_32
              refine va_iast (D := (dC, dI)) hx hb hK hP hD hS 6 0 rfl rfl cb_57 d_Mo_member_94 (fun H locs hP hD hS => ?_)
              have hP : va_P (dC, dI) cls (wM cI cZ hm ma (s_value mo_55 (upd (q_value mo_55) (r_49 : Int32).toNatClampNeg ((q_names mo_55) ((q_at mo_55) : Int32).toNatClampNeg)))) H := hP
              have hD : va_D A (wM cI cZ hm ma (s_value mo_55 (upd (q_value mo_55) (r_49 : Int32).toNatClampNeg ((q_names mo_55) ((q_at mo_55) : Int32).toNatClampNeg)))) := hD
              refine lv_aload_n hx hb d_Mo_member_95 rfl (lv_at hl 1 rfl) ?_
              refine lv_dup hx hb d_Mo_member_96 rfl ?_
              refine va_get (D := (dC, dI)) (ci := 6) (v := .int (q_at mo_55)) (C := R_Mo) (T := T_Mo) (N := 31) hx hb hts u_Mo hown hK hP 0 rfl rfl 6 (by decide) (hts _ L_927) (fun _ h9 => h9) rfl d_Mo_member_97 ?_
              refine lv_iconst (v := 1) hx hb d_Mo_member_100 (by decide) ?_
              refine lv_iadd hx hb d_Mo_member_101 ?_
              refine va_put (D := (dC, dI)) (ci := 6) (v := .int ((q_at mo_55) + 1)) (ty := .int) (C := R_Mo) (T := T_Mo) (N := 31) hx hb hts u_Mo ty_Mo tk_Mo nm_Mo hown hK hP hD hS 0 rfl rfl 6 (by decide) (hts _ L_927) (fun _ h9 => h9) rfl (by decide +kernel) rfl rfl (Nat.le_of_ble_eq_true rfl) d_Mo_member_102 (fun H locs hP hD hS => ?_)
              have hP : va_P (dC, dI) cls (wM cI cZ hm ma (s_at (s_value mo_55 (upd (q_value mo_55) (r_49 : Int32).toNatClampNeg ((q_names mo_55) ((q_at mo_55) : Int32).toNatClampNeg))) ((q_at mo_55) + 1))) H := hP
              have hD : va_D A (wM cI cZ hm ma (s_at (s_value mo_55 (upd (q_value mo_55) (r_49 : Int32).toNatClampNeg ((q_names mo_55) ((q_at mo_55) : Int32).toNatClampNeg))) ((q_at mo_55) + 1))) := hD
              refine lv_aload_n hx hb d_Mo_member_105 rfl (lv_at hl 1 rfl) ?_
              refine lv_iload hx hb d_Mo_member_106 (lv_at hl 0 rfl) ?_
              refine lv_iload_n hx hb d_Mo_member_108 rfl (lv_at hl 4 rfl) ?_
              refine mr_Vv (g := (f_Mo_hang (s_at (s_value mo_55 (upd (q_value mo_55) (r_49 : Int32).toNatClampNeg ((q_names mo_55) ((q_at mo_55) : Int32).toNatClampNeg))) ((q_at mo_55) + 1)) r_49 x3)) (As := [.int r_49, .int x3]) (rest := []) ⟨hx, hb, hml, hown, hts0⟩ (m_Mo_hang l hlt dC dI cI cZ sa rk hm ma (s_at (s_value mo_55 (upd (q_value mo_55) (r_49 : Int32).toNatClampNeg ((q_names mo_55) ((q_at mo_55) : Int32).toNatClampNeg))) ((q_at mo_55) + 1)) _ r_49 x3 (fun z => hn_32 (hL_32.trans (bndM_n z)))) hP hD hK hS hA hC hZ hnt hlocks L_1115 L_1117 L_69 L_90 L_1118 k_Mo_hang ⟨(by show _ ≤ fr0 + 14; omega), (by show _ ≤ lo0 + 274; omega)⟩ rfl rfl hl.1 (Nat.le_of_ble_eq_true rfl) d_Mo_member_109 rfl (fun q z => hX_32 q (hL_32.trans (bndM_l z))) (fun mo_58 H locs w_58 hP hD hS => ?_)
              rw [bndM_r w_58] at hL_32
              refine lv_iload hx hb d_Mo_member_112 (lv_at hl 0 rfl) ?_
              refine lv_istore_n (lv' := [(3, .int r_49), (5, .int r_49), (0, .ref hm), (1, .int depth), (2, .int calls), (4, .int x4)]) hx hb d_Mo_member_114 rfl hl (by decide) rfl (fun ls hl => ?_)
              refine lv_goto (tgt := 26) hx hb d_Mo_member_115 (by decide) ?_
              exact ih_32 r_49 x4 mo_58 _ _ ls hP hD hS (lv_sub hl [2, 3, 4, 0, 5] rfl) hL_32
    exact lp_32 5000 r_31 1 mo_31 _ _ ls hP hD hS (lv_sub hl [2, 3, 4, 1, 0] rfl) hx_32.symm
def f_Mo_postfix (K : Nat → List Int32 → MO → Rm) (mo : MO) (depth : Int32) : Rm := (bndM (f_Mo_member K mo depth 1) (fun r_1 mo_1 => (bndM (f_Mo_isSign mo_1 73) (fun r_2 mo_2 => (if r_2 = 0 then (bndM (f_Mo_isSign mo_2 74) (fun r_13 mo_13 => (if r_13 = 0 then (some (.inr (r_1, mo_13))) else (if inb (q_at mo_13) 1001 then (if ((q_lines mo_13) ((q_at mo_13) : Int32).toNatClampNeg) = 0 then (bndM (f_Mo_changed mo_13 r_1 (q_at mo_13)) (fun _ mo_17 => (if inb (q_at mo_17) 1001 then (if ((q_words mo_17) ((q_at mo_17) : Int32).toNatClampNeg) = 73 then (bndM (f_Mo_make mo_17 44 3 (q_at mo_17)) (fun r_22 mo_22 => (bndM (f_Mo_hang (s_at mo_22 ((q_at mo_22) + 1)) r_22 r_1) (fun _ mo_23 => (some (.inr (r_22, mo_23))))))) else (bndM (f_Mo_make mo_17 44 4 (q_at mo_17)) (fun r_20 mo_20 => (bndM (f_Mo_hang (s_at mo_20 ((q_at mo_20) + 1)) r_20 r_1) (fun _ mo_21 => (some (.inr (r_20, mo_21)))))))) else none))) else (some (.inr (r_1, mo_13)))) else none)))) else (if inb (q_at mo_2) 1001 then (if ((q_lines mo_2) ((q_at mo_2) : Int32).toNatClampNeg) = 0 then (bndM (f_Mo_changed mo_2 r_1 (q_at mo_2)) (fun _ mo_6 => (if inb (q_at mo_6) 1001 then (if ((q_words mo_6) ((q_at mo_6) : Int32).toNatClampNeg) = 73 then (bndM (f_Mo_make mo_6 44 3 (q_at mo_6)) (fun r_11 mo_11 => (bndM (f_Mo_hang (s_at mo_11 ((q_at mo_11) + 1)) r_11 r_1) (fun _ mo_12 => (some (.inr (r_11, mo_12))))))) else (bndM (f_Mo_make mo_6 44 4 (q_at mo_6)) (fun r_9 mo_9 => (bndM (f_Mo_hang (s_at mo_9 ((q_at mo_9) + 1)) r_9 r_1) (fun _ mo_10 => (some (.inr (r_9, mo_10)))))))) else none))) else (some (.inr (r_1, mo_2)))) else none))))))
set_option maxRecDepth 100000 in
set_option maxHeartbeats 4000000 in
theorem m_Mo_postfix (l : Launch) (hlt : l.stackTraces = false) (dC : Nat → ClassId) (dI : Nat → Nat → Nat) (cI cZ : ClassId) (sa rk hm : Nat) (ma : Nat → Nat) (fr0 lo0 : Nat) (K : Nat → List Int32 → MO → Rm) (hR0 : ∀ (mo : MO) (sz : Nat) (p0 p1 : Int32), K 0 [p0, p1] mo ≠ none → cXi l y_Mo_expression c_Mo_expression 5 .int fr0 lo0 (dC, dI) cI cZ sa rk hm ma mo sz [.ref hm, .int p0, .int p1] (K 0 [p0, p1] mo)) (hR1 : ∀ (mo : MO) (sz : Nat) (p0 p1 : Int32), K 1 [p0, p1] mo ≠ none → cXi l y_Mo_assignment c_Mo_assignment 5 .int fr0 lo0 (dC, dI) cI cZ sa rk hm ma mo sz [.ref hm, .int p0, .int p1] (K 1 [p0, p1] mo)) (hR2 : ∀ (mo : MO) (sz : Nat) (p0 p1 p2 : Int32), K 2 [p0, p1, p2] mo ≠ none → cXi l y_Mo_binary c_Mo_binary 7 .int fr0 lo0 (dC, dI) cI cZ sa rk hm ma mo sz [.ref hm, .int p0, .int p1, .int p2] (K 2 [p0, p1, p2] mo)) (hR3 : ∀ (mo : MO) (sz : Nat) (p0 : Int32), K 3 [p0] mo ≠ none → cXi l y_Mo_unary c_Mo_unary 5 .int fr0 lo0 (dC, dI) cI cZ sa rk hm ma mo sz [.ref hm, .int p0] (K 3 [p0] mo)) (hR4 : ∀ (mo : MO) (sz : Nat) (p0 p1 : Int32), K 4 [p0, p1] mo ≠ none → cXi l y_Mo_member c_Mo_member 6 .int fr0 lo0 (dC, dI) cI cZ sa rk hm ma mo sz [.ref hm, .int p0, .int p1] (K 4 [p0, p1] mo)) (hR5 : ∀ (mo : MO) (sz : Nat) (p0 p1 : Int32), K 5 [p0, p1] mo ≠ none → cXi l y_Mo_statement c_Mo_statement 3 .int fr0 lo0 (dC, dI) cI cZ sa rk hm ma mo sz [.ref hm, .int p0, .int p1] (K 5 [p0, p1] mo)) (hR6 : ∀ (mo : MO) (sz : Nat) (p0 p1 p2 : Int32), K 6 [p0, p1, p2] mo ≠ none → cXv l y_Mo_statements c_Mo_statements 8 fr0 lo0 (dC, dI) cI cZ sa rk hm ma mo sz [.ref hm, .int p0, .int p1, .int p2] (K 6 [p0, p1, p2] mo)) (hR7 : ∀ (mo : MO) (sz : Nat) (p0 : Int32), K 7 [p0] mo ≠ none → cXi l y_Mo_block c_Mo_block 4 .int fr0 lo0 (dC, dI) cI cZ sa rk hm ma mo sz [.ref hm, .int p0] (K 7 [p0] mo)) (mo : MO) (sz : Nat) (depth : Int32) (hg : (f_Mo_postfix K mo depth) ≠ none) : cXi l y_Mo_postfix c_Mo_postfix 4 .int (fr0 + 15) (lo0 + 299) (dC, dI) cI cZ sa rk hm ma mo sz [.ref hm, .int depth] (f_Mo_postfix K mo depth) := by
  refine vx_ofW (cc := c_Mo_postfix) (maxL := 4) (ret := (some .int)) (by decide) rfl ?_
  intro p e s m args below meth c s₁ B hml hnt hv
  obtain ⟨rfl, hsz, hP, hK, hD0, hC, hZ⟩ := hv
  have hx := B.exec
  have hb := B.bytes
  have hr := B.returns
  have hts0 := atoms_spec (ws := wy y_Mo_postfix c_Mo_postfix 4 (some .int)) B.pre
  have hts := htsL hts0
  have hown : s.vm.findClass R_Mo = some m.cls := findClass_of_methodNamed B.named
  have hlocks := B.notSynchronized
  subst hsz
  have hD := hD0.self (sz := s.heap.size)
  generalize hAe : va_A (wM cI cZ hm ma mo) s.heap.size = A at hD hZ ⊢
  have hA : ∀ q : Nat, s.heap.size ≤ q → A q := fun q h => by rw [← hAe]; exact Or.inr h
  have hS : va_S A s.heap s.heap [] := va_S.rf
  have hl := lv_entry ([.ref hm, .int depth]) (n := 4) (Nat.le_of_ble_eq_true rfl)
  rw [lg_entry_eq]
  generalize (lg_sl ([.ref hm, .int depth]) ++ List.replicate (4 - (lg_sl ([.ref hm, .int depth])).length) Slot.unset).toArray = ls at hl ⊢
  have hl : lv_has ls 4 [(0, .ref hm), (1, .int depth)] := hl
  refine lv_aload_n hx hb d_Mo_postfix_0 rfl (lv_at hl 0 rfl) ?_
  refine lv_iload_n hx hb d_Mo_postfix_1 rfl (lv_at hl 1 rfl) ?_
  refine lv_iconst (v := 1) hx hb d_Mo_postfix_2 (by decide) ?_
  refine mr_Si (g := (f_Mo_member K mo depth 1)) (As := [.ref hm, .int depth, .int 1]) (rest := []) ⟨hx, hb, hml, hown, hts0⟩ (m_Mo_member l hlt dC dI cI cZ sa rk hm ma fr0 lo0 K hR0 hR1 hR2 hR3 hR4 hR5 hR6 hR7 mo _ depth 1 (fun z => hg (by unfold f_Mo_postfix; rw [bndM_n z]))) hP hD hK hS hA hC hZ hnt hlocks L_1154 L_1155 L_90 L_1156 k_Mo_member ⟨(by show _ ≤ fr0 + 15; omega), (by show _ ≤ lo0 + 299; omega)⟩ rfl rfl hl.1 (Nat.le_of_ble_eq_true rfl) d_Mo_postfix_3 rfl (fun q z => by unfold f_Mo_postfix; rw [bndM_l z]) (fun r_1 mo_1 H locs w_1 hP hD hS => ?_)
  refine lv_istore_n (lv' := [(2, .int r_1), (0, .ref hm), (1, .int depth)]) hx hb d_Mo_postfix_6 rfl hl (by decide) rfl (fun ls hl => ?_)
  refine lv_aload_n hx hb d_Mo_postfix_7 rfl (lv_at hl 1 rfl) ?_
  refine lv_bipush (v := 73) hx hb d_Mo_postfix_8 (by decide) ?_
  refine mr_Vi (g := (f_Mo_isSign mo_1 73)) (As := [.int 73]) (rest := []) ⟨hx, hb, hml, hown, hts0⟩ (m_Mo_isSign l hlt dC dI cI cZ sa rk hm ma mo_1 _ 73 (fun z => hg (by unfold f_Mo_postfix; rw [bndM_r w_1, bndM_n z]))) hP hD hK hS hA hC hZ hnt hlocks L_1053 L_1055 L_60 L_90 L_1056 k_Mo_isSign ⟨(by show _ ≤ fr0 + 15; omega), (by show _ ≤ lo0 + 299; omega)⟩ rfl rfl hl.1 (Nat.le_of_ble_eq_true rfl) d_Mo_postfix_10 rfl (fun q z => by unfold f_Mo_postfix; rw [bndM_r w_1, bndM_l z]) (fun r_2 mo_2 H locs w_2 hP hD hS => ?_)
  refine lv_if_ne (tgt := 25) hx hb d_Mo_postfix_13 (by decide) (fun c_3 => ?_) (fun c_3 => ?_)
  · refine lv_aload_n hx hb d_Mo_postfix_25 rfl (lv_at hl 1 rfl) ?_
    refine va_get (D := (dC, dI)) (ci := 6) (v := .ref (ma 3)) (C := R_Mo) (T := T_Mo) (N := 31) hx hb hts u_Mo hown hK hP 0 rfl rfl 4 (by decide) (hts _ L_925) (fun _ h9 => h9) rfl d_Mo_postfix_26 ?_
    refine lv_aload_n hx hb d_Mo_postfix_29 rfl (lv_at hl 1 rfl) ?_
    refine va_get (D := (dC, dI)) (ci := 6) (v := .int (q_at mo_2)) (C := R_Mo) (T := T_Mo) (N := 31) hx hb hts u_Mo hown hK hP 0 rfl rfl 6 (by decide) (hts _ L_927) (fun _ h9 => h9) rfl d_Mo_postfix_30 ?_
    by_cases cb_4 : inb (q_at mo_2) 1001
    case neg => exact absurd (by unfold f_Mo_postfix; rw [bndM_r w_1, bndM_r w_2, if_neg c_3, if_neg cb_4]) hg
    refine va_zald (D := (dC, dI)) hx hb hK hP 4 1 rfl rfl cb_4 d_Mo_postfix_33 ?_
    refine lv_if_eq (tgt := 39) hx hb d_Mo_postfix_34 (by decide) (fun c_5 => ?_) (fun c_5 => ?_)
    · refine lv_aload_n hx hb d_Mo_postfix_39 rfl (lv_at hl 1 rfl) ?_
      refine lv_iload_n hx hb d_Mo_postfix_40 rfl (lv_at hl 0 rfl) ?_
      refine lv_aload_n hx hb d_Mo_postfix_41 rfl (lv_at hl 1 rfl) ?_
      refine va_get (D := (dC, dI)) (ci := 6) (v := .int (q_at mo_2)) (C := R_Mo) (T := T_Mo) (N := 31) hx hb hts u_Mo hown hK hP 0 rfl rfl 6 (by decide) (hts _ L_927) (fun _ h9 => h9) rfl d_Mo_postfix_42 ?_
      refine mr_Vv (g := (f_Mo_changed mo_2 r_1 (q_at mo_2))) (As := [.int r_1, .int (q_at mo_2)]) (rest := []) ⟨hx, hb, hml, hown, hts0⟩ (m_Mo_changed l hlt dC dI cI cZ sa rk hm ma mo_2 _ r_1 (q_at mo_2) (fun z => hg (by unfold f_Mo_postfix; rw [bndM_r w_1, bndM_r w_2, if_neg c_3, if_pos cb_4, if_pos c_5, bndM_n z]))) hP hD hK hS hA hC hZ hnt hlocks L_1191 L_1193 L_76 L_90 L_1194 k_Mo_changed ⟨(by show _ ≤ fr0 + 15; omega), (by show _ ≤ lo0 + 299; omega)⟩ rfl rfl hl.1 (Nat.le_of_ble_eq_true rfl) d_Mo_postfix_45 rfl (fun q z => by unfold f_Mo_postfix; rw [bndM_r w_1, bndM_r w_2, if_neg c_3, if_pos cb_4, if_pos c_5, bndM_l z]) (fun mo_6 H locs w_6 hP hD hS => ?_)
      refine lv_aload_n hx hb d_Mo_postfix_48 rfl (lv_at hl 1 rfl) ?_
      refine lv_bipush (v := 44) hx hb d_Mo_postfix_49 (by decide) ?_
      refine lv_aload_n hx hb d_Mo_postfix_51 rfl (lv_at hl 1 rfl) ?_
      refine va_get (D := (dC, dI)) (ci := 6) (v := .ref (ma 1)) (C := R_Mo) (T := T_Mo) (N := 31) hx hb hts u_Mo hown hK hP 0 rfl rfl 2 (by decide) (hts _ L_923) (fun _ h9 => h9) rfl d_Mo_postfix_52 ?_
      refine lv_aload_n hx hb d_Mo_postfix_55 rfl (lv_at hl 1 rfl) ?_
      refine va_get (D := (dC, dI)) (ci := 6) (v := .int (q_at mo_6)) (C := R_Mo) (T := T_Mo) (N := 31) hx hb hts u_Mo hown hK hP 0 rfl rfl 6 (by decide) (hts _ L_927) (fun _ h9 => h9) rfl d_Mo_postfix_56 ?_
      by_cases cb_7 : inb (q_at mo_6) 1001
      case neg => exact absurd (by unfold f_Mo_postfix; rw [bndM_r w_1, bndM_r w_2, if_neg c_3, if_pos cb_4, if_pos c_5, bndM_r w_6, if_neg cb_7]) hg
      refine va_iald (D := (dC, dI)) hx hb hK hP 2 0 rfl rfl cb_7 d_Mo_postfix_59 ?_
      refine lv_bipush (v := 73) hx hb d_Mo_postfix_60 (by decide) ?_
      refine lv_icmp_ne (tgt := 69) hx hb d_Mo_postfix_62 (by decide) (fun c_8 => ?_) (fun c_8 => ?_)
      · refine lv_iconst (v := 4) hx hb d_Mo_postfix_69 (by decide) ?_
        refine lv_aload_n hx hb d_Mo_postfix_70 rfl (lv_at hl 1 rfl) ?_
        refine va_get (D := (dC, dI)) (ci := 6) (v := .int (q_at mo_6)) (C := R_Mo) (T := T_Mo) (N := 31) hx hb hts u_Mo hown hK hP 0 rfl rfl 6 (by decide) (hts _ L_927) (fun _ h9 => h9) rfl d_Mo_postfix_71 ?_
        refine mr_Vi (g := (f_Mo_make mo_6 44 4 (q_at mo_6))) (As := [.int 44, .int 4, .int (q_at mo_6)]) (rest := []) ⟨hx, hb, hml, hown, hts0⟩ (m_Mo_make l hlt dC dI cI cZ sa rk hm ma mo_6 _ 44 4 (q_at mo_6) (fun z => hg (by unfold f_Mo_postfix; rw [bndM_r w_1, bndM_r w_2, if_neg c_3, if_pos cb_4, if_pos c_5, bndM_r w_6, if_pos cb_7, if_neg c_8, bndM_n z]))) hP hD hK hS hA hC hZ hnt hlocks L_1046 L_1048 L_59 L_90 L_1049 k_Mo_make ⟨(by show _ ≤ fr0 + 15; omega), (by show _ ≤ lo0 + 299; omega)⟩ rfl rfl hl.1 (Nat.le_of_ble_eq_true rfl) d_Mo_postfix_74 rfl (fun q z => by unfold f_Mo_postfix; rw [bndM_r w_1, bndM_r w_2, if_neg c_3, if_pos cb_4, if_pos c_5, bndM_r w_6, if_pos cb_7, if_neg c_8, bndM_l z]) (fun r_9 mo_9 H locs w_9 hP hD hS => ?_)
        refine lv_istore_n (lv' := [(3, .int r_9), (2, .int r_1), (0, .ref hm), (1, .int depth)]) hx hb d_Mo_postfix_77 rfl hl (by decide) rfl (fun ls hl => ?_)
        refine lv_aload_n hx hb d_Mo_postfix_78 rfl (lv_at hl 2 rfl) ?_
        refine lv_dup hx hb d_Mo_postfix_79 rfl ?_
        refine va_get (D := (dC, dI)) (ci := 6) (v := .int (q_at mo_9)) (C := R_Mo) (T := T_Mo) (N := 31) hx hb hts u_Mo hown hK hP 0 rfl rfl 6 (by decide) (hts _ L_927) (fun _ h9 => h9) rfl d_Mo_postfix_80 ?_
        refine lv_iconst (v := 1) hx hb d_Mo_postfix_83 (by decide) ?_
        refine lv_iadd hx hb d_Mo_postfix_84 ?_
        refine va_put (D := (dC, dI)) (ci := 6) (v := .int ((q_at mo_9) + 1)) (ty := .int) (C := R_Mo) (T := T_Mo) (N := 31) hx hb hts u_Mo ty_Mo tk_Mo nm_Mo hown hK hP hD hS 0 rfl rfl 6 (by decide) (hts _ L_927) (fun _ h9 => h9) rfl (by decide +kernel) rfl rfl (Nat.le_of_ble_eq_true rfl) d_Mo_postfix_85 (fun H locs hP hD hS => ?_)
        have hP : va_P (dC, dI) cls (wM cI cZ hm ma (s_at mo_9 ((q_at mo_9) + 1))) H := hP
        have hD : va_D A (wM cI cZ hm ma (s_at mo_9 ((q_at mo_9) + 1))) := hD
        refine lv_aload_n hx hb d_Mo_postfix_88 rfl (lv_at hl 2 rfl) ?_
        refine lv_iload_n hx hb d_Mo_postfix_89 rfl (lv_at hl 0 rfl) ?_
        refine lv_iload_n hx hb d_Mo_postfix_90 rfl (lv_at hl 1 rfl) ?_
        refine mr_Vv (g := (f_Mo_hang (s_at mo_9 ((q_at mo_9) + 1)) r_9 r_1)) (As := [.int r_9, .int r_1]) (rest := []) ⟨hx, hb, hml, hown, hts0⟩ (m_Mo_hang l hlt dC dI cI cZ sa rk hm ma (s_at mo_9 ((q_at mo_9) + 1)) _ r_9 r_1 (fun z => hg (by unfold f_Mo_postfix; rw [bndM_r w_1, bndM_r w_2, if_neg c_3, if_pos cb_4, if_pos c_5, bndM_r w_6, if_pos cb_7, if_neg c_8, bndM_r w_9, bndM_n z]))) hP hD hK hS hA hC hZ hnt hlocks L_1115 L_1117 L_69 L_90 L_1118 k_Mo_hang ⟨(by show _ ≤ fr0 + 15; omega), (by show _ ≤ lo0 + 299; omega)⟩ rfl rfl hl.1 (Nat.le_of_ble_eq_true rfl) d_Mo_postfix_91 rfl (fun q z => by unfold f_Mo_postfix; rw [bndM_r w_1, bndM_r w_2, if_neg c_3, if_pos cb_4, if_pos c_5, bndM_r w_6, if_pos cb_7, if_neg c_8, bndM_r w_9, bndM_l z]) (fun mo_10 H locs w_10 hP hD hS => ?_)
        refine lv_iload_n hx hb d_Mo_postfix_94 rfl (lv_at hl 0 rfl) ?_
        exact mr_iret (v := r_9) (mo := mo_10) hx hb hr hlocks hK hP hD hS (by unfold f_Mo_postfix; rw [bndM_r w_1, bndM_r w_2, if_neg c_3, if_pos cb_4, if_pos c_5, bndM_r w_6, if_pos cb_7, if_neg c_8, bndM_r w_9, bndM_r w_10]) d_Mo_postfix_95
      · refine lv_iconst (v := 3) hx hb d_Mo_postfix_65 (by decide) ?_
        refine lv_goto (tgt := 70) hx hb d_Mo_postfix_66 (by decide) ?_
        refine lv_aload_n hx hb d_Mo_postfix_70 rfl (lv_at hl 1 rfl) ?_
        refine va_get (D := (dC, dI)) (ci := 6) (v := .int (q_at mo_6)) (C := R_Mo) (T := T_Mo) (N := 31) hx hb hts u_Mo hown hK hP 0 rfl rfl 6 (by decide) (hts _ L_927) (fun _ h9 => h9) rfl d_Mo_postfix_71 ?_
        refine mr_Vi (g := (f_Mo_make mo_6 44 3 (q_at mo_6))) (As := [.int 44, .int 3, .int (q_at mo_6)]) (rest := []) ⟨hx, hb, hml, hown, hts0⟩ (m_Mo_make l hlt dC dI cI cZ sa rk hm ma mo_6 _ 44 3 (q_at mo_6) (fun z => hg (by unfold f_Mo_postfix; rw [bndM_r w_1, bndM_r w_2, if_neg c_3, if_pos cb_4, if_pos c_5, bndM_r w_6, if_pos cb_7, if_pos c_8, bndM_n z]))) hP hD hK hS hA hC hZ hnt hlocks L_1046 L_1048 L_59 L_90 L_1049 k_Mo_make ⟨(by show _ ≤ fr0 + 15; omega), (by show _ ≤ lo0 + 299; omega)⟩ rfl rfl hl.1 (Nat.le_of_ble_eq_true rfl) d_Mo_postfix_74 rfl (fun q z => by unfold f_Mo_postfix; rw [bndM_r w_1, bndM_r w_2, if_neg c_3, if_pos cb_4, if_pos c_5, bndM_r w_6, if_pos cb_7, if_pos c_8, bndM_l z]) (fun r_11 mo_11 H locs w_11 hP hD hS => ?_)
        refine lv_istore_n (lv' := [(3, .int r_11), (2, .int r_1), (0, .ref hm), (1, .int depth)]) hx hb d_Mo_postfix_77 rfl hl (by decide) rfl (fun ls hl => ?_)
        refine lv_aload_n hx hb d_Mo_postfix_78 rfl (lv_at hl 2 rfl) ?_
        refine lv_dup hx hb d_Mo_postfix_79 rfl ?_
        refine va_get (D := (dC, dI)) (ci := 6) (v := .int (q_at mo_11)) (C := R_Mo) (T := T_Mo) (N := 31) hx hb hts u_Mo hown hK hP 0 rfl rfl 6 (by decide) (hts _ L_927) (fun _ h9 => h9) rfl d_Mo_postfix_80 ?_
        refine lv_iconst (v := 1) hx hb d_Mo_postfix_83 (by decide) ?_
        refine lv_iadd hx hb d_Mo_postfix_84 ?_
        refine va_put (D := (dC, dI)) (ci := 6) (v := .int ((q_at mo_11) + 1)) (ty := .int) (C := R_Mo) (T := T_Mo) (N := 31) hx hb hts u_Mo ty_Mo tk_Mo nm_Mo hown hK hP hD hS 0 rfl rfl 6 (by decide) (hts _ L_927) (fun _ h9 => h9) rfl (by decide +kernel) rfl rfl (Nat.le_of_ble_eq_true rfl) d_Mo_postfix_85 (fun H locs hP hD hS => ?_)
        have hP : va_P (dC, dI) cls (wM cI cZ hm ma (s_at mo_11 ((q_at mo_11) + 1))) H := hP
        have hD : va_D A (wM cI cZ hm ma (s_at mo_11 ((q_at mo_11) + 1))) := hD
        refine lv_aload_n hx hb d_Mo_postfix_88 rfl (lv_at hl 2 rfl) ?_
        refine lv_iload_n hx hb d_Mo_postfix_89 rfl (lv_at hl 0 rfl) ?_
        refine lv_iload_n hx hb d_Mo_postfix_90 rfl (lv_at hl 1 rfl) ?_
        refine mr_Vv (g := (f_Mo_hang (s_at mo_11 ((q_at mo_11) + 1)) r_11 r_1)) (As := [.int r_11, .int r_1]) (rest := []) ⟨hx, hb, hml, hown, hts0⟩ (m_Mo_hang l hlt dC dI cI cZ sa rk hm ma (s_at mo_11 ((q_at mo_11) + 1)) _ r_11 r_1 (fun z => hg (by unfold f_Mo_postfix; rw [bndM_r w_1, bndM_r w_2, if_neg c_3, if_pos cb_4, if_pos c_5, bndM_r w_6, if_pos cb_7, if_pos c_8, bndM_r w_11, bndM_n z]))) hP hD hK hS hA hC hZ hnt hlocks L_1115 L_1117 L_69 L_90 L_1118 k_Mo_hang ⟨(by show _ ≤ fr0 + 15; omega), (by show _ ≤ lo0 + 299; omega)⟩ rfl rfl hl.1 (Nat.le_of_ble_eq_true rfl) d_Mo_postfix_91 rfl (fun q z => by unfold f_Mo_postfix; rw [bndM_r w_1, bndM_r w_2, if_neg c_3, if_pos cb_4, if_pos c_5, bndM_r w_6, if_pos cb_7, if_pos c_8, bndM_r w_11, bndM_l z]) (fun mo_12 H locs w_12 hP hD hS => ?_)
        refine lv_iload_n hx hb d_Mo_postfix_94 rfl (lv_at hl 0 rfl) ?_
        exact mr_iret (v := r_11) (mo := mo_12) hx hb hr hlocks hK hP hD hS (by unfold f_Mo_postfix; rw [bndM_r w_1, bndM_r w_2, if_neg c_3, if_pos cb_4, if_pos c_5, bndM_r w_6, if_pos cb_7, if_pos c_8, bndM_r w_11, bndM_r w_12]) d_Mo_postfix_95
    · refine lv_iload_n hx hb d_Mo_postfix_37 rfl (lv_at hl 0 rfl) ?_
      exact mr_iret (v := r_1) (mo := mo_2) hx hb hr hlocks hK hP hD hS (by unfold f_Mo_postfix; rw [bndM_r w_1, bndM_r w_2, if_neg c_3, if_pos cb_4, if_neg c_5]) d_Mo_postfix_38
  · refine lv_aload_n hx hb d_Mo_postfix_16 rfl (lv_at hl 1 rfl) ?_
    refine lv_bipush (v := 74) hx hb d_Mo_postfix_17 (by decide) ?_
    refine mr_Vi (g := (f_Mo_isSign mo_2 74)) (As := [.int 74]) (rest := []) ⟨hx, hb, hml, hown, hts0⟩ (m_Mo_isSign l hlt dC dI cI cZ sa rk hm ma mo_2 _ 74 (fun z => hg (by unfold f_Mo_postfix; rw [bndM_r w_1, bndM_r w_2, if_pos c_3, bndM_n z]))) hP hD hK hS hA hC hZ hnt hlocks L_1053 L_1055 L_60 L_90 L_1056 k_Mo_isSign ⟨(by show _ ≤ fr0 + 15; omega), (by show _ ≤ lo0 + 299; omega)⟩ rfl rfl hl.1 (Nat.le_of_ble_eq_true rfl) d_Mo_postfix_19 rfl (fun q z => by unfold f_Mo_postfix; rw [bndM_r w_1, bndM_r w_2, if_pos c_3, bndM_l z]) (fun r_13 mo_13 H locs w_13 hP hD hS => ?_)
    refine lv_if_eq (tgt := 37) hx hb d_Mo_postfix_22 (by decide) (fun c_14 => ?_) (fun c_14 => ?_)
    · refine lv_iload_n hx hb d_Mo_postfix_37 rfl (lv_at hl 0 rfl) ?_
      exact mr_iret (v := r_1) (mo := mo_13) hx hb hr hlocks hK hP hD hS (by unfold f_Mo_postfix; rw [bndM_r w_1, bndM_r w_2, if_pos c_3, bndM_r w_13, if_pos c_14]) d_Mo_postfix_38
    · refine lv_aload_n hx hb d_Mo_postfix_25 rfl (lv_at hl 1 rfl) ?_
      refine va_get (D := (dC, dI)) (ci := 6) (v := .ref (ma 3)) (C := R_Mo) (T := T_Mo) (N := 31) hx hb hts u_Mo hown hK hP 0 rfl rfl 4 (by decide) (hts _ L_925) (fun _ h9 => h9) rfl d_Mo_postfix_26 ?_
      refine lv_aload_n hx hb d_Mo_postfix_29 rfl (lv_at hl 1 rfl) ?_
      refine va_get (D := (dC, dI)) (ci := 6) (v := .int (q_at mo_13)) (C := R_Mo) (T := T_Mo) (N := 31) hx hb hts u_Mo hown hK hP 0 rfl rfl 6 (by decide) (hts _ L_927) (fun _ h9 => h9) rfl d_Mo_postfix_30 ?_
      by_cases cb_15 : inb (q_at mo_13) 1001
      case neg => exact absurd (by unfold f_Mo_postfix; rw [bndM_r w_1, bndM_r w_2, if_pos c_3, bndM_r w_13, if_neg c_14, if_neg cb_15]) hg
      refine va_zald (D := (dC, dI)) hx hb hK hP 4 1 rfl rfl cb_15 d_Mo_postfix_33 ?_
      refine lv_if_eq (tgt := 39) hx hb d_Mo_postfix_34 (by decide) (fun c_16 => ?_) (fun c_16 => ?_)
      · refine lv_aload_n hx hb d_Mo_postfix_39 rfl (lv_at hl 1 rfl) ?_
        refine lv_iload_n hx hb d_Mo_postfix_40 rfl (lv_at hl 0 rfl) ?_
        refine lv_aload_n hx hb d_Mo_postfix_41 rfl (lv_at hl 1 rfl) ?_
        refine va_get (D := (dC, dI)) (ci := 6) (v := .int (q_at mo_13)) (C := R_Mo) (T := T_Mo) (N := 31) hx hb hts u_Mo hown hK hP 0 rfl rfl 6 (by decide) (hts _ L_927) (fun _ h9 => h9) rfl d_Mo_postfix_42 ?_
        refine mr_Vv (g := (f_Mo_changed mo_13 r_1 (q_at mo_13))) (As := [.int r_1, .int (q_at mo_13)]) (rest := []) ⟨hx, hb, hml, hown, hts0⟩ (m_Mo_changed l hlt dC dI cI cZ sa rk hm ma mo_13 _ r_1 (q_at mo_13) (fun z => hg (by unfold f_Mo_postfix; rw [bndM_r w_1, bndM_r w_2, if_pos c_3, bndM_r w_13, if_neg c_14, if_pos cb_15, if_pos c_16, bndM_n z]))) hP hD hK hS hA hC hZ hnt hlocks L_1191 L_1193 L_76 L_90 L_1194 k_Mo_changed ⟨(by show _ ≤ fr0 + 15; omega), (by show _ ≤ lo0 + 299; omega)⟩ rfl rfl hl.1 (Nat.le_of_ble_eq_true rfl) d_Mo_postfix_45 rfl (fun q z => by unfold f_Mo_postfix; rw [bndM_r w_1, bndM_r w_2, if_pos c_3, bndM_r w_13, if_neg c_14, if_pos cb_15, if_pos c_16, bndM_l z]) (fun mo_17 H locs w_17 hP hD hS => ?_)
        refine lv_aload_n hx hb d_Mo_postfix_48 rfl (lv_at hl 1 rfl) ?_
        refine lv_bipush (v := 44) hx hb d_Mo_postfix_49 (by decide) ?_
        refine lv_aload_n hx hb d_Mo_postfix_51 rfl (lv_at hl 1 rfl) ?_
        refine va_get (D := (dC, dI)) (ci := 6) (v := .ref (ma 1)) (C := R_Mo) (T := T_Mo) (N := 31) hx hb hts u_Mo hown hK hP 0 rfl rfl 2 (by decide) (hts _ L_923) (fun _ h9 => h9) rfl d_Mo_postfix_52 ?_
        refine lv_aload_n hx hb d_Mo_postfix_55 rfl (lv_at hl 1 rfl) ?_
        refine va_get (D := (dC, dI)) (ci := 6) (v := .int (q_at mo_17)) (C := R_Mo) (T := T_Mo) (N := 31) hx hb hts u_Mo hown hK hP 0 rfl rfl 6 (by decide) (hts _ L_927) (fun _ h9 => h9) rfl d_Mo_postfix_56 ?_
        by_cases cb_18 : inb (q_at mo_17) 1001
        case neg => exact absurd (by unfold f_Mo_postfix; rw [bndM_r w_1, bndM_r w_2, if_pos c_3, bndM_r w_13, if_neg c_14, if_pos cb_15, if_pos c_16, bndM_r w_17, if_neg cb_18]) hg
        refine va_iald (D := (dC, dI)) hx hb hK hP 2 0 rfl rfl cb_18 d_Mo_postfix_59 ?_
        refine lv_bipush (v := 73) hx hb d_Mo_postfix_60 (by decide) ?_
        refine lv_icmp_ne (tgt := 69) hx hb d_Mo_postfix_62 (by decide) (fun c_19 => ?_) (fun c_19 => ?_)
        · refine lv_iconst (v := 4) hx hb d_Mo_postfix_69 (by decide) ?_
          refine lv_aload_n hx hb d_Mo_postfix_70 rfl (lv_at hl 1 rfl) ?_
          refine va_get (D := (dC, dI)) (ci := 6) (v := .int (q_at mo_17)) (C := R_Mo) (T := T_Mo) (N := 31) hx hb hts u_Mo hown hK hP 0 rfl rfl 6 (by decide) (hts _ L_927) (fun _ h9 => h9) rfl d_Mo_postfix_71 ?_
          refine mr_Vi (g := (f_Mo_make mo_17 44 4 (q_at mo_17))) (As := [.int 44, .int 4, .int (q_at mo_17)]) (rest := []) ⟨hx, hb, hml, hown, hts0⟩ (m_Mo_make l hlt dC dI cI cZ sa rk hm ma mo_17 _ 44 4 (q_at mo_17) (fun z => hg (by unfold f_Mo_postfix; rw [bndM_r w_1, bndM_r w_2, if_pos c_3, bndM_r w_13, if_neg c_14, if_pos cb_15, if_pos c_16, bndM_r w_17, if_pos cb_18, if_neg c_19, bndM_n z]))) hP hD hK hS hA hC hZ hnt hlocks L_1046 L_1048 L_59 L_90 L_1049 k_Mo_make ⟨(by show _ ≤ fr0 + 15; omega), (by show _ ≤ lo0 + 299; omega)⟩ rfl rfl hl.1 (Nat.le_of_ble_eq_true rfl) d_Mo_postfix_74 rfl (fun q z => by unfold f_Mo_postfix; rw [bndM_r w_1, bndM_r w_2, if_pos c_3, bndM_r w_13, if_neg c_14, if_pos cb_15, if_pos c_16, bndM_r w_17, if_pos cb_18, if_neg c_19, bndM_l z]) (fun r_20 mo_20 H locs w_20 hP hD hS => ?_)
          refine lv_istore_n (lv' := [(3, .int r_20), (2, .int r_1), (0, .ref hm), (1, .int depth)]) hx hb d_Mo_postfix_77 rfl hl (by decide) rfl (fun ls hl => ?_)
          refine lv_aload_n hx hb d_Mo_postfix_78 rfl (lv_at hl 2 rfl) ?_
          refine lv_dup hx hb d_Mo_postfix_79 rfl ?_
          refine va_get (D := (dC, dI)) (ci := 6) (v := .int (q_at mo_20)) (C := R_Mo) (T := T_Mo) (N := 31) hx hb hts u_Mo hown hK hP 0 rfl rfl 6 (by decide) (hts _ L_927) (fun _ h9 => h9) rfl d_Mo_postfix_80 ?_
          refine lv_iconst (v := 1) hx hb d_Mo_postfix_83 (by decide) ?_
          refine lv_iadd hx hb d_Mo_postfix_84 ?_
          refine va_put (D := (dC, dI)) (ci := 6) (v := .int ((q_at mo_20) + 1)) (ty := .int) (C := R_Mo) (T := T_Mo) (N := 31) hx hb hts u_Mo ty_Mo tk_Mo nm_Mo hown hK hP hD hS 0 rfl rfl 6 (by decide) (hts _ L_927) (fun _ h9 => h9) rfl (by decide +kernel) rfl rfl (Nat.le_of_ble_eq_true rfl) d_Mo_postfix_85 (fun H locs hP hD hS => ?_)
          have hP : va_P (dC, dI) cls (wM cI cZ hm ma (s_at mo_20 ((q_at mo_20) + 1))) H := hP
          have hD : va_D A (wM cI cZ hm ma (s_at mo_20 ((q_at mo_20) + 1))) := hD
          refine lv_aload_n hx hb d_Mo_postfix_88 rfl (lv_at hl 2 rfl) ?_
          refine lv_iload_n hx hb d_Mo_postfix_89 rfl (lv_at hl 0 rfl) ?_
          refine lv_iload_n hx hb d_Mo_postfix_90 rfl (lv_at hl 1 rfl) ?_
          refine mr_Vv (g := (f_Mo_hang (s_at mo_20 ((q_at mo_20) + 1)) r_20 r_1)) (As := [.int r_20, .int r_1]) (rest := []) ⟨hx, hb, hml, hown, hts0⟩ (m_Mo_hang l hlt dC dI cI cZ sa rk hm ma (s_at mo_20 ((q_at mo_20) + 1)) _ r_20 r_1 (fun z => hg (by unfold f_Mo_postfix; rw [bndM_r w_1, bndM_r w_2, if_pos c_3, bndM_r w_13, if_neg c_14, if_pos cb_15, if_pos c_16, bndM_r w_17, if_pos cb_18, if_neg c_19, bndM_r w_20, bndM_n z]))) hP hD hK hS hA hC hZ hnt hlocks L_1115 L_1117 L_69 L_90 L_1118 k_Mo_hang ⟨(by show _ ≤ fr0 + 15; omega), (by show _ ≤ lo0 + 299; omega)⟩ rfl rfl hl.1 (Nat.le_of_ble_eq_true rfl) d_Mo_postfix_91 rfl (fun q z => by unfold f_Mo_postfix; rw [bndM_r w_1, bndM_r w_2, if_pos c_3, bndM_r w_13, if_neg c_14, if_pos cb_15, if_pos c_16, bndM_r w_17, if_pos cb_18, if_neg c_19, bndM_r w_20, bndM_l z]) (fun mo_21 H locs w_21 hP hD hS => ?_)
          refine lv_iload_n hx hb d_Mo_postfix_94 rfl (lv_at hl 0 rfl) ?_
          exact mr_iret (v := r_20) (mo := mo_21) hx hb hr hlocks hK hP hD hS (by unfold f_Mo_postfix; rw [bndM_r w_1, bndM_r w_2, if_pos c_3, bndM_r w_13, if_neg c_14, if_pos cb_15, if_pos c_16, bndM_r w_17, if_pos cb_18, if_neg c_19, bndM_r w_20, bndM_r w_21]) d_Mo_postfix_95
        · refine lv_iconst (v := 3) hx hb d_Mo_postfix_65 (by decide) ?_
          refine lv_goto (tgt := 70) hx hb d_Mo_postfix_66 (by decide) ?_
          refine lv_aload_n hx hb d_Mo_postfix_70 rfl (lv_at hl 1 rfl) ?_
          refine va_get (D := (dC, dI)) (ci := 6) (v := .int (q_at mo_17)) (C := R_Mo) (T := T_Mo) (N := 31) hx hb hts u_Mo hown hK hP 0 rfl rfl 6 (by decide) (hts _ L_927) (fun _ h9 => h9) rfl d_Mo_postfix_71 ?_
          refine mr_Vi (g := (f_Mo_make mo_17 44 3 (q_at mo_17))) (As := [.int 44, .int 3, .int (q_at mo_17)]) (rest := []) ⟨hx, hb, hml, hown, hts0⟩ (m_Mo_make l hlt dC dI cI cZ sa rk hm ma mo_17 _ 44 3 (q_at mo_17) (fun z => hg (by unfold f_Mo_postfix; rw [bndM_r w_1, bndM_r w_2, if_pos c_3, bndM_r w_13, if_neg c_14, if_pos cb_15, if_pos c_16, bndM_r w_17, if_pos cb_18, if_pos c_19, bndM_n z]))) hP hD hK hS hA hC hZ hnt hlocks L_1046 L_1048 L_59 L_90 L_1049 k_Mo_make ⟨(by show _ ≤ fr0 + 15; omega), (by show _ ≤ lo0 + 299; omega)⟩ rfl rfl hl.1 (Nat.le_of_ble_eq_true rfl) d_Mo_postfix_74 rfl (fun q z => by unfold f_Mo_postfix; rw [bndM_r w_1, bndM_r w_2, if_pos c_3, bndM_r w_13, if_neg c_14, if_pos cb_15, if_pos c_16, bndM_r w_17, if_pos cb_18, if_pos c_19, bndM_l z]) (fun r_22 mo_22 H locs w_22 hP hD hS => ?_)
          refine lv_istore_n (lv' := [(3, .int r_22), (2, .int r_1), (0, .ref hm), (1, .int depth)]) hx hb d_Mo_postfix_77 rfl hl (by decide) rfl (fun ls hl => ?_)
          refine lv_aload_n hx hb d_Mo_postfix_78 rfl (lv_at hl 2 rfl) ?_
          refine lv_dup hx hb d_Mo_postfix_79 rfl ?_
          refine va_get (D := (dC, dI)) (ci := 6) (v := .int (q_at mo_22)) (C := R_Mo) (T := T_Mo) (N := 31) hx hb hts u_Mo hown hK hP 0 rfl rfl 6 (by decide) (hts _ L_927) (fun _ h9 => h9) rfl d_Mo_postfix_80 ?_
          refine lv_iconst (v := 1) hx hb d_Mo_postfix_83 (by decide) ?_
          refine lv_iadd hx hb d_Mo_postfix_84 ?_
          refine va_put (D := (dC, dI)) (ci := 6) (v := .int ((q_at mo_22) + 1)) (ty := .int) (C := R_Mo) (T := T_Mo) (N := 31) hx hb hts u_Mo ty_Mo tk_Mo nm_Mo hown hK hP hD hS 0 rfl rfl 6 (by decide) (hts _ L_927) (fun _ h9 => h9) rfl (by decide +kernel) rfl rfl (Nat.le_of_ble_eq_true rfl) d_Mo_postfix_85 (fun H locs hP hD hS => ?_)
          have hP : va_P (dC, dI) cls (wM cI cZ hm ma (s_at mo_22 ((q_at mo_22) + 1))) H := hP
          have hD : va_D A (wM cI cZ hm ma (s_at mo_22 ((q_at mo_22) + 1))) := hD
          refine lv_aload_n hx hb d_Mo_postfix_88 rfl (lv_at hl 2 rfl) ?_
          refine lv_iload_n hx hb d_Mo_postfix_89 rfl (lv_at hl 0 rfl) ?_
          refine lv_iload_n hx hb d_Mo_postfix_90 rfl (lv_at hl 1 rfl) ?_
          refine mr_Vv (g := (f_Mo_hang (s_at mo_22 ((q_at mo_22) + 1)) r_22 r_1)) (As := [.int r_22, .int r_1]) (rest := []) ⟨hx, hb, hml, hown, hts0⟩ (m_Mo_hang l hlt dC dI cI cZ sa rk hm ma (s_at mo_22 ((q_at mo_22) + 1)) _ r_22 r_1 (fun z => hg (by unfold f_Mo_postfix; rw [bndM_r w_1, bndM_r w_2, if_pos c_3, bndM_r w_13, if_neg c_14, if_pos cb_15, if_pos c_16, bndM_r w_17, if_pos cb_18, if_pos c_19, bndM_r w_22, bndM_n z]))) hP hD hK hS hA hC hZ hnt hlocks L_1115 L_1117 L_69 L_90 L_1118 k_Mo_hang ⟨(by show _ ≤ fr0 + 15; omega), (by show _ ≤ lo0 + 299; omega)⟩ rfl rfl hl.1 (Nat.le_of_ble_eq_true rfl) d_Mo_postfix_91 rfl (fun q z => by unfold f_Mo_postfix; rw [bndM_r w_1, bndM_r w_2, if_pos c_3, bndM_r w_13, if_neg c_14, if_pos cb_15, if_pos c_16, bndM_r w_17, if_pos cb_18, if_pos c_19, bndM_r w_22, bndM_l z]) (fun mo_23 H locs w_23 hP hD hS => ?_)
          refine lv_iload_n hx hb d_Mo_postfix_94 rfl (lv_at hl 0 rfl) ?_
          exact mr_iret (v := r_22) (mo := mo_23) hx hb hr hlocks hK hP hD hS (by unfold f_Mo_postfix; rw [bndM_r w_1, bndM_r w_2, if_pos c_3, bndM_r w_13, if_neg c_14, if_pos cb_15, if_pos c_16, bndM_r w_17, if_pos cb_18, if_pos c_19, bndM_r w_22, bndM_r w_23]) d_Mo_postfix_95
      · refine lv_iload_n hx hb d_Mo_postfix_37 rfl (lv_at hl 0 rfl) ?_
        exact mr_iret (v := r_1) (mo := mo_13) hx hb hr hlocks hK hP hD hS (by unfold f_Mo_postfix; rw [bndM_r w_1, bndM_r w_2, if_pos c_3, bndM_r w_13, if_neg c_14, if_pos cb_15, if_neg c_16]) d_Mo_postfix_38
def f_Mo_unary (K : Nat → List Int32 → MO → Rm) (mo : MO) (depth : Int32) : Rm := (bndM (f_Mo_deep mo depth) (fun _ mo_1 => (bndM (f_Mo_prefix mo_1) (fun r_2 mo_2 => (if 0 ≤ r_2 then (bndM (f_Mo_make mo_2 43 r_2 (q_at mo_2)) (fun r_4 mo_4 => (bndM (K 3 [(depth + 1)] (s_at mo_4 ((q_at mo_4) + 1))) (fun r_5 mo_5 => (if r_2 = 3 then (if inb r_4 2600 then (bndM (f_Mo_changed mo_5 r_5 ((q_spot mo_5) (r_4 : Int32).toNatClampNeg)) (fun _ mo_8 => (if r_2 = 0 then (if (q_strict mo_8) = 0 then (bndM (f_Mo_hang mo_8 r_4 r_5) (fun _ mo_12 => (some (.inr (r_4, mo_12))))) else (if inb r_5 2600 then (if ((q_kind mo_8) (r_5 : Int32).toNatClampNeg) = 28 then (bndM (f_Mo_refuse mo_8 ((q_spot mo_8) (r_4 : Int32).toNatClampNeg)) (fun _ mo_16 => (bndM (f_Mo_hang mo_16 r_4 r_5) (fun _ mo_17 => (some (.inr (r_4, mo_17))))))) else (bndM (f_Mo_hang mo_8 r_4 r_5) (fun _ mo_15 => (some (.inr (r_4, mo_15)))))) else none)) else (bndM (f_Mo_hang mo_8 r_4 r_5) (fun _ mo_10 => (some (.inr (r_4, mo_10)))))))) else none) else (if r_2 = 4 then (if inb r_4 2600 then (bndM (f_Mo_changed mo_5 r_5 ((q_spot mo_5) (r_4 : Int32).toNatClampNeg)) (fun _ mo_30 => (if r_2 = 0 then (if (q_strict mo_30) = 0 then (bndM (f_Mo_hang mo_30 r_4 r_5) (fun _ mo_34 => (some (.inr (r_4, mo_34))))) else (if inb r_5 2600 then (if ((q_kind mo_30) (r_5 : Int32).toNatClampNeg) = 28 then (bndM (f_Mo_refuse mo_30 ((q_spot mo_30) (r_4 : Int32).toNatClampNeg)) (fun _ mo_38 => (bndM (f_Mo_hang mo_38 r_4 r_5) (fun _ mo_39 => (some (.inr (r_4, mo_39))))))) else (bndM (f_Mo_hang mo_30 r_4 r_5) (fun _ mo_37 => (some (.inr (r_4, mo_37)))))) else none)) else (bndM (f_Mo_hang mo_30 r_4 r_5) (fun _ mo_32 => (some (.inr (r_4, mo_32)))))))) else none) else (if r_2 = 0 then (if (q_strict mo_5) = 0 then (bndM (f_Mo_hang mo_5 r_4 r_5) (fun _ mo_22 => (some (.inr (r_4, mo_22))))) else (if inb r_5 2600 then (if ((q_kind mo_5) (r_5 : Int32).toNatClampNeg) = 28 then (if inb r_4 2600 then (bndM (f_Mo_refuse mo_5 ((q_spot mo_5) (r_4 : Int32).toNatClampNeg)) (fun _ mo_27 => (bndM (f_Mo_hang mo_27 r_4 r_5) (fun _ mo_28 => (some (.inr (r_4, mo_28))))))) else none) else (bndM (f_Mo_hang mo_5 r_4 r_5) (fun _ mo_25 => (some (.inr (r_4, mo_25)))))) else none)) else (bndM (f_Mo_hang mo_5 r_4 r_5) (fun _ mo_20 => (some (.inr (r_4, mo_20)))))))))))) else (bndM (f_Mo_postfix K mo_2 depth) (fun r_40 mo_40 => (some (.inr (r_40, mo_40))))))))))
set_option maxRecDepth 100000 in
set_option maxHeartbeats 4000000 in
theorem m_Mo_unary (l : Launch) (hlt : l.stackTraces = false) (dC : Nat → ClassId) (dI : Nat → Nat → Nat) (cI cZ : ClassId) (sa rk hm : Nat) (ma : Nat → Nat) (fr0 lo0 : Nat) (K : Nat → List Int32 → MO → Rm) (hR0 : ∀ (mo : MO) (sz : Nat) (p0 p1 : Int32), K 0 [p0, p1] mo ≠ none → cXi l y_Mo_expression c_Mo_expression 5 .int fr0 lo0 (dC, dI) cI cZ sa rk hm ma mo sz [.ref hm, .int p0, .int p1] (K 0 [p0, p1] mo)) (hR1 : ∀ (mo : MO) (sz : Nat) (p0 p1 : Int32), K 1 [p0, p1] mo ≠ none → cXi l y_Mo_assignment c_Mo_assignment 5 .int fr0 lo0 (dC, dI) cI cZ sa rk hm ma mo sz [.ref hm, .int p0, .int p1] (K 1 [p0, p1] mo)) (hR2 : ∀ (mo : MO) (sz : Nat) (p0 p1 p2 : Int32), K 2 [p0, p1, p2] mo ≠ none → cXi l y_Mo_binary c_Mo_binary 7 .int fr0 lo0 (dC, dI) cI cZ sa rk hm ma mo sz [.ref hm, .int p0, .int p1, .int p2] (K 2 [p0, p1, p2] mo)) (hR3 : ∀ (mo : MO) (sz : Nat) (p0 : Int32), K 3 [p0] mo ≠ none → cXi l y_Mo_unary c_Mo_unary 5 .int fr0 lo0 (dC, dI) cI cZ sa rk hm ma mo sz [.ref hm, .int p0] (K 3 [p0] mo)) (hR4 : ∀ (mo : MO) (sz : Nat) (p0 p1 : Int32), K 4 [p0, p1] mo ≠ none → cXi l y_Mo_member c_Mo_member 6 .int fr0 lo0 (dC, dI) cI cZ sa rk hm ma mo sz [.ref hm, .int p0, .int p1] (K 4 [p0, p1] mo)) (hR5 : ∀ (mo : MO) (sz : Nat) (p0 p1 : Int32), K 5 [p0, p1] mo ≠ none → cXi l y_Mo_statement c_Mo_statement 3 .int fr0 lo0 (dC, dI) cI cZ sa rk hm ma mo sz [.ref hm, .int p0, .int p1] (K 5 [p0, p1] mo)) (hR6 : ∀ (mo : MO) (sz : Nat) (p0 p1 p2 : Int32), K 6 [p0, p1, p2] mo ≠ none → cXv l y_Mo_statements c_Mo_statements 8 fr0 lo0 (dC, dI) cI cZ sa rk hm ma mo sz [.ref hm, .int p0, .int p1, .int p2] (K 6 [p0, p1, p2] mo)) (hR7 : ∀ (mo : MO) (sz : Nat) (p0 : Int32), K 7 [p0] mo ≠ none → cXi l y_Mo_block c_Mo_block 4 .int fr0 lo0 (dC, dI) cI cZ sa rk hm ma mo sz [.ref hm, .int p0] (K 7 [p0] mo)) (mo : MO) (sz : Nat) (depth : Int32) (hg : (f_Mo_unary K mo depth) ≠ none) : cXi l y_Mo_unary c_Mo_unary 5 .int (fr0 + 16) (lo0 + 322) (dC, dI) cI cZ sa rk hm ma mo sz [.ref hm, .int depth] (f_Mo_unary K mo depth) := by
  refine vx_ofW (cc := c_Mo_unary) (maxL := 5) (ret := (some .int)) (by decide) rfl ?_
  intro p e s m args below meth c s₁ B hml hnt hv
  obtain ⟨rfl, hsz, hP, hK, hD0, hC, hZ⟩ := hv
  have hx := B.exec
  have hb := B.bytes
  have hr := B.returns
  have hts0 := atoms_spec (ws := wy y_Mo_unary c_Mo_unary 5 (some .int)) B.pre
  have hts := htsL hts0
  have hown : s.vm.findClass R_Mo = some m.cls := findClass_of_methodNamed B.named
  have hlocks := B.notSynchronized
  subst hsz
  have hD := hD0.self (sz := s.heap.size)
  generalize hAe : va_A (wM cI cZ hm ma mo) s.heap.size = A at hD hZ ⊢
  have hA : ∀ q : Nat, s.heap.size ≤ q → A q := fun q h => by rw [← hAe]; exact Or.inr h
  have hS : va_S A s.heap s.heap [] := va_S.rf
  have hl := lv_entry ([.ref hm, .int depth]) (n := 5) (Nat.le_of_ble_eq_true rfl)
  rw [lg_entry_eq]
  generalize (lg_sl ([.ref hm, .int depth]) ++ List.replicate (5 - (lg_sl ([.ref hm, .int depth])).length) Slot.unset).toArray = ls at hl ⊢
  have hl : lv_has ls 5 [(0, .ref hm), (1, .int depth)] := hl
  refine lv_aload_n hx hb d_Mo_unary_0 rfl (lv_at hl 0 rfl) ?_
  refine lv_iload_n hx hb d_Mo_unary_1 rfl (lv_at hl 1 rfl) ?_
  refine mr_Vv (g := (f_Mo_deep mo depth)) (As := [.int depth]) (rest := []) ⟨hx, hb, hml, hown, hts0⟩ (m_Mo_deep l hlt dC dI cI cZ sa rk hm ma mo _ depth (fun z => hg (by unfold f_Mo_unary; rw [bndM_n z]))) hP hD hK hS hA hC hZ hnt hlocks L_1068 L_1070 L_63 L_90 L_1071 k_Mo_deep ⟨(by show _ ≤ fr0 + 16; omega), (by show _ ≤ lo0 + 322; omega)⟩ rfl rfl hl.1 (Nat.le_of_ble_eq_true rfl) d_Mo_unary_2 rfl (fun q z => by unfold f_Mo_unary; rw [bndM_l z]) (fun mo_1 H locs w_1 hP hD hS => ?_)
  refine lv_aload_n hx hb d_Mo_unary_5 rfl (lv_at hl 0 rfl) ?_
  refine mr_Vi (g := (f_Mo_prefix mo_1)) (As := []) (rest := []) ⟨hx, hb, hml, hown, hts0⟩ (m_Mo_prefix l hlt dC dI cI cZ sa rk hm ma mo_1 _  (fun z => hg (by unfold f_Mo_unary; rw [bndM_r w_1, bndM_n z]))) hP hD hK hS hA hC hZ hnt hlocks L_1147 L_1149 L_71 L_90 L_1150 k_Mo_prefix ⟨(by show _ ≤ fr0 + 16; omega), (by show _ ≤ lo0 + 322; omega)⟩ rfl rfl hl.1 (Nat.le_of_ble_eq_true rfl) d_Mo_unary_6 rfl (fun q z => by unfold f_Mo_unary; rw [bndM_r w_1, bndM_l z]) (fun r_2 mo_2 H locs w_2 hP hD hS => ?_)
  refine lv_istore_n (lv' := [(2, .int r_2), (0, .ref hm), (1, .int depth)]) hx hb d_Mo_unary_9 rfl hl (by decide) rfl (fun ls hl => ?_)
  refine lv_iload_n hx hb d_Mo_unary_10 rfl (lv_at hl 0 rfl) ?_
  refine lv_if_ge (tgt := 20) hx hb d_Mo_unary_11 (by decide) (fun c_3 => ?_) (fun c_3 => ?_)
  · refine lv_aload_n hx hb d_Mo_unary_20 rfl (lv_at hl 1 rfl) ?_
    refine lv_bipush (v := 43) hx hb d_Mo_unary_21 (by decide) ?_
    refine lv_iload_n hx hb d_Mo_unary_23 rfl (lv_at hl 0 rfl) ?_
    refine lv_aload_n hx hb d_Mo_unary_24 rfl (lv_at hl 1 rfl) ?_
    refine va_get (D := (dC, dI)) (ci := 6) (v := .int (q_at mo_2)) (C := R_Mo) (T := T_Mo) (N := 31) hx hb hts u_Mo hown hK hP 0 rfl rfl 6 (by decide) (hts _ L_927) (fun _ h9 => h9) rfl d_Mo_unary_25 ?_
    refine mr_Vi (g := (f_Mo_make mo_2 43 r_2 (q_at mo_2))) (As := [.int 43, .int r_2, .int (q_at mo_2)]) (rest := []) ⟨hx, hb, hml, hown, hts0⟩ (m_Mo_make l hlt dC dI cI cZ sa rk hm ma mo_2 _ 43 r_2 (q_at mo_2) (fun z => hg (by unfold f_Mo_unary; rw [bndM_r w_1, bndM_r w_2, if_pos c_3, bndM_n z]))) hP hD hK hS hA hC hZ hnt hlocks L_1046 L_1048 L_59 L_90 L_1049 k_Mo_make ⟨(by show _ ≤ fr0 + 16; omega), (by show _ ≤ lo0 + 322; omega)⟩ rfl rfl hl.1 (Nat.le_of_ble_eq_true rfl) d_Mo_unary_28 rfl (fun q z => by unfold f_Mo_unary; rw [bndM_r w_1, bndM_r w_2, if_pos c_3, bndM_l z]) (fun r_4 mo_4 H locs w_4 hP hD hS => ?_)
    refine lv_istore_n (lv' := [(3, .int r_4), (2, .int r_2), (0, .ref hm), (1, .int depth)]) hx hb d_Mo_unary_31 rfl hl (by decide) rfl (fun ls hl => ?_)
    refine lv_aload_n hx hb d_Mo_unary_32 rfl (lv_at hl 2 rfl) ?_
    refine lv_dup hx hb d_Mo_unary_33 rfl ?_
    refine va_get (D := (dC, dI)) (ci := 6) (v := .int (q_at mo_4)) (C := R_Mo) (T := T_Mo) (N := 31) hx hb hts u_Mo hown hK hP 0 rfl rfl 6 (by decide) (hts _ L_927) (fun _ h9 => h9) rfl d_Mo_unary_34 ?_
    refine lv_iconst (v := 1) hx hb d_Mo_unary_37 (by decide) ?_
    refine lv_iadd hx hb d_Mo_unary_38 ?_
    refine va_put (D := (dC, dI)) (ci := 6) (v := .int ((q_at mo_4) + 1)) (ty := .int) (C := R_Mo) (T := T_Mo) (N := 31) hx hb hts u_Mo ty_Mo tk_Mo nm_Mo hown hK hP hD hS 0 rfl rfl 6 (by decide) (hts _ L_927) (fun _ h9 => h9) rfl (by decide +kernel) rfl rfl (Nat.le_of_ble_eq_true rfl) d_Mo_unary_39 (fun H locs hP hD hS => ?_)
    have hP : va_P (dC, dI) cls (wM cI cZ hm ma (s_at mo_4 ((q_at mo_4) + 1))) H := hP
    have hD : va_D A (wM cI cZ hm ma (s_at mo_4 ((q_at mo_4) + 1))) := hD
    refine lv_aload_n hx hb d_Mo_unary_42 rfl (lv_at hl 2 rfl) ?_
    refine lv_iload_n hx hb d_Mo_unary_43 rfl (lv_at hl 3 rfl) ?_
    refine lv_iconst (v := 1) hx hb d_Mo_unary_44 (by decide) ?_
    refine lv_iadd hx hb d_Mo_unary_45 ?_
    refine mr_Si (g := (K 3 [(depth + 1)] (s_at mo_4 ((q_at mo_4) + 1)))) (As := [.ref hm, .int (depth + 1)]) (rest := []) ⟨hx, hb, hml, hown, hts0⟩ (hR3 (s_at mo_4 ((q_at mo_4) + 1)) _ (depth + 1) (fun z => hg (by unfold f_Mo_unary; rw [bndM_r w_1, bndM_r w_2, if_pos c_3, bndM_r w_4, bndM_n z]))) hP hD hK hS hA hC hZ hnt hlocks L_1144 L_1145 L_90 L_1146 k_Mo_unary ⟨(by show _ ≤ fr0 + 16; omega), (by show _ ≤ lo0 + 322; omega)⟩ rfl rfl hl.1 (Nat.le_of_ble_eq_true rfl) d_Mo_unary_46 rfl (fun q z => by unfold f_Mo_unary; rw [bndM_r w_1, bndM_r w_2, if_pos c_3, bndM_r w_4, bndM_l z]) (fun r_5 mo_5 H locs w_5 hP hD hS => ?_)
    refine lv_istore (lv' := [(4, .int r_5), (3, .int r_4), (2, .int r_2), (0, .ref hm), (1, .int depth)]) hx hb d_Mo_unary_49 hl (by decide) rfl (fun ls hl => ?_)
    refine lv_iload_n hx hb d_Mo_unary_51 rfl (lv_at hl 2 rfl) ?_
    refine lv_iconst (v := 3) hx hb d_Mo_unary_52 (by decide) ?_
    refine lv_icmp_eq (tgt := 61) hx hb d_Mo_unary_53 (by decide) (fun c_6 => ?_) (fun c_6 => ?_)
    · refine lv_aload_n hx hb d_Mo_unary_61 rfl (lv_at hl 3 rfl) ?_
      refine lv_iload hx hb d_Mo_unary_62 (lv_at hl 0 rfl) ?_
      refine lv_aload_n hx hb d_Mo_unary_64 rfl (lv_at hl 3 rfl) ?_
      refine va_get (D := (dC, dI)) (ci := 6) (v := .ref (ma 6)) (C := R_Mo) (T := T_Mo) (N := 31) hx hb hts u_Mo hown hK hP 0 rfl rfl 11 (by decide) (hts _ L_932) (fun _ h9 => h9) rfl d_Mo_unary_65 ?_
      refine lv_iload_n hx hb d_Mo_unary_68 rfl (lv_at hl 1 rfl) ?_
      by_cases cb_7 : inb r_4 2600
      case neg => exact absurd (by unfold f_Mo_unary; rw [bndM_r w_1, bndM_r w_2, if_pos c_3, bndM_r w_4, bndM_r w_5, if_pos c_6, if_neg cb_7]) hg
      refine va_iald (D := (dC, dI)) hx hb hK hP 7 0 rfl rfl cb_7 d_Mo_unary_69 ?_
      refine mr_Vv (g := (f_Mo_changed mo_5 r_5 ((q_spot mo_5) (r_4 : Int32).toNatClampNeg))) (As := [.int r_5, .int ((q_spot mo_5) (r_4 : Int32).toNatClampNeg)]) (rest := []) ⟨hx, hb, hml, hown, hts0⟩ (m_Mo_changed l hlt dC dI cI cZ sa rk hm ma mo_5 _ r_5 ((q_spot mo_5) (r_4 : Int32).toNatClampNeg) (fun z => hg (by unfold f_Mo_unary; rw [bndM_r w_1, bndM_r w_2, if_pos c_3, bndM_r w_4, bndM_r w_5, if_pos c_6, if_pos cb_7, bndM_n z]))) hP hD hK hS hA hC hZ hnt hlocks L_1191 L_1193 L_76 L_90 L_1194 k_Mo_changed ⟨(by show _ ≤ fr0 + 16; omega), (by show _ ≤ lo0 + 322; omega)⟩ rfl rfl hl.1 (Nat.le_of_ble_eq_true rfl) d_Mo_unary_70 rfl (fun q z => by unfold f_Mo_unary; rw [bndM_r w_1, bndM_r w_2, if_pos c_3, bndM_r w_4, bndM_r w_5, if_pos c_6, if_pos cb_7, bndM_l z]) (fun mo_8 H locs w_8 hP hD hS => ?_)
      refine lv_iload_n hx hb d_Mo_unary_73 rfl (lv_at hl 2 rfl) ?_
      refine lv_if_ne (tgt := 106) hx hb d_Mo_unary_74 (by decide) (fun c_9 => ?_) (fun c_9 => ?_)
      · refine lv_aload_n hx hb d_Mo_unary_106 rfl (lv_at hl 3 rfl) ?_
        refine lv_iload_n hx hb d_Mo_unary_107 rfl (lv_at hl 1 rfl) ?_
        refine lv_iload hx hb d_Mo_unary_108 (lv_at hl 0 rfl) ?_
        refine mr_Vv (g := (f_Mo_hang mo_8 r_4 r_5)) (As := [.int r_4, .int r_5]) (rest := []) ⟨hx, hb, hml, hown, hts0⟩ (m_Mo_hang l hlt dC dI cI cZ sa rk hm ma mo_8 _ r_4 r_5 (fun z => hg (by unfold f_Mo_unary; rw [bndM_r w_1, bndM_r w_2, if_pos c_3, bndM_r w_4, bndM_r w_5, if_pos c_6, if_pos cb_7, bndM_r w_8, if_neg c_9, bndM_n z]))) hP hD hK hS hA hC hZ hnt hlocks L_1115 L_1117 L_69 L_90 L_1118 k_Mo_hang ⟨(by show _ ≤ fr0 + 16; omega), (by show _ ≤ lo0 + 322; omega)⟩ rfl rfl hl.1 (Nat.le_of_ble_eq_true rfl) d_Mo_unary_110 rfl (fun q z => by unfold f_Mo_unary; rw [bndM_r w_1, bndM_r w_2, if_pos c_3, bndM_r w_4, bndM_r w_5, if_pos c_6, if_pos cb_7, bndM_r w_8, if_neg c_9, bndM_l z]) (fun mo_10 H locs w_10 hP hD hS => ?_)
        refine lv_iload_n hx hb d_Mo_unary_113 rfl (lv_at hl 1 rfl) ?_
        exact mr_iret (v := r_4) (mo := mo_10) hx hb hr hlocks hK hP hD hS (by unfold f_Mo_unary; rw [bndM_r w_1, bndM_r w_2, if_pos c_3, bndM_r w_4, bndM_r w_5, if_pos c_6, if_pos cb_7, bndM_r w_8, if_neg c_9, bndM_r w_10]) d_Mo_unary_114
      · refine lv_aload_n hx hb d_Mo_unary_77 rfl (lv_at hl 3 rfl) ?_
        refine va_get (D := (dC, dI)) (ci := 6) (v := .int (q_strict mo_8)) (C := R_Mo) (T := T_Mo) (N := 31) hx hb hts u_Mo hown hK hP 0 rfl rfl 19 (by decide) (hts _ L_940) (fun _ h9 => h9) rfl d_Mo_unary_78 ?_
        refine lv_if_eq (tgt := 106) hx hb d_Mo_unary_81 (by decide) (fun c_11 => ?_) (fun c_11 => ?_)
        · refine lv_aload_n hx hb d_Mo_unary_106 rfl (lv_at hl 3 rfl) ?_
          refine lv_iload_n hx hb d_Mo_unary_107 rfl (lv_at hl 1 rfl) ?_
          refine lv_iload hx hb d_Mo_unary_108 (lv_at hl 0 rfl) ?_
          refine mr_Vv (g := (f_Mo_hang mo_8 r_4 r_5)) (As := [.int r_4, .int r_5]) (rest := []) ⟨hx, hb, hml, hown, hts0⟩ (m_Mo_hang l hlt dC dI cI cZ sa rk hm ma mo_8 _ r_4 r_5 (fun z => hg (by unfold f_Mo_unary; rw [bndM_r w_1, bndM_r w_2, if_pos c_3, bndM_r w_4, bndM_r w_5, if_pos c_6, if_pos cb_7, bndM_r w_8, if_pos c_9, if_pos c_11, bndM_n z]))) hP hD hK hS hA hC hZ hnt hlocks L_1115 L_1117 L_69 L_90 L_1118 k_Mo_hang ⟨(by show _ ≤ fr0 + 16; omega), (by show _ ≤ lo0 + 322; omega)⟩ rfl rfl hl.1 (Nat.le_of_ble_eq_true rfl) d_Mo_unary_110 rfl (fun q z => by unfold f_Mo_unary; rw [bndM_r w_1, bndM_r w_2, if_pos c_3, bndM_r w_4, bndM_r w_5, if_pos c_6, if_pos cb_7, bndM_r w_8, if_pos c_9, if_pos c_11, bndM_l z]) (fun mo_12 H locs w_12 hP hD hS => ?_)
          refine lv_iload_n hx hb d_Mo_unary_113 rfl (lv_at hl 1 rfl) ?_
          exact mr_iret (v := r_4) (mo := mo_12) hx hb hr hlocks hK hP hD hS (by unfold f_Mo_unary; rw [bndM_r w_1, bndM_r w_2, if_pos c_3, bndM_r w_4, bndM_r w_5, if_pos c_6, if_pos cb_7, bndM_r w_8, if_pos c_9, if_pos c_11, bndM_r w_12]) d_Mo_unary_114
        · refine lv_aload_n hx hb d_Mo_unary_84 rfl (lv_at hl 3 rfl) ?_
          refine va_get (D := (dC, dI)) (ci := 6) (v := .ref (ma 4)) (C := R_Mo) (T := T_Mo) (N := 31) hx hb hts u_Mo hown hK hP 0 rfl rfl 9 (by decide) (hts _ L_930) (fun _ h9 => h9) rfl d_Mo_unary_85 ?_
          refine lv_iload hx hb d_Mo_unary_88 (lv_at hl 0 rfl) ?_
          by_cases cb_13 : inb r_5 2600
          case neg => exact absurd (by unfold f_Mo_unary; rw [bndM_r w_1, bndM_r w_2, if_pos c_3, bndM_r w_4, bndM_r w_5, if_pos c_6, if_pos cb_7, bndM_r w_8, if_pos c_9, if_neg c_11, if_neg cb_13]) hg
          refine va_iald (D := (dC, dI)) hx hb hK hP 5 0 rfl rfl cb_13 d_Mo_unary_90 ?_
          refine lv_bipush (v := 28) hx hb d_Mo_unary_91 (by decide) ?_
          refine lv_icmp_ne (tgt := 106) hx hb d_Mo_unary_93 (by decide) (fun c_14 => ?_) (fun c_14 => ?_)
          · refine lv_aload_n hx hb d_Mo_unary_106 rfl (lv_at hl 3 rfl) ?_
            refine lv_iload_n hx hb d_Mo_unary_107 rfl (lv_at hl 1 rfl) ?_
            refine lv_iload hx hb d_Mo_unary_108 (lv_at hl 0 rfl) ?_
            refine mr_Vv (g := (f_Mo_hang mo_8 r_4 r_5)) (As := [.int r_4, .int r_5]) (rest := []) ⟨hx, hb, hml, hown, hts0⟩ (m_Mo_hang l hlt dC dI cI cZ sa rk hm ma mo_8 _ r_4 r_5 (fun z => hg (by unfold f_Mo_unary; rw [bndM_r w_1, bndM_r w_2, if_pos c_3, bndM_r w_4, bndM_r w_5, if_pos c_6, if_pos cb_7, bndM_r w_8, if_pos c_9, if_neg c_11, if_pos cb_13, if_neg c_14, bndM_n z]))) hP hD hK hS hA hC hZ hnt hlocks L_1115 L_1117 L_69 L_90 L_1118 k_Mo_hang ⟨(by show _ ≤ fr0 + 16; omega), (by show _ ≤ lo0 + 322; omega)⟩ rfl rfl hl.1 (Nat.le_of_ble_eq_true rfl) d_Mo_unary_110 rfl (fun q z => by unfold f_Mo_unary; rw [bndM_r w_1, bndM_r w_2, if_pos c_3, bndM_r w_4, bndM_r w_5, if_pos c_6, if_pos cb_7, bndM_r w_8, if_pos c_9, if_neg c_11, if_pos cb_13, if_neg c_14, bndM_l z]) (fun mo_15 H locs w_15 hP hD hS => ?_)
            refine lv_iload_n hx hb d_Mo_unary_113 rfl (lv_at hl 1 rfl) ?_
            exact mr_iret (v := r_4) (mo := mo_15) hx hb hr hlocks hK hP hD hS (by unfold f_Mo_unary; rw [bndM_r w_1, bndM_r w_2, if_pos c_3, bndM_r w_4, bndM_r w_5, if_pos c_6, if_pos cb_7, bndM_r w_8, if_pos c_9, if_neg c_11, if_pos cb_13, if_neg c_14, bndM_r w_15]) d_Mo_unary_114
          · refine lv_aload_n hx hb d_Mo_unary_96 rfl (lv_at hl 3 rfl) ?_
            refine lv_aload_n hx hb d_Mo_unary_97 rfl (lv_at hl 3 rfl) ?_
            refine va_get (D := (dC, dI)) (ci := 6) (v := .ref (ma 6)) (C := R_Mo) (T := T_Mo) (N := 31) hx hb hts u_Mo hown hK hP 0 rfl rfl 11 (by decide) (hts _ L_932) (fun _ h9 => h9) rfl d_Mo_unary_98 ?_
            refine lv_iload_n hx hb d_Mo_unary_101 rfl (lv_at hl 1 rfl) ?_
            refine va_iald (D := (dC, dI)) hx hb hK hP 7 0 rfl rfl cb_7 d_Mo_unary_102 ?_
            refine mr_Vv (g := (f_Mo_refuse mo_8 ((q_spot mo_8) (r_4 : Int32).toNatClampNeg))) (As := [.int ((q_spot mo_8) (r_4 : Int32).toNatClampNeg)]) (rest := []) ⟨hx, hb, hml, hown, hts0⟩ (m_Mo_refuse l hlt dC dI cI cZ sa rk hm ma mo_8 _ ((q_spot mo_8) (r_4 : Int32).toNatClampNeg) ) hP hD hK hS hA hC hZ hnt hlocks L_1072 L_1074 L_64 L_90 L_1075 k_Mo_refuse ⟨(by show _ ≤ fr0 + 16; omega), (by show _ ≤ lo0 + 322; omega)⟩ rfl rfl hl.1 (Nat.le_of_ble_eq_true rfl) d_Mo_unary_103 rfl (fun q z => by unfold f_Mo_unary; rw [bndM_r w_1, bndM_r w_2, if_pos c_3, bndM_r w_4, bndM_r w_5, if_pos c_6, if_pos cb_7, bndM_r w_8, if_pos c_9, if_neg c_11, if_pos cb_13, if_pos c_14, bndM_l z]) (fun mo_16 H locs w_16 hP hD hS => ?_)
            refine lv_aload_n hx hb d_Mo_unary_106 rfl (lv_at hl 3 rfl) ?_
            refine lv_iload_n hx hb d_Mo_unary_107 rfl (lv_at hl 1 rfl) ?_
            refine lv_iload hx hb d_Mo_unary_108 (lv_at hl 0 rfl) ?_
            refine mr_Vv (g := (f_Mo_hang mo_16 r_4 r_5)) (As := [.int r_4, .int r_5]) (rest := []) ⟨hx, hb, hml, hown, hts0⟩ (m_Mo_hang l hlt dC dI cI cZ sa rk hm ma mo_16 _ r_4 r_5 (fun z => hg (by unfold f_Mo_unary; rw [bndM_r w_1, bndM_r w_2, if_pos c_3, bndM_r w_4, bndM_r w_5, if_pos c_6, if_pos cb_7, bndM_r w_8, if_pos c_9, if_neg c_11, if_pos cb_13, if_pos c_14, bndM_r w_16, bndM_n z]))) hP hD hK hS hA hC hZ hnt hlocks L_1115 L_1117 L_69 L_90 L_1118 k_Mo_hang ⟨(by show _ ≤ fr0 + 16; omega), (by show _ ≤ lo0 + 322; omega)⟩ rfl rfl hl.1 (Nat.le_of_ble_eq_true rfl) d_Mo_unary_110 rfl (fun q z => by unfold f_Mo_unary; rw [bndM_r w_1, bndM_r w_2, if_pos c_3, bndM_r w_4, bndM_r w_5, if_pos c_6, if_pos cb_7, bndM_r w_8, if_pos c_9, if_neg c_11, if_pos cb_13, if_pos c_14, bndM_r w_16, bndM_l z]) (fun mo_17 H locs w_17 hP hD hS => ?_)
            refine lv_iload_n hx hb d_Mo_unary_113 rfl (lv_at hl 1 rfl) ?_
            exact mr_iret (v := r_4) (mo := mo_17) hx hb hr hlocks hK hP hD hS (by unfold f_Mo_unary; rw [bndM_r w_1, bndM_r w_2, if_pos c_3, bndM_r w_4, bndM_r w_5, if_pos c_6, if_pos cb_7, bndM_r w_8, if_pos c_9, if_neg c_11, if_pos cb_13, if_pos c_14, bndM_r w_16, bndM_r w_17]) d_Mo_unary_114
    · refine lv_iload_n hx hb d_Mo_unary_56 rfl (lv_at hl 2 rfl) ?_
      refine lv_iconst (v := 4) hx hb d_Mo_unary_57 (by decide) ?_
      refine lv_icmp_ne (tgt := 73) hx hb d_Mo_unary_58 (by decide) (fun c_18 => ?_) (fun c_18 => ?_)
      · refine lv_iload_n hx hb d_Mo_unary_73 rfl (lv_at hl 2 rfl) ?_
        refine lv_if_ne (tgt := 106) hx hb d_Mo_unary_74 (by decide) (fun c_19 => ?_) (fun c_19 => ?_)
        · refine lv_aload_n hx hb d_Mo_unary_106 rfl (lv_at hl 3 rfl) ?_
          refine lv_iload_n hx hb d_Mo_unary_107 rfl (lv_at hl 1 rfl) ?_
          refine lv_iload hx hb d_Mo_unary_108 (lv_at hl 0 rfl) ?_
          refine mr_Vv (g := (f_Mo_hang mo_5 r_4 r_5)) (As := [.int r_4, .int r_5]) (rest := []) ⟨hx, hb, hml, hown, hts0⟩ (m_Mo_hang l hlt dC dI cI cZ sa rk hm ma mo_5 _ r_4 r_5 (fun z => hg (by unfold f_Mo_unary; rw [bndM_r w_1, bndM_r w_2, if_pos c_3, bndM_r w_4, bndM_r w_5, if_neg c_6, if_neg c_18, if_neg c_19, bndM_n z]))) hP hD hK hS hA hC hZ hnt hlocks L_1115 L_1117 L_69 L_90 L_1118 k_Mo_hang ⟨(by show _ ≤ fr0 + 16; omega), (by show _ ≤ lo0 + 322; omega)⟩ rfl rfl hl.1 (Nat.le_of_ble_eq_true rfl) d_Mo_unary_110 rfl (fun q z => by unfold f_Mo_unary; rw [bndM_r w_1, bndM_r w_2, if_pos c_3, bndM_r w_4, bndM_r w_5, if_neg c_6, if_neg c_18, if_neg c_19, bndM_l z]) (fun mo_20 H locs w_20 hP hD hS => ?_)
          refine lv_iload_n hx hb d_Mo_unary_113 rfl (lv_at hl 1 rfl) ?_
          exact mr_iret (v := r_4) (mo := mo_20) hx hb hr hlocks hK hP hD hS (by unfold f_Mo_unary; rw [bndM_r w_1, bndM_r w_2, if_pos c_3, bndM_r w_4, bndM_r w_5, if_neg c_6, if_neg c_18, if_neg c_19, bndM_r w_20]) d_Mo_unary_114
        · refine lv_aload_n hx hb d_Mo_unary_77 rfl (lv_at hl 3 rfl) ?_
          refine va_get (D := (dC, dI)) (ci := 6) (v := .int (q_strict mo_5)) (C := R_Mo) (T := T_Mo) (N := 31) hx hb hts u_Mo hown hK hP 0 rfl rfl 19 (by decide) (hts _ L_940) (fun _ h9 => h9) rfl d_Mo_unary_78 ?_
          refine lv_if_eq (tgt := 106) hx hb d_Mo_unary_81 (by decide) (fun c_21 => ?_) (fun c_21 => ?_)
          · refine lv_aload_n hx hb d_Mo_unary_106 rfl (lv_at hl 3 rfl) ?_
            refine lv_iload_n hx hb d_Mo_unary_107 rfl (lv_at hl 1 rfl) ?_
            refine lv_iload hx hb d_Mo_unary_108 (lv_at hl 0 rfl) ?_
            refine mr_Vv (g := (f_Mo_hang mo_5 r_4 r_5)) (As := [.int r_4, .int r_5]) (rest := []) ⟨hx, hb, hml, hown, hts0⟩ (m_Mo_hang l hlt dC dI cI cZ sa rk hm ma mo_5 _ r_4 r_5 (fun z => hg (by unfold f_Mo_unary; rw [bndM_r w_1, bndM_r w_2, if_pos c_3, bndM_r w_4, bndM_r w_5, if_neg c_6, if_neg c_18, if_pos c_19, if_pos c_21, bndM_n z]))) hP hD hK hS hA hC hZ hnt hlocks L_1115 L_1117 L_69 L_90 L_1118 k_Mo_hang ⟨(by show _ ≤ fr0 + 16; omega), (by show _ ≤ lo0 + 322; omega)⟩ rfl rfl hl.1 (Nat.le_of_ble_eq_true rfl) d_Mo_unary_110 rfl (fun q z => by unfold f_Mo_unary; rw [bndM_r w_1, bndM_r w_2, if_pos c_3, bndM_r w_4, bndM_r w_5, if_neg c_6, if_neg c_18, if_pos c_19, if_pos c_21, bndM_l z]) (fun mo_22 H locs w_22 hP hD hS => ?_)
            refine lv_iload_n hx hb d_Mo_unary_113 rfl (lv_at hl 1 rfl) ?_
            exact mr_iret (v := r_4) (mo := mo_22) hx hb hr hlocks hK hP hD hS (by unfold f_Mo_unary; rw [bndM_r w_1, bndM_r w_2, if_pos c_3, bndM_r w_4, bndM_r w_5, if_neg c_6, if_neg c_18, if_pos c_19, if_pos c_21, bndM_r w_22]) d_Mo_unary_114
          · refine lv_aload_n hx hb d_Mo_unary_84 rfl (lv_at hl 3 rfl) ?_
            refine va_get (D := (dC, dI)) (ci := 6) (v := .ref (ma 4)) (C := R_Mo) (T := T_Mo) (N := 31) hx hb hts u_Mo hown hK hP 0 rfl rfl 9 (by decide) (hts _ L_930) (fun _ h9 => h9) rfl d_Mo_unary_85 ?_
            refine lv_iload hx hb d_Mo_unary_88 (lv_at hl 0 rfl) ?_
            by_cases cb_23 : inb r_5 2600
            case neg => exact absurd (by unfold f_Mo_unary; rw [bndM_r w_1, bndM_r w_2, if_pos c_3, bndM_r w_4, bndM_r w_5, if_neg c_6, if_neg c_18, if_pos c_19, if_neg c_21, if_neg cb_23]) hg
            refine va_iald (D := (dC, dI)) hx hb hK hP 5 0 rfl rfl cb_23 d_Mo_unary_90 ?_
            refine lv_bipush (v := 28) hx hb d_Mo_unary_91 (by decide) ?_
            refine lv_icmp_ne (tgt := 106) hx hb d_Mo_unary_93 (by decide) (fun c_24 => ?_) (fun c_24 => ?_)
            · refine lv_aload_n hx hb d_Mo_unary_106 rfl (lv_at hl 3 rfl) ?_
              refine lv_iload_n hx hb d_Mo_unary_107 rfl (lv_at hl 1 rfl) ?_
              refine lv_iload hx hb d_Mo_unary_108 (lv_at hl 0 rfl) ?_
              refine mr_Vv (g := (f_Mo_hang mo_5 r_4 r_5)) (As := [.int r_4, .int r_5]) (rest := []) ⟨hx, hb, hml, hown, hts0⟩ (m_Mo_hang l hlt dC dI cI cZ sa rk hm ma mo_5 _ r_4 r_5 (fun z => hg (by unfold f_Mo_unary; rw [bndM_r w_1, bndM_r w_2, if_pos c_3, bndM_r w_4, bndM_r w_5, if_neg c_6, if_neg c_18, if_pos c_19, if_neg c_21, if_pos cb_23, if_neg c_24, bndM_n z]))) hP hD hK hS hA hC hZ hnt hlocks L_1115 L_1117 L_69 L_90 L_1118 k_Mo_hang ⟨(by show _ ≤ fr0 + 16; omega), (by show _ ≤ lo0 + 322; omega)⟩ rfl rfl hl.1 (Nat.le_of_ble_eq_true rfl) d_Mo_unary_110 rfl (fun q z => by unfold f_Mo_unary; rw [bndM_r w_1, bndM_r w_2, if_pos c_3, bndM_r w_4, bndM_r w_5, if_neg c_6, if_neg c_18, if_pos c_19, if_neg c_21, if_pos cb_23, if_neg c_24, bndM_l z]) (fun mo_25 H locs w_25 hP hD hS => ?_)
              refine lv_iload_n hx hb d_Mo_unary_113 rfl (lv_at hl 1 rfl) ?_
              exact mr_iret (v := r_4) (mo := mo_25) hx hb hr hlocks hK hP hD hS (by unfold f_Mo_unary; rw [bndM_r w_1, bndM_r w_2, if_pos c_3, bndM_r w_4, bndM_r w_5, if_neg c_6, if_neg c_18, if_pos c_19, if_neg c_21, if_pos cb_23, if_neg c_24, bndM_r w_25]) d_Mo_unary_114
            · refine lv_aload_n hx hb d_Mo_unary_96 rfl (lv_at hl 3 rfl) ?_
              refine lv_aload_n hx hb d_Mo_unary_97 rfl (lv_at hl 3 rfl) ?_
              refine va_get (D := (dC, dI)) (ci := 6) (v := .ref (ma 6)) (C := R_Mo) (T := T_Mo) (N := 31) hx hb hts u_Mo hown hK hP 0 rfl rfl 11 (by decide) (hts _ L_932) (fun _ h9 => h9) rfl d_Mo_unary_98 ?_
              refine lv_iload_n hx hb d_Mo_unary_101 rfl (lv_at hl 1 rfl) ?_
              by_cases cb_26 : inb r_4 2600
              case neg => exact absurd (by unfold f_Mo_unary; rw [bndM_r w_1, bndM_r w_2, if_pos c_3, bndM_r w_4, bndM_r w_5, if_neg c_6, if_neg c_18, if_pos c_19, if_neg c_21, if_pos cb_23, if_pos c_24, if_neg cb_26]) hg
              refine va_iald (D := (dC, dI)) hx hb hK hP 7 0 rfl rfl cb_26 d_Mo_unary_102 ?_
              refine mr_Vv (g := (f_Mo_refuse mo_5 ((q_spot mo_5) (r_4 : Int32).toNatClampNeg))) (As := [.int ((q_spot mo_5) (r_4 : Int32).toNatClampNeg)]) (rest := []) ⟨hx, hb, hml, hown, hts0⟩ (m_Mo_refuse l hlt dC dI cI cZ sa rk hm ma mo_5 _ ((q_spot mo_5) (r_4 : Int32).toNatClampNeg) ) hP hD hK hS hA hC hZ hnt hlocks L_1072 L_1074 L_64 L_90 L_1075 k_Mo_refuse ⟨(by show _ ≤ fr0 + 16; omega), (by show _ ≤ lo0 + 322; omega)⟩ rfl rfl hl.1 (Nat.le_of_ble_eq_true rfl) d_Mo_unary_103 rfl (fun q z => by unfold f_Mo_unary; rw [bndM_r w_1, bndM_r w_2, if_pos c_3, bndM_r w_4, bndM_r w_5, if_neg c_6, if_neg c_18, if_pos c_19, if_neg c_21, if_pos cb_23, if_pos c_24, if_pos cb_26, bndM_l z]) (fun mo_27 H locs w_27 hP hD hS => ?_)
              refine lv_aload_n hx hb d_Mo_unary_106 rfl (lv_at hl 3 rfl) ?_
              refine lv_iload_n hx hb d_Mo_unary_107 rfl (lv_at hl 1 rfl) ?_
              refine lv_iload hx hb d_Mo_unary_108 (lv_at hl 0 rfl) ?_
              refine mr_Vv (g := (f_Mo_hang mo_27 r_4 r_5)) (As := [.int r_4, .int r_5]) (rest := []) ⟨hx, hb, hml, hown, hts0⟩ (m_Mo_hang l hlt dC dI cI cZ sa rk hm ma mo_27 _ r_4 r_5 (fun z => hg (by unfold f_Mo_unary; rw [bndM_r w_1, bndM_r w_2, if_pos c_3, bndM_r w_4, bndM_r w_5, if_neg c_6, if_neg c_18, if_pos c_19, if_neg c_21, if_pos cb_23, if_pos c_24, if_pos cb_26, bndM_r w_27, bndM_n z]))) hP hD hK hS hA hC hZ hnt hlocks L_1115 L_1117 L_69 L_90 L_1118 k_Mo_hang ⟨(by show _ ≤ fr0 + 16; omega), (by show _ ≤ lo0 + 322; omega)⟩ rfl rfl hl.1 (Nat.le_of_ble_eq_true rfl) d_Mo_unary_110 rfl (fun q z => by unfold f_Mo_unary; rw [bndM_r w_1, bndM_r w_2, if_pos c_3, bndM_r w_4, bndM_r w_5, if_neg c_6, if_neg c_18, if_pos c_19, if_neg c_21, if_pos cb_23, if_pos c_24, if_pos cb_26, bndM_r w_27, bndM_l z]) (fun mo_28 H locs w_28 hP hD hS => ?_)
              refine lv_iload_n hx hb d_Mo_unary_113 rfl (lv_at hl 1 rfl) ?_
              exact mr_iret (v := r_4) (mo := mo_28) hx hb hr hlocks hK hP hD hS (by unfold f_Mo_unary; rw [bndM_r w_1, bndM_r w_2, if_pos c_3, bndM_r w_4, bndM_r w_5, if_neg c_6, if_neg c_18, if_pos c_19, if_neg c_21, if_pos cb_23, if_pos c_24, if_pos cb_26, bndM_r w_27, bndM_r w_28]) d_Mo_unary_114
      · refine lv_aload_n hx hb d_Mo_unary_61 rfl (lv_at hl 3 rfl) ?_
        refine lv_iload hx hb d_Mo_unary_62 (lv_at hl 0 rfl) ?_
        refine lv_aload_n hx hb d_Mo_unary_64 rfl (lv_at hl 3 rfl) ?_
        refine va_get (D := (dC, dI)) (ci := 6) (v := .ref (ma 6)) (C := R_Mo) (T := T_Mo) (N := 31) hx hb hts u_Mo hown hK hP 0 rfl rfl 11 (by decide) (hts _ L_932) (fun _ h9 => h9) rfl d_Mo_unary_65 ?_
        refine lv_iload_n hx hb d_Mo_unary_68 rfl (lv_at hl 1 rfl) ?_
        by_cases cb_29 : inb r_4 2600
        case neg => exact absurd (by unfold f_Mo_unary; rw [bndM_r w_1, bndM_r w_2, if_pos c_3, bndM_r w_4, bndM_r w_5, if_neg c_6, if_pos c_18, if_neg cb_29]) hg
        refine va_iald (D := (dC, dI)) hx hb hK hP 7 0 rfl rfl cb_29 d_Mo_unary_69 ?_
        refine mr_Vv (g := (f_Mo_changed mo_5 r_5 ((q_spot mo_5) (r_4 : Int32).toNatClampNeg))) (As := [.int r_5, .int ((q_spot mo_5) (r_4 : Int32).toNatClampNeg)]) (rest := []) ⟨hx, hb, hml, hown, hts0⟩ (m_Mo_changed l hlt dC dI cI cZ sa rk hm ma mo_5 _ r_5 ((q_spot mo_5) (r_4 : Int32).toNatClampNeg) (fun z => hg (by unfold f_Mo_unary; rw [bndM_r w_1, bndM_r w_2, if_pos c_3, bndM_r w_4, bndM_r w_5, if_neg c_6, if_pos c_18, if_pos cb_29, bndM_n z]))) hP hD hK hS hA hC hZ hnt hlocks L_1191 L_1193 L_76 L_90 L_1194 k_Mo_changed ⟨(by show _ ≤ fr0 + 16; omega), (by show _ ≤ lo0 + 322; omega)⟩ rfl rfl hl.1 (Nat.le_of_ble_eq_true rfl) d_Mo_unary_70 rfl (fun q z => by unfold f_Mo_unary; rw [bndM_r w_1, bndM_r w_2, if_pos c_3, bndM_r w_4, bndM_r w_5, if_neg c_6, if_pos c_18, if_pos cb_29, bndM_l z]) (fun mo_30 H locs w_30 hP hD hS => ?_)
        refine lv_iload_n hx hb d_Mo_unary_73 rfl (lv_at hl 2 rfl) ?_
        refine lv_if_ne (tgt := 106) hx hb d_Mo_unary_74 (by decide) (fun c_31 => ?_) (fun c_31 => ?_)
        · refine lv_aload_n hx hb d_Mo_unary_106 rfl (lv_at hl 3 rfl) ?_
          refine lv_iload_n hx hb d_Mo_unary_107 rfl (lv_at hl 1 rfl) ?_
          refine lv_iload hx hb d_Mo_unary_108 (lv_at hl 0 rfl) ?_
          refine mr_Vv (g := (f_Mo_hang mo_30 r_4 r_5)) (As := [.int r_4, .int r_5]) (rest := []) ⟨hx, hb, hml, hown, hts0⟩ (m_Mo_hang l hlt dC dI cI cZ sa rk hm ma mo_30 _ r_4 r_5 (fun z => hg (by unfold f_Mo_unary; rw [bndM_r w_1, bndM_r w_2, if_pos c_3, bndM_r w_4, bndM_r w_5, if_neg c_6, if_pos c_18, if_pos cb_29, bndM_r w_30, if_neg c_31, bndM_n z]))) hP hD hK hS hA hC hZ hnt hlocks L_1115 L_1117 L_69 L_90 L_1118 k_Mo_hang ⟨(by show _ ≤ fr0 + 16; omega), (by show _ ≤ lo0 + 322; omega)⟩ rfl rfl hl.1 (Nat.le_of_ble_eq_true rfl) d_Mo_unary_110 rfl (fun q z => by unfold f_Mo_unary; rw [bndM_r w_1, bndM_r w_2, if_pos c_3, bndM_r w_4, bndM_r w_5, if_neg c_6, if_pos c_18, if_pos cb_29, bndM_r w_30, if_neg c_31, bndM_l z]) (fun mo_32 H locs w_32 hP hD hS => ?_)
          refine lv_iload_n hx hb d_Mo_unary_113 rfl (lv_at hl 1 rfl) ?_
          exact mr_iret (v := r_4) (mo := mo_32) hx hb hr hlocks hK hP hD hS (by unfold f_Mo_unary; rw [bndM_r w_1, bndM_r w_2, if_pos c_3, bndM_r w_4, bndM_r w_5, if_neg c_6, if_pos c_18, if_pos cb_29, bndM_r w_30, if_neg c_31, bndM_r w_32]) d_Mo_unary_114
        · refine lv_aload_n hx hb d_Mo_unary_77 rfl (lv_at hl 3 rfl) ?_
          refine va_get (D := (dC, dI)) (ci := 6) (v := .int (q_strict mo_30)) (C := R_Mo) (T := T_Mo) (N := 31) hx hb hts u_Mo hown hK hP 0 rfl rfl 19 (by decide) (hts _ L_940) (fun _ h9 => h9) rfl d_Mo_unary_78 ?_
          refine lv_if_eq (tgt := 106) hx hb d_Mo_unary_81 (by decide) (fun c_33 => ?_) (fun c_33 => ?_)
          · refine lv_aload_n hx hb d_Mo_unary_106 rfl (lv_at hl 3 rfl) ?_
            refine lv_iload_n hx hb d_Mo_unary_107 rfl (lv_at hl 1 rfl) ?_
            refine lv_iload hx hb d_Mo_unary_108 (lv_at hl 0 rfl) ?_
            refine mr_Vv (g := (f_Mo_hang mo_30 r_4 r_5)) (As := [.int r_4, .int r_5]) (rest := []) ⟨hx, hb, hml, hown, hts0⟩ (m_Mo_hang l hlt dC dI cI cZ sa rk hm ma mo_30 _ r_4 r_5 (fun z => hg (by unfold f_Mo_unary; rw [bndM_r w_1, bndM_r w_2, if_pos c_3, bndM_r w_4, bndM_r w_5, if_neg c_6, if_pos c_18, if_pos cb_29, bndM_r w_30, if_pos c_31, if_pos c_33, bndM_n z]))) hP hD hK hS hA hC hZ hnt hlocks L_1115 L_1117 L_69 L_90 L_1118 k_Mo_hang ⟨(by show _ ≤ fr0 + 16; omega), (by show _ ≤ lo0 + 322; omega)⟩ rfl rfl hl.1 (Nat.le_of_ble_eq_true rfl) d_Mo_unary_110 rfl (fun q z => by unfold f_Mo_unary; rw [bndM_r w_1, bndM_r w_2, if_pos c_3, bndM_r w_4, bndM_r w_5, if_neg c_6, if_pos c_18, if_pos cb_29, bndM_r w_30, if_pos c_31, if_pos c_33, bndM_l z]) (fun mo_34 H locs w_34 hP hD hS => ?_)
            refine lv_iload_n hx hb d_Mo_unary_113 rfl (lv_at hl 1 rfl) ?_
            exact mr_iret (v := r_4) (mo := mo_34) hx hb hr hlocks hK hP hD hS (by unfold f_Mo_unary; rw [bndM_r w_1, bndM_r w_2, if_pos c_3, bndM_r w_4, bndM_r w_5, if_neg c_6, if_pos c_18, if_pos cb_29, bndM_r w_30, if_pos c_31, if_pos c_33, bndM_r w_34]) d_Mo_unary_114
          · refine lv_aload_n hx hb d_Mo_unary_84 rfl (lv_at hl 3 rfl) ?_
            refine va_get (D := (dC, dI)) (ci := 6) (v := .ref (ma 4)) (C := R_Mo) (T := T_Mo) (N := 31) hx hb hts u_Mo hown hK hP 0 rfl rfl 9 (by decide) (hts _ L_930) (fun _ h9 => h9) rfl d_Mo_unary_85 ?_
            refine lv_iload hx hb d_Mo_unary_88 (lv_at hl 0 rfl) ?_
            by_cases cb_35 : inb r_5 2600
            case neg => exact absurd (by unfold f_Mo_unary; rw [bndM_r w_1, bndM_r w_2, if_pos c_3, bndM_r w_4, bndM_r w_5, if_neg c_6, if_pos c_18, if_pos cb_29, bndM_r w_30, if_pos c_31, if_neg c_33, if_neg cb_35]) hg
            refine va_iald (D := (dC, dI)) hx hb hK hP 5 0 rfl rfl cb_35 d_Mo_unary_90 ?_
            refine lv_bipush (v := 28) hx hb d_Mo_unary_91 (by decide) ?_
            refine lv_icmp_ne (tgt := 106) hx hb d_Mo_unary_93 (by decide) (fun c_36 => ?_) (fun c_36 => ?_)
            · refine lv_aload_n hx hb d_Mo_unary_106 rfl (lv_at hl 3 rfl) ?_
              refine lv_iload_n hx hb d_Mo_unary_107 rfl (lv_at hl 1 rfl) ?_
              refine lv_iload hx hb d_Mo_unary_108 (lv_at hl 0 rfl) ?_
              refine mr_Vv (g := (f_Mo_hang mo_30 r_4 r_5)) (As := [.int r_4, .int r_5]) (rest := []) ⟨hx, hb, hml, hown, hts0⟩ (m_Mo_hang l hlt dC dI cI cZ sa rk hm ma mo_30 _ r_4 r_5 (fun z => hg (by unfold f_Mo_unary; rw [bndM_r w_1, bndM_r w_2, if_pos c_3, bndM_r w_4, bndM_r w_5, if_neg c_6, if_pos c_18, if_pos cb_29, bndM_r w_30, if_pos c_31, if_neg c_33, if_pos cb_35, if_neg c_36, bndM_n z]))) hP hD hK hS hA hC hZ hnt hlocks L_1115 L_1117 L_69 L_90 L_1118 k_Mo_hang ⟨(by show _ ≤ fr0 + 16; omega), (by show _ ≤ lo0 + 322; omega)⟩ rfl rfl hl.1 (Nat.le_of_ble_eq_true rfl) d_Mo_unary_110 rfl (fun q z => by unfold f_Mo_unary; rw [bndM_r w_1, bndM_r w_2, if_pos c_3, bndM_r w_4, bndM_r w_5, if_neg c_6, if_pos c_18, if_pos cb_29, bndM_r w_30, if_pos c_31, if_neg c_33, if_pos cb_35, if_neg c_36, bndM_l z]) (fun mo_37 H locs w_37 hP hD hS => ?_)
              refine lv_iload_n hx hb d_Mo_unary_113 rfl (lv_at hl 1 rfl) ?_
              exact mr_iret (v := r_4) (mo := mo_37) hx hb hr hlocks hK hP hD hS (by unfold f_Mo_unary; rw [bndM_r w_1, bndM_r w_2, if_pos c_3, bndM_r w_4, bndM_r w_5, if_neg c_6, if_pos c_18, if_pos cb_29, bndM_r w_30, if_pos c_31, if_neg c_33, if_pos cb_35, if_neg c_36, bndM_r w_37]) d_Mo_unary_114
            · refine lv_aload_n hx hb d_Mo_unary_96 rfl (lv_at hl 3 rfl) ?_
              refine lv_aload_n hx hb d_Mo_unary_97 rfl (lv_at hl 3 rfl) ?_
              refine va_get (D := (dC, dI)) (ci := 6) (v := .ref (ma 6)) (C := R_Mo) (T := T_Mo) (N := 31) hx hb hts u_Mo hown hK hP 0 rfl rfl 11 (by decide) (hts _ L_932) (fun _ h9 => h9) rfl d_Mo_unary_98 ?_
              refine lv_iload_n hx hb d_Mo_unary_101 rfl (lv_at hl 1 rfl) ?_
              refine va_iald (D := (dC, dI)) hx hb hK hP 7 0 rfl rfl cb_29 d_Mo_unary_102 ?_
              refine mr_Vv (g := (f_Mo_refuse mo_30 ((q_spot mo_30) (r_4 : Int32).toNatClampNeg))) (As := [.int ((q_spot mo_30) (r_4 : Int32).toNatClampNeg)]) (rest := []) ⟨hx, hb, hml, hown, hts0⟩ (m_Mo_refuse l hlt dC dI cI cZ sa rk hm ma mo_30 _ ((q_spot mo_30) (r_4 : Int32).toNatClampNeg) ) hP hD hK hS hA hC hZ hnt hlocks L_1072 L_1074 L_64 L_90 L_1075 k_Mo_refuse ⟨(by show _ ≤ fr0 + 16; omega), (by show _ ≤ lo0 + 322; omega)⟩ rfl rfl hl.1 (Nat.le_of_ble_eq_true rfl) d_Mo_unary_103 rfl (fun q z => by unfold f_Mo_unary; rw [bndM_r w_1, bndM_r w_2, if_pos c_3, bndM_r w_4, bndM_r w_5, if_neg c_6, if_pos c_18, if_pos cb_29, bndM_r w_30, if_pos c_31, if_neg c_33, if_pos cb_35, if_pos c_36, bndM_l z]) (fun mo_38 H locs w_38 hP hD hS => ?_)
              refine lv_aload_n hx hb d_Mo_unary_106 rfl (lv_at hl 3 rfl) ?_
              refine lv_iload_n hx hb d_Mo_unary_107 rfl (lv_at hl 1 rfl) ?_
              refine lv_iload hx hb d_Mo_unary_108 (lv_at hl 0 rfl) ?_
              refine mr_Vv (g := (f_Mo_hang mo_38 r_4 r_5)) (As := [.int r_4, .int r_5]) (rest := []) ⟨hx, hb, hml, hown, hts0⟩ (m_Mo_hang l hlt dC dI cI cZ sa rk hm ma mo_38 _ r_4 r_5 (fun z => hg (by unfold f_Mo_unary; rw [bndM_r w_1, bndM_r w_2, if_pos c_3, bndM_r w_4, bndM_r w_5, if_neg c_6, if_pos c_18, if_pos cb_29, bndM_r w_30, if_pos c_31, if_neg c_33, if_pos cb_35, if_pos c_36, bndM_r w_38, bndM_n z]))) hP hD hK hS hA hC hZ hnt hlocks L_1115 L_1117 L_69 L_90 L_1118 k_Mo_hang ⟨(by show _ ≤ fr0 + 16; omega), (by show _ ≤ lo0 + 322; omega)⟩ rfl rfl hl.1 (Nat.le_of_ble_eq_true rfl) d_Mo_unary_110 rfl (fun q z => by unfold f_Mo_unary; rw [bndM_r w_1, bndM_r w_2, if_pos c_3, bndM_r w_4, bndM_r w_5, if_neg c_6, if_pos c_18, if_pos cb_29, bndM_r w_30, if_pos c_31, if_neg c_33, if_pos cb_35, if_pos c_36, bndM_r w_38, bndM_l z]) (fun mo_39 H locs w_39 hP hD hS => ?_)
              refine lv_iload_n hx hb d_Mo_unary_113 rfl (lv_at hl 1 rfl) ?_
              exact mr_iret (v := r_4) (mo := mo_39) hx hb hr hlocks hK hP hD hS (by unfold f_Mo_unary; rw [bndM_r w_1, bndM_r w_2, if_pos c_3, bndM_r w_4, bndM_r w_5, if_neg c_6, if_pos c_18, if_pos cb_29, bndM_r w_30, if_pos c_31, if_neg c_33, if_pos cb_35, if_pos c_36, bndM_r w_38, bndM_r w_39]) d_Mo_unary_114
  · refine lv_aload_n hx hb d_Mo_unary_14 rfl (lv_at hl 1 rfl) ?_
    refine lv_iload_n hx hb d_Mo_unary_15 rfl (lv_at hl 2 rfl) ?_
    refine mr_Si (g := (f_Mo_postfix K mo_2 depth)) (As := [.ref hm, .int depth]) (rest := []) ⟨hx, hb, hml, hown, hts0⟩ (m_Mo_postfix l hlt dC dI cI cZ sa rk hm ma fr0 lo0 K hR0 hR1 hR2 hR3 hR4 hR5 hR6 hR7 mo_2 _ depth (fun z => hg (by unfold f_Mo_unary; rw [bndM_r w_1, bndM_r w_2, if_neg c_3, bndM_n z]))) hP hD hK hS hA hC hZ hnt hlocks L_1151 L_1152 L_90 L_1153 k_Mo_postfix ⟨(by show _ ≤ fr0 + 16; omega), (by show _ ≤ lo0 + 322; omega)⟩ rfl rfl hl.1 (Nat.le_of_ble_eq_true rfl) d_Mo_unary_16 rfl (fun q z => by unfold f_Mo_unary; rw [bndM_r w_1, bndM_r w_2, if_neg c_3, bndM_l z]) (fun r_40 mo_40 H locs w_40 hP hD hS => ?_)
    exact mr_iret (v := r_40) (mo := mo_40) hx hb hr hlocks hK hP hD hS (by unfold f_Mo_unary; rw [bndM_r w_1, bndM_r w_2, if_neg c_3, bndM_r w_40]) d_Mo_unary_19
def f_Mo_binary_L19 (K : Nat → List Int32 → MO → Rm) (depth : Int32) (inn : Int32) (least : Int32) : Nat → Int32 → Int32 → MO → Rm
  | 0, _, _, _ => none
  | fu_4 + 1, x4, x5, sx_4 => (if x5 ≤ 0 then (some (.inr (x4, sx_4))) else (bndM (f_Mo_strength sx_4 x5) (fun r_6 mo_6 => (if r_6 < least then (some (.inr (x4, mo_6))) else (bndM (f_Mo_make mo_6 41 x5 (q_at mo_6)) (fun r_8 mo_8 => (bndM (f_Mo_hang (s_at mo_8 ((q_at mo_8) + 1)) r_8 x4) (fun _ mo_9 => (bndM (f_Mo_strength mo_9 x5) (fun r_10 mo_10 => (bndM (K 2 [(depth + 1), inn, (r_10 + 1)] mo_10) (fun r_11 mo_11 => (bndM (f_Mo_hang mo_11 r_8 r_11) (fun _ mo_12 => (bndM (f_Mo_operator mo_12 inn) (fun r_13 mo_13 => (f_Mo_binary_L19 K depth inn least fu_4 r_8 r_13 mo_13)))))))))))))))))
def f_Mo_binary (K : Nat → List Int32 → MO → Rm) (mo : MO) (depth : Int32) (inn : Int32) (least : Int32) : Rm := (bndM (f_Mo_deep mo depth) (fun _ mo_1 => (bndM (f_Mo_unary K mo_1 depth) (fun r_2 mo_2 => (bndM (f_Mo_operator mo_2 inn) (fun r_3 mo_3 => (bndM (f_Mo_binary_L19 K depth inn least 5000 r_2 r_3 mo_3) (fun rv_4 se_4 => (some (.inr (rv_4, se_4)))))))))))
set_option maxRecDepth 100000 in
set_option maxHeartbeats 4000000 in
theorem m_Mo_binary (l : Launch) (hlt : l.stackTraces = false) (dC : Nat → ClassId) (dI : Nat → Nat → Nat) (cI cZ : ClassId) (sa rk hm : Nat) (ma : Nat → Nat) (fr0 lo0 : Nat) (K : Nat → List Int32 → MO → Rm) (hR0 : ∀ (mo : MO) (sz : Nat) (p0 p1 : Int32), K 0 [p0, p1] mo ≠ none → cXi l y_Mo_expression c_Mo_expression 5 .int fr0 lo0 (dC, dI) cI cZ sa rk hm ma mo sz [.ref hm, .int p0, .int p1] (K 0 [p0, p1] mo)) (hR1 : ∀ (mo : MO) (sz : Nat) (p0 p1 : Int32), K 1 [p0, p1] mo ≠ none → cXi l y_Mo_assignment c_Mo_assignment 5 .int fr0 lo0 (dC, dI) cI cZ sa rk hm ma mo sz [.ref hm, .int p0, .int p1] (K 1 [p0, p1] mo)) (hR2 : ∀ (mo : MO) (sz : Nat) (p0 p1 p2 : Int32), K 2 [p0, p1, p2] mo ≠ none → cXi l y_Mo_binary c_Mo_binary 7 .int fr0 lo0 (dC, dI) cI cZ sa rk hm ma mo sz [.ref hm, .int p0, .int p1, .int p2] (K 2 [p0, p1, p2] mo)) (hR3 : ∀ (mo : MO) (sz : Nat) (p0 : Int32), K 3 [p0] mo ≠ none → cXi l y_Mo_unary c_Mo_unary 5 .int fr0 lo0 (dC, dI) cI cZ sa rk hm ma mo sz [.ref hm, .int p0] (K 3 [p0] mo)) (hR4 : ∀ (mo : MO) (sz : Nat) (p0 p1 : Int32), K 4 [p0, p1] mo ≠ none → cXi l y_Mo_member c_Mo_member 6 .int fr0 lo0 (dC, dI) cI cZ sa rk hm ma mo sz [.ref hm, .int p0, .int p1] (K 4 [p0, p1] mo)) (hR5 : ∀ (mo : MO) (sz : Nat) (p0 p1 : Int32), K 5 [p0, p1] mo ≠ none → cXi l y_Mo_statement c_Mo_statement 3 .int fr0 lo0 (dC, dI) cI cZ sa rk hm ma mo sz [.ref hm, .int p0, .int p1] (K 5 [p0, p1] mo)) (hR6 : ∀ (mo : MO) (sz : Nat) (p0 p1 p2 : Int32), K 6 [p0, p1, p2] mo ≠ none → cXv l y_Mo_statements c_Mo_statements 8 fr0 lo0 (dC, dI) cI cZ sa rk hm ma mo sz [.ref hm, .int p0, .int p1, .int p2] (K 6 [p0, p1, p2] mo)) (hR7 : ∀ (mo : MO) (sz : Nat) (p0 : Int32), K 7 [p0] mo ≠ none → cXi l y_Mo_block c_Mo_block 4 .int fr0 lo0 (dC, dI) cI cZ sa rk hm ma mo sz [.ref hm, .int p0] (K 7 [p0] mo)) (mo : MO) (sz : Nat) (depth : Int32) (inn : Int32) (least : Int32) (hg : (f_Mo_binary K mo depth inn least) ≠ none) : cXi l y_Mo_binary c_Mo_binary 7 .int (fr0 + 17) (lo0 + 346) (dC, dI) cI cZ sa rk hm ma mo sz [.ref hm, .int depth, .int inn, .int least] (f_Mo_binary K mo depth inn least) := by
  refine vx_ofW (cc := c_Mo_binary) (maxL := 7) (ret := (some .int)) (by decide) rfl ?_
  intro p e s m args below meth c s₁ B hml hnt hv
  obtain ⟨rfl, hsz, hP, hK, hD0, hC, hZ⟩ := hv
  have hx := B.exec
  have hb := B.bytes
  have hr := B.returns
  have hts0 := atoms_spec (ws := wy y_Mo_binary c_Mo_binary 7 (some .int)) B.pre
  have hts := htsL hts0
  have hown : s.vm.findClass R_Mo = some m.cls := findClass_of_methodNamed B.named
  have hlocks := B.notSynchronized
  subst hsz
  have hD := hD0.self (sz := s.heap.size)
  generalize hAe : va_A (wM cI cZ hm ma mo) s.heap.size = A at hD hZ ⊢
  have hA : ∀ q : Nat, s.heap.size ≤ q → A q := fun q h => by rw [← hAe]; exact Or.inr h
  have hS : va_S A s.heap s.heap [] := va_S.rf
  have hl := lv_entry ([.ref hm, .int depth, .int inn, .int least]) (n := 7) (Nat.le_of_ble_eq_true rfl)
  rw [lg_entry_eq]
  generalize (lg_sl ([.ref hm, .int depth, .int inn, .int least]) ++ List.replicate (7 - (lg_sl ([.ref hm, .int depth, .int inn, .int least])).length) Slot.unset).toArray = ls at hl ⊢
  have hl : lv_has ls 7 [(0, .ref hm), (1, .int depth), (2, .int inn), (3, .int least)] := hl
  refine lv_aload_n hx hb d_Mo_binary_0 rfl (lv_at hl 0 rfl) ?_
  refine lv_iload_n hx hb d_Mo_binary_1 rfl (lv_at hl 1 rfl) ?_
  refine mr_Vv (g := (f_Mo_deep mo depth)) (As := [.int depth]) (rest := []) ⟨hx, hb, hml, hown, hts0⟩ (m_Mo_deep l hlt dC dI cI cZ sa rk hm ma mo _ depth (fun z => hg (by unfold f_Mo_binary; rw [bndM_n z]))) hP hD hK hS hA hC hZ hnt hlocks L_1068 L_1070 L_63 L_90 L_1071 k_Mo_deep ⟨(by show _ ≤ fr0 + 17; omega), (by show _ ≤ lo0 + 346; omega)⟩ rfl rfl hl.1 (Nat.le_of_ble_eq_true rfl) d_Mo_binary_2 rfl (fun q z => by unfold f_Mo_binary; rw [bndM_l z]) (fun mo_1 H locs w_1 hP hD hS => ?_)
  refine lv_aload_n hx hb d_Mo_binary_5 rfl (lv_at hl 0 rfl) ?_
  refine lv_iload_n hx hb d_Mo_binary_6 rfl (lv_at hl 1 rfl) ?_
  refine mr_Si (g := (f_Mo_unary K mo_1 depth)) (As := [.ref hm, .int depth]) (rest := []) ⟨hx, hb, hml, hown, hts0⟩ (m_Mo_unary l hlt dC dI cI cZ sa rk hm ma fr0 lo0 K hR0 hR1 hR2 hR3 hR4 hR5 hR6 hR7 mo_1 _ depth (fun z => hg (by unfold f_Mo_binary; rw [bndM_r w_1, bndM_n z]))) hP hD hK hS hA hC hZ hnt hlocks L_1144 L_1145 L_90 L_1146 k_Mo_unary ⟨(by show _ ≤ fr0 + 17; omega), (by show _ ≤ lo0 + 346; omega)⟩ rfl rfl hl.1 (Nat.le_of_ble_eq_true rfl) d_Mo_binary_7 rfl (fun q z => by unfold f_Mo_binary; rw [bndM_r w_1, bndM_l z]) (fun r_2 mo_2 H locs w_2 hP hD hS => ?_)
  refine lv_istore (lv' := [(4, .int r_2), (0, .ref hm), (1, .int depth), (2, .int inn), (3, .int least)]) hx hb d_Mo_binary_10 hl (by decide) rfl (fun ls hl => ?_)
  refine lv_aload_n hx hb d_Mo_binary_12 rfl (lv_at hl 1 rfl) ?_
  refine lv_iload_n hx hb d_Mo_binary_13 rfl (lv_at hl 3 rfl) ?_
  refine mr_Vi (g := (f_Mo_operator mo_2 inn)) (As := [.int inn]) (rest := []) ⟨hx, hb, hml, hown, hts0⟩ (m_Mo_operator l hlt dC dI cI cZ sa rk hm ma mo_2 _ inn (fun z => hg (by unfold f_Mo_binary; rw [bndM_r w_1, bndM_r w_2, bndM_n z]))) hP hD hK hS hA hC hZ hnt hlocks L_1199 L_1201 L_78 L_90 L_1202 k_Mo_operator ⟨(by show _ ≤ fr0 + 17; omega), (by show _ ≤ lo0 + 346; omega)⟩ rfl rfl hl.1 (Nat.le_of_ble_eq_true rfl) d_Mo_binary_14 rfl (fun q z => by unfold f_Mo_binary; rw [bndM_r w_1, bndM_r w_2, bndM_l z]) (fun r_3 mo_3 H locs w_3 hP hD hS => ?_)
  refine lv_istore (lv' := [(5, .int r_3), (4, .int r_2), (0, .ref hm), (1, .int depth), (2, .int inn), (3, .int least)]) hx hb d_Mo_binary_17 hl (by decide) rfl (fun ls hl => ?_)
  obtain ⟨x_4, hx_4⟩ : ∃ z, f_Mo_binary_L19 K depth inn least 5000 r_2 r_3 mo_3 = z := ⟨_, rfl⟩
  have hn_4 : x_4 ≠ none := (fun z => hg (by unfold f_Mo_binary; rw [bndM_r w_1, bndM_r w_2, bndM_r w_3, bndM_n (hx_4.trans z)]))
  have hX_4 : ∀ q, x_4 = some (.inl q) → (f_Mo_binary K mo depth inn least) = some (.inl q) := (fun q z => by unfold f_Mo_binary; rw [bndM_r w_1, bndM_r w_2, bndM_r w_3, bndM_l (hx_4.trans z)])
  have lp_4 : ∀ (fu : Nat) (x4 x5 : Int32) (sx_4 : MO) (H : Heap) (locs : List Loc) (ls : Array Slot), va_P (dC, dI) cls (wM cI cZ hm ma sx_4) H → va_D A (wM cI cZ hm ma sx_4) → va_S A s.heap H locs → lv_has ls 7 [(0, .ref hm), (1, .int depth), (2, .int inn), (3, .int least), (4, .int x4), (5, .int x5)] → x_4 = f_Mo_binary_L19 K depth inn least fu x4 x5 sx_4 → W p l e (headSpec (wy y_Mo_binary c_Mo_binary 7 (some .int)) { frames := (fr0 + 17), cells := 1, slots := 6, locals := (lo0 + 346) }).room s m [.ref hm, .int depth, .int inn, .int least].toArray below meth c H locs 0 0 (vx_MQ below (va_Qi (fun r (u : MO) => (f_Mo_binary K mo depth inn least) = some (.inr (r, u))) (wB (dC, dI) cI cZ A (wM cI cZ hm ma)) A) (xM (dC, dI) cI cZ hm ma (f_Mo_binary K mo depth inn least) A) [.ref hm, .int depth, .int inn, .int least].toArray s (mcM (f_Mo_binary K mo depth inn least)) (msM (f_Mo_binary K mo depth inn least)) A) (F0 m 19 ls []) := by
    intro fu
    induction fu with
    | zero => intro x4 x5 sx_4 H locs ls hP hD hS hl hL_4; exact absurd (hL_4.trans rfl) hn_4
    | succ fu_4 ih_4 =>
      intro x4 x5 sx_4 H locs ls hP hD hS hl hL_4
      rw [f_Mo_binary_L19] at hL_4
      refine lv_iload hx hb d_Mo_binary_19 (lv_at hl 5 rfl) ?_
      refine lv_if_le (tgt := 100) hx hb d_Mo_binary_21 (by decide) (fun c_5 => ?_) (fun c_5 => ?_)
      · rw [if_pos c_5] at hL_4
        obtain ⟨se_4, hse_4⟩ : ∃ z : MO, z = sx_4 := ⟨_, rfl⟩
        have hP : va_P (dC, dI) cls (wM cI cZ hm ma se_4) H := by rw [hse_4]; exact hP
        have hD : va_D A (wM cI cZ hm ma se_4) := by rw [hse_4]; exact hD
        obtain ⟨rv_4, hrv_4⟩ : ∃ z : Int32, z = x4 := ⟨_, rfl⟩
        have we_4 : f_Mo_binary_L19 K depth inn least 5000 r_2 r_3 mo_3 = some (.inr (rv_4, se_4)) := by rw [hrv_4, hse_4]; exact hx_4.trans hL_4
        have hl : lv_has ls 7 [(0, .ref hm), (1, .int depth), (2, .int inn), (3, .int least), (4, .int rv_4)] := by rw [hrv_4]; exact lv_sub hl [0, 1, 2, 3, 4] rfl
        refine lv_iload hx hb d_Mo_binary_100 (lv_at hl 4 rfl) ?_
        exact mr_iret (v := rv_4) (mo := se_4) hx hb hr hlocks hK hP hD hS (by unfold f_Mo_binary; rw [bndM_r w_1, bndM_r w_2, bndM_r w_3, bndM_r we_4]) d_Mo_binary_102
      · rw [if_neg c_5] at hL_4
        refine lv_iload hx hb d_Mo_binary_24 (lv_at hl 5 rfl) ?_
        refine mr_Si (g := (f_Mo_strength sx_4 x5)) (As := [.int x5]) (rest := []) ⟨hx, hb, hml, hown, hts0⟩ (m_Mo_strength l hlt dC dI cI cZ sa rk hm ma sx_4 _ x5 (fun z => hn_4 (hL_4.trans (bndM_n z)))) hP hD hK hS hA hC hZ hnt hlocks L_1203 L_1204 L_90 L_1205 k_Mo_strength ⟨(by show _ ≤ fr0 + 17; omega), (by show _ ≤ lo0 + 346; omega)⟩ rfl rfl hl.1 (Nat.le_of_ble_eq_true rfl) d_Mo_binary_26 rfl (fun q z => hX_4 q (hL_4.trans (bndM_l z))) (fun r_6 mo_6 H locs w_6 hP hD hS => ?_)
        rw [bndM_r w_6] at hL_4
        refine lv_iload_n hx hb d_Mo_binary_29 rfl (lv_at hl 3 rfl) ?_
        refine lv_icmp_lt (tgt := 100) hx hb d_Mo_binary_30 (by decide) (fun c_7 => ?_) (fun c_7 => ?_)
        · rw [if_pos c_7] at hL_4
          obtain ⟨se_4, hse_4⟩ : ∃ z : MO, z = mo_6 := ⟨_, rfl⟩
          have hP : va_P (dC, dI) cls (wM cI cZ hm ma se_4) H := by rw [hse_4]; exact hP
          have hD : va_D A (wM cI cZ hm ma se_4) := by rw [hse_4]; exact hD
          obtain ⟨rv_4, hrv_4⟩ : ∃ z : Int32, z = x4 := ⟨_, rfl⟩
          have we_4 : f_Mo_binary_L19 K depth inn least 5000 r_2 r_3 mo_3 = some (.inr (rv_4, se_4)) := by rw [hrv_4, hse_4]; exact hx_4.trans hL_4
          have hl : lv_has ls 7 [(0, .ref hm), (1, .int depth), (2, .int inn), (3, .int least), (4, .int rv_4)] := by rw [hrv_4]; exact lv_sub hl [0, 1, 2, 3, 4] rfl
          refine lv_iload hx hb d_Mo_binary_100 (lv_at hl 4 rfl) ?_
          exact mr_iret (v := rv_4) (mo := se_4) hx hb hr hlocks hK hP hD hS (by unfold f_Mo_binary; rw [bndM_r w_1, bndM_r w_2, bndM_r w_3, bndM_r we_4]) d_Mo_binary_102
        · rw [if_neg c_7] at hL_4
          refine lv_aload_n hx hb d_Mo_binary_33 rfl (lv_at hl 0 rfl) ?_
          refine lv_bipush (v := 41) hx hb d_Mo_binary_34 (by decide) ?_
          refine lv_iload hx hb d_Mo_binary_36 (lv_at hl 5 rfl) ?_
          refine lv_aload_n hx hb d_Mo_binary_38 rfl (lv_at hl 0 rfl) ?_
          refine va_get (D := (dC, dI)) (ci := 6) (v := .int (q_at mo_6)) (C := R_Mo) (T := T_Mo) (N := 31) hx hb hts u_Mo hown hK hP 0 rfl rfl 6 (by decide) (hts _ L_927) (fun _ h9 => h9) rfl d_Mo_binary_39 ?_
          refine mr_Vi (g := (f_Mo_make mo_6 41 x5 (q_at mo_6))) (As := [.int 41, .int x5, .int (q_at mo_6)]) (rest := []) ⟨hx, hb, hml, hown, hts0⟩ (m_Mo_make l hlt dC dI cI cZ sa rk hm ma mo_6 _ 41 x5 (q_at mo_6) (fun z => hn_4 (hL_4.trans (bndM_n z)))) hP hD hK hS hA hC hZ hnt hlocks L_1046 L_1048 L_59 L_90 L_1049 k_Mo_make ⟨(by show _ ≤ fr0 + 17; omega), (by show _ ≤ lo0 + 346; omega)⟩ rfl rfl hl.1 (Nat.le_of_ble_eq_true rfl) d_Mo_binary_42 rfl (fun q z => hX_4 q (hL_4.trans (bndM_l z))) (fun r_8 mo_8 H locs w_8 hP hD hS => ?_)
          rw [bndM_r w_8] at hL_4
          refine lv_istore (lv' := [(6, .int r_8), (0, .ref hm), (1, .int depth), (2, .int inn), (3, .int least), (4, .int x4), (5, .int x5)]) hx hb d_Mo_binary_45 hl (by decide) rfl (fun ls hl => ?_)
          refine lv_aload_n hx hb d_Mo_binary_47 rfl (lv_at hl 1 rfl) ?_
          refine lv_dup hx hb d_Mo_binary_48 rfl ?_
          refine va_get (D := (dC, dI)) (ci := 6) (v := .int (q_at mo_8)) (C := R_Mo) (T := T_Mo) (N := 31) hx hb hts u_Mo hown hK hP 0 rfl rfl 6 (by decide) (hts _ L_927) (fun _ h9 => h9) rfl d_Mo_binary_49 ?_
          refine lv_iconst (v := 1) hx hb d_Mo_binary_52 (by decide) ?_
          refine lv_iadd hx hb d_Mo_binary_53 ?_
          refine va_put (D := (dC, dI)) (ci := 6) (v := .int ((q_at mo_8) + 1)) (ty := .int) (C := R_Mo) (T := T_Mo) (N := 31) hx hb hts u_Mo ty_Mo tk_Mo nm_Mo hown hK hP hD hS 0 rfl rfl 6 (by decide) (hts _ L_927) (fun _ h9 => h9) rfl (by decide +kernel) rfl rfl (Nat.le_of_ble_eq_true rfl) d_Mo_binary_54 (fun H locs hP hD hS => ?_)
          have hP : va_P (dC, dI) cls (wM cI cZ hm ma (s_at mo_8 ((q_at mo_8) + 1))) H := hP
          have hD : va_D A (wM cI cZ hm ma (s_at mo_8 ((q_at mo_8) + 1))) := hD
          refine lv_aload_n hx hb d_Mo_binary_57 rfl (lv_at hl 1 rfl) ?_
          refine lv_iload hx hb d_Mo_binary_58 (lv_at hl 0 rfl) ?_
          refine lv_iload hx hb d_Mo_binary_60 (lv_at hl 5 rfl) ?_
          refine mr_Vv (g := (f_Mo_hang (s_at mo_8 ((q_at mo_8) + 1)) r_8 x4)) (As := [.int r_8, .int x4]) (rest := []) ⟨hx, hb, hml, hown, hts0⟩ (m_Mo_hang l hlt dC dI cI cZ sa rk hm ma (s_at mo_8 ((q_at mo_8) + 1)) _ r_8 x4 (fun z => hn_4 (hL_4.trans (bndM_n z)))) hP hD hK hS hA hC hZ hnt hlocks L_1115 L_1117 L_69 L_90 L_1118 k_Mo_hang ⟨(by show _ ≤ fr0 + 17; omega), (by show _ ≤ lo0 + 346; omega)⟩ rfl rfl hl.1 (Nat.le_of_ble_eq_true rfl) d_Mo_binary_62 rfl (fun q z => hX_4 q (hL_4.trans (bndM_l z))) (fun mo_9 H locs w_9 hP hD hS => ?_)
          rw [bndM_r w_9] at hL_4
          refine lv_aload_n hx hb d_Mo_binary_65 rfl (lv_at hl 1 rfl) ?_
          refine lv_iload hx hb d_Mo_binary_66 (lv_at hl 0 rfl) ?_
          refine lv_aload_n hx hb d_Mo_binary_68 rfl (lv_at hl 1 rfl) ?_
          refine lv_iload_n hx hb d_Mo_binary_69 rfl (lv_at hl 2 rfl) ?_
          refine lv_iconst (v := 1) hx hb d_Mo_binary_70 (by decide) ?_
          refine lv_iadd hx hb d_Mo_binary_71 ?_
          refine lv_iload_n hx hb d_Mo_binary_72 rfl (lv_at hl 3 rfl) ?_
          refine lv_iload hx hb d_Mo_binary_73 (lv_at hl 6 rfl) ?_
          refine mr_Si (g := (f_Mo_strength mo_9 x5)) (As := [.int x5]) (rest := [.int inn, .int (depth + 1), .ref hm, .int r_8, .ref hm]) ⟨hx, hb, hml, hown, hts0⟩ (m_Mo_strength l hlt dC dI cI cZ sa rk hm ma mo_9 _ x5 (fun z => hn_4 (hL_4.trans (bndM_n z)))) hP hD hK hS hA hC hZ hnt hlocks L_1203 L_1204 L_90 L_1205 k_Mo_strength ⟨(by show _ ≤ fr0 + 17; omega), (by show _ ≤ lo0 + 346; omega)⟩ rfl rfl hl.1 (Nat.le_of_ble_eq_true rfl) d_Mo_binary_75 rfl (fun q z => hX_4 q (hL_4.trans (bndM_l z))) (fun r_10 mo_10 H locs w_10 hP hD hS => ?_)
          rw [bndM_r w_10] at hL_4
          refine lv_iconst (v := 1) hx hb d_Mo_binary_78 (by decide) ?_
          refine lv_iadd hx hb d_Mo_binary_79 ?_
          refine mr_Si (g := (K 2 [(depth + 1), inn, (r_10 + 1)] mo_10)) (As := [.ref hm, .int (depth + 1), .int inn, .int (r_10 + 1)]) (rest := [.int r_8, .ref hm]) ⟨hx, hb, hml, hown, hts0⟩ (hR2 mo_10 _ (depth + 1) inn (r_10 + 1) (fun z => hn_4 (hL_4.trans (bndM_n z)))) hP hD hK hS hA hC hZ hnt hlocks L_1141 L_1142 L_90 L_1143 k_Mo_binary ⟨(by show _ ≤ fr0 + 17; omega), (by show _ ≤ lo0 + 346; omega)⟩ rfl rfl hl.1 (Nat.le_of_ble_eq_true rfl) d_Mo_binary_80 rfl (fun q z => hX_4 q (hL_4.trans (bndM_l z))) (fun r_11 mo_11 H locs w_11 hP hD hS => ?_)
          rw [bndM_r w_11] at hL_4
          refine mr_Vv (g := (f_Mo_hang mo_11 r_8 r_11)) (As := [.int r_8, .int r_11]) (rest := []) ⟨hx, hb, hml, hown, hts0⟩ (m_Mo_hang l hlt dC dI cI cZ sa rk hm ma mo_11 _ r_8 r_11 (fun z => hn_4 (hL_4.trans (bndM_n z)))) hP hD hK hS hA hC hZ hnt hlocks L_1115 L_1117 L_69 L_90 L_1118 k_Mo_hang ⟨(by show _ ≤ fr0 + 17; omega), (by show _ ≤ lo0 + 346; omega)⟩ rfl rfl hl.1 (Nat.le_of_ble_eq_true rfl) d_Mo_binary_83 rfl (fun q z => hX_4 q (hL_4.trans (bndM_l z))) (fun mo_12 H locs w_12 hP hD hS => ?_)
          rw [bndM_r w_12] at hL_4
          refine lv_iload hx hb d_Mo_binary_86 (lv_at hl 0 rfl) ?_
          refine lv_istore (lv' := [(4, .int r_8), (6, .int r_8), (0, .ref hm), (1, .int depth), (2, .int inn), (3, .int least), (5, .int x5)]) hx hb d_Mo_binary_88 hl (by decide) rfl (fun ls hl => ?_)
          refine lv_aload_n hx hb d_Mo_binary_90 rfl (lv_at hl 2 rfl) ?_
          refine lv_iload_n hx hb d_Mo_binary_91 rfl (lv_at hl 4 rfl) ?_
          refine mr_Vi (g := (f_Mo_operator mo_12 inn)) (As := [.int inn]) (rest := []) ⟨hx, hb, hml, hown, hts0⟩ (m_Mo_operator l hlt dC dI cI cZ sa rk hm ma mo_12 _ inn (fun z => hn_4 (hL_4.trans (bndM_n z)))) hP hD hK hS hA hC hZ hnt hlocks L_1199 L_1201 L_78 L_90 L_1202 k_Mo_operator ⟨(by show _ ≤ fr0 + 17; omega), (by show _ ≤ lo0 + 346; omega)⟩ rfl rfl hl.1 (Nat.le_of_ble_eq_true rfl) d_Mo_binary_92 rfl (fun q z => hX_4 q (hL_4.trans (bndM_l z))) (fun r_13 mo_13 H locs w_13 hP hD hS => ?_)
          rw [bndM_r w_13] at hL_4
          refine lv_istore (lv' := [(5, .int r_13), (4, .int r_8), (6, .int r_8), (0, .ref hm), (1, .int depth), (2, .int inn), (3, .int least)]) hx hb d_Mo_binary_95 hl (by decide) rfl (fun ls hl => ?_)
          refine lv_goto (tgt := 19) hx hb d_Mo_binary_97 (by decide) ?_
          exact ih_4 r_8 r_13 mo_13 _ _ ls hP hD hS (lv_sub hl [3, 4, 5, 6, 1, 0] rfl) hL_4
  exact lp_4 5000 r_2 r_3 mo_3 _ _ ls hP hD hS (lv_sub hl [2, 3, 4, 5, 1, 0] rfl) hx_4.symm
def f_Mo_assignment (K : Nat → List Int32 → MO → Rm) (mo : MO) (depth : Int32) (inn : Int32) : Rm := (bndM (f_Mo_deep mo depth) (fun _ mo_1 => (bndM (f_Mo_binary K mo_1 depth inn 1) (fun r_2 mo_2 => (bndM (f_Mo_isSign mo_2 69) (fun r_3 mo_3 => (if r_3 = 0 then (bndM (f_Mo_isKind mo_3 4) (fun r_5 mo_5 => (if r_5 = 0 then (some (.inr (r_2, mo_5))) else (if inb (q_at mo_5) 1001 then (bndM (f_Mo_isIn mo_5 ((q_words mo_5) ((q_at mo_5) : Int32).toNatClampNeg) 30 53) (fun r_8 mo_8 => (if r_8 = 0 then (some (.inr (r_2, mo_8))) else (bndM (f_Mo_changed mo_8 r_2 (q_at mo_8)) (fun _ mo_10 => (if inb (q_at mo_10) 1001 then (bndM (f_Mo_make mo_10 42 (((q_words mo_10) ((q_at mo_10) : Int32).toNatClampNeg) - 30) (q_at mo_10)) (fun r_12 mo_12 => (bndM (f_Mo_hang (s_at mo_12 ((q_at mo_12) + 1)) r_12 r_2) (fun _ mo_13 => (bndM (K 1 [(depth + 1), inn] mo_13) (fun r_14 mo_14 => (bndM (f_Mo_hang mo_14 r_12 r_14) (fun _ mo_15 => (some (.inr (r_12, mo_15))))))))))) else none)))))) else none)))) else (bndM (f_Mo_make mo_3 40 0 (q_at mo_3)) (fun r_16 mo_16 => (bndM (f_Mo_hang (s_at mo_16 ((q_at mo_16) + 1)) r_16 r_2) (fun _ mo_17 => (bndM (K 1 [(depth + 1), 1] mo_17) (fun r_18 mo_18 => (bndM (f_Mo_hang mo_18 r_16 r_18) (fun _ mo_19 => (bndM (f_Mo_expect mo_19 70) (fun _ mo_20 => (bndM (K 1 [(depth + 1), inn] mo_20) (fun r_21 mo_21 => (bndM (f_Mo_hang mo_21 r_16 r_21) (fun _ mo_22 => (some (.inr (r_16, mo_22))))))))))))))))))))))))
set_option maxRecDepth 100000 in
set_option maxHeartbeats 4000000 in
theorem m_Mo_assignment (l : Launch) (hlt : l.stackTraces = false) (dC : Nat → ClassId) (dI : Nat → Nat → Nat) (cI cZ : ClassId) (sa rk hm : Nat) (ma : Nat → Nat) (fr0 lo0 : Nat) (K : Nat → List Int32 → MO → Rm) (hR0 : ∀ (mo : MO) (sz : Nat) (p0 p1 : Int32), K 0 [p0, p1] mo ≠ none → cXi l y_Mo_expression c_Mo_expression 5 .int fr0 lo0 (dC, dI) cI cZ sa rk hm ma mo sz [.ref hm, .int p0, .int p1] (K 0 [p0, p1] mo)) (hR1 : ∀ (mo : MO) (sz : Nat) (p0 p1 : Int32), K 1 [p0, p1] mo ≠ none → cXi l y_Mo_assignment c_Mo_assignment 5 .int fr0 lo0 (dC, dI) cI cZ sa rk hm ma mo sz [.ref hm, .int p0, .int p1] (K 1 [p0, p1] mo)) (hR2 : ∀ (mo : MO) (sz : Nat) (p0 p1 p2 : Int32), K 2 [p0, p1, p2] mo ≠ none → cXi l y_Mo_binary c_Mo_binary 7 .int fr0 lo0 (dC, dI) cI cZ sa rk hm ma mo sz [.ref hm, .int p0, .int p1, .int p2] (K 2 [p0, p1, p2] mo)) (hR3 : ∀ (mo : MO) (sz : Nat) (p0 : Int32), K 3 [p0] mo ≠ none → cXi l y_Mo_unary c_Mo_unary 5 .int fr0 lo0 (dC, dI) cI cZ sa rk hm ma mo sz [.ref hm, .int p0] (K 3 [p0] mo)) (hR4 : ∀ (mo : MO) (sz : Nat) (p0 p1 : Int32), K 4 [p0, p1] mo ≠ none → cXi l y_Mo_member c_Mo_member 6 .int fr0 lo0 (dC, dI) cI cZ sa rk hm ma mo sz [.ref hm, .int p0, .int p1] (K 4 [p0, p1] mo)) (hR5 : ∀ (mo : MO) (sz : Nat) (p0 p1 : Int32), K 5 [p0, p1] mo ≠ none → cXi l y_Mo_statement c_Mo_statement 3 .int fr0 lo0 (dC, dI) cI cZ sa rk hm ma mo sz [.ref hm, .int p0, .int p1] (K 5 [p0, p1] mo)) (hR6 : ∀ (mo : MO) (sz : Nat) (p0 p1 p2 : Int32), K 6 [p0, p1, p2] mo ≠ none → cXv l y_Mo_statements c_Mo_statements 8 fr0 lo0 (dC, dI) cI cZ sa rk hm ma mo sz [.ref hm, .int p0, .int p1, .int p2] (K 6 [p0, p1, p2] mo)) (hR7 : ∀ (mo : MO) (sz : Nat) (p0 : Int32), K 7 [p0] mo ≠ none → cXi l y_Mo_block c_Mo_block 4 .int fr0 lo0 (dC, dI) cI cZ sa rk hm ma mo sz [.ref hm, .int p0] (K 7 [p0] mo)) (mo : MO) (sz : Nat) (depth : Int32) (inn : Int32) (hg : (f_Mo_assignment K mo depth inn) ≠ none) : cXi l y_Mo_assignment c_Mo_assignment 5 .int (fr0 + 18) (lo0 + 372) (dC, dI) cI cZ sa rk hm ma mo sz [.ref hm, .int depth, .int inn] (f_Mo_assignment K mo depth inn) := by
  refine vx_ofW (cc := c_Mo_assignment) (maxL := 5) (ret := (some .int)) (by decide) rfl ?_
  intro p e s m args below meth c s₁ B hml hnt hv
  obtain ⟨rfl, hsz, hP, hK, hD0, hC, hZ⟩ := hv
  have hx := B.exec
  have hb := B.bytes
  have hr := B.returns
  have hts0 := atoms_spec (ws := wy y_Mo_assignment c_Mo_assignment 5 (some .int)) B.pre
  have hts := htsL hts0
  have hown : s.vm.findClass R_Mo = some m.cls := findClass_of_methodNamed B.named
  have hlocks := B.notSynchronized
  subst hsz
  have hD := hD0.self (sz := s.heap.size)
  generalize hAe : va_A (wM cI cZ hm ma mo) s.heap.size = A at hD hZ ⊢
  have hA : ∀ q : Nat, s.heap.size ≤ q → A q := fun q h => by rw [← hAe]; exact Or.inr h
  have hS : va_S A s.heap s.heap [] := va_S.rf
  have hl := lv_entry ([.ref hm, .int depth, .int inn]) (n := 5) (Nat.le_of_ble_eq_true rfl)
  rw [lg_entry_eq]
  generalize (lg_sl ([.ref hm, .int depth, .int inn]) ++ List.replicate (5 - (lg_sl ([.ref hm, .int depth, .int inn])).length) Slot.unset).toArray = ls at hl ⊢
  have hl : lv_has ls 5 [(0, .ref hm), (1, .int depth), (2, .int inn)] := hl
  refine lv_aload_n hx hb d_Mo_assignment_0 rfl (lv_at hl 0 rfl) ?_
  refine lv_iload_n hx hb d_Mo_assignment_1 rfl (lv_at hl 1 rfl) ?_
  refine mr_Vv (g := (f_Mo_deep mo depth)) (As := [.int depth]) (rest := []) ⟨hx, hb, hml, hown, hts0⟩ (m_Mo_deep l hlt dC dI cI cZ sa rk hm ma mo _ depth (fun z => hg (by unfold f_Mo_assignment; rw [bndM_n z]))) hP hD hK hS hA hC hZ hnt hlocks L_1068 L_1070 L_63 L_90 L_1071 k_Mo_deep ⟨(by show _ ≤ fr0 + 18; omega), (by show _ ≤ lo0 + 372; omega)⟩ rfl rfl hl.1 (Nat.le_of_ble_eq_true rfl) d_Mo_assignment_2 rfl (fun q z => by unfold f_Mo_assignment; rw [bndM_l z]) (fun mo_1 H locs w_1 hP hD hS => ?_)
  refine lv_aload_n hx hb d_Mo_assignment_5 rfl (lv_at hl 0 rfl) ?_
  refine lv_iload_n hx hb d_Mo_assignment_6 rfl (lv_at hl 1 rfl) ?_
  refine lv_iload_n hx hb d_Mo_assignment_7 rfl (lv_at hl 2 rfl) ?_
  refine lv_iconst (v := 1) hx hb d_Mo_assignment_8 (by decide) ?_
  refine mr_Si (g := (f_Mo_binary K mo_1 depth inn 1)) (As := [.ref hm, .int depth, .int inn, .int 1]) (rest := []) ⟨hx, hb, hml, hown, hts0⟩ (m_Mo_binary l hlt dC dI cI cZ sa rk hm ma fr0 lo0 K hR0 hR1 hR2 hR3 hR4 hR5 hR6 hR7 mo_1 _ depth inn 1 (fun z => hg (by unfold f_Mo_assignment; rw [bndM_r w_1, bndM_n z]))) hP hD hK hS hA hC hZ hnt hlocks L_1141 L_1142 L_90 L_1143 k_Mo_binary ⟨(by show _ ≤ fr0 + 18; omega), (by show _ ≤ lo0 + 372; omega)⟩ rfl rfl hl.1 (Nat.le_of_ble_eq_true rfl) d_Mo_assignment_9 rfl (fun q z => by unfold f_Mo_assignment; rw [bndM_r w_1, bndM_l z]) (fun r_2 mo_2 H locs w_2 hP hD hS => ?_)
  refine lv_istore_n (lv' := [(3, .int r_2), (0, .ref hm), (1, .int depth), (2, .int inn)]) hx hb d_Mo_assignment_12 rfl hl (by decide) rfl (fun ls hl => ?_)
  refine lv_aload_n hx hb d_Mo_assignment_13 rfl (lv_at hl 1 rfl) ?_
  refine lv_bipush (v := 69) hx hb d_Mo_assignment_14 (by decide) ?_
  refine mr_Vi (g := (f_Mo_isSign mo_2 69)) (As := [.int 69]) (rest := []) ⟨hx, hb, hml, hown, hts0⟩ (m_Mo_isSign l hlt dC dI cI cZ sa rk hm ma mo_2 _ 69 (fun z => hg (by unfold f_Mo_assignment; rw [bndM_r w_1, bndM_r w_2, bndM_n z]))) hP hD hK hS hA hC hZ hnt hlocks L_1053 L_1055 L_60 L_90 L_1056 k_Mo_isSign ⟨(by show _ ≤ fr0 + 18; omega), (by show _ ≤ lo0 + 372; omega)⟩ rfl rfl hl.1 (Nat.le_of_ble_eq_true rfl) d_Mo_assignment_16 rfl (fun q z => by unfold f_Mo_assignment; rw [bndM_r w_1, bndM_r w_2, bndM_l z]) (fun r_3 mo_3 H locs w_3 hP hD hS => ?_)
  refine lv_if_eq (tgt := 89) hx hb d_Mo_assignment_19 (by decide) (fun c_4 => ?_) (fun c_4 => ?_)
  · refine lv_aload_n hx hb d_Mo_assignment_89 rfl (lv_at hl 1 rfl) ?_
    refine lv_iconst (v := 4) hx hb d_Mo_assignment_90 (by decide) ?_
    refine mr_Vi (g := (f_Mo_isKind mo_3 4)) (As := [.int 4]) (rest := []) ⟨hx, hb, hml, hown, hts0⟩ (m_Mo_isKind l hlt dC dI cI cZ sa rk hm ma mo_3 _ 4 (fun z => hg (by unfold f_Mo_assignment; rw [bndM_r w_1, bndM_r w_2, bndM_r w_3, if_pos c_4, bndM_n z]))) hP hD hK hS hA hC hZ hnt hlocks L_1057 L_1059 L_61 L_90 L_1060 k_Mo_isKind ⟨(by show _ ≤ fr0 + 18; omega), (by show _ ≤ lo0 + 372; omega)⟩ rfl rfl hl.1 (Nat.le_of_ble_eq_true rfl) d_Mo_assignment_91 rfl (fun q z => by unfold f_Mo_assignment; rw [bndM_r w_1, bndM_r w_2, bndM_r w_3, if_pos c_4, bndM_l z]) (fun r_5 mo_5 H locs w_5 hP hD hS => ?_)
    refine lv_if_eq (tgt := 116) hx hb d_Mo_assignment_94 (by decide) (fun c_6 => ?_) (fun c_6 => ?_)
    · refine lv_iload_n hx hb d_Mo_assignment_116 rfl (lv_at hl 0 rfl) ?_
      exact mr_iret (v := r_2) (mo := mo_5) hx hb hr hlocks hK hP hD hS (by unfold f_Mo_assignment; rw [bndM_r w_1, bndM_r w_2, bndM_r w_3, if_pos c_4, bndM_r w_5, if_pos c_6]) d_Mo_assignment_117
    · refine lv_aload_n hx hb d_Mo_assignment_97 rfl (lv_at hl 1 rfl) ?_
      refine va_get (D := (dC, dI)) (ci := 6) (v := .ref (ma 1)) (C := R_Mo) (T := T_Mo) (N := 31) hx hb hts u_Mo hown hK hP 0 rfl rfl 2 (by decide) (hts _ L_923) (fun _ h9 => h9) rfl d_Mo_assignment_98 ?_
      refine lv_aload_n hx hb d_Mo_assignment_101 rfl (lv_at hl 1 rfl) ?_
      refine va_get (D := (dC, dI)) (ci := 6) (v := .int (q_at mo_5)) (C := R_Mo) (T := T_Mo) (N := 31) hx hb hts u_Mo hown hK hP 0 rfl rfl 6 (by decide) (hts _ L_927) (fun _ h9 => h9) rfl d_Mo_assignment_102 ?_
      by_cases cb_7 : inb (q_at mo_5) 1001
      case neg => exact absurd (by unfold f_Mo_assignment; rw [bndM_r w_1, bndM_r w_2, bndM_r w_3, if_pos c_4, bndM_r w_5, if_neg c_6, if_neg cb_7]) hg
      refine va_iald (D := (dC, dI)) hx hb hK hP 2 0 rfl rfl cb_7 d_Mo_assignment_105 ?_
      refine lv_bipush (v := 30) hx hb d_Mo_assignment_106 (by decide) ?_
      refine lv_bipush (v := 53) hx hb d_Mo_assignment_108 (by decide) ?_
      refine mr_Si (g := (f_Mo_isIn mo_5 ((q_words mo_5) ((q_at mo_5) : Int32).toNatClampNeg) 30 53)) (As := [.int ((q_words mo_5) ((q_at mo_5) : Int32).toNatClampNeg), .int 30, .int 53]) (rest := []) ⟨hx, hb, hml, hown, hts0⟩ (m_Mo_isIn l hlt dC dI cI cZ sa rk hm ma mo_5 _ ((q_words mo_5) ((q_at mo_5) : Int32).toNatClampNeg) 30 53 (fun z => hg (by unfold f_Mo_assignment; rw [bndM_r w_1, bndM_r w_2, bndM_r w_3, if_pos c_4, bndM_r w_5, if_neg c_6, if_pos cb_7, bndM_n z]))) hP hD hK hS hA hC hZ hnt hlocks L_1023 L_1024 L_90 L_1025 k_Mo_isIn ⟨(by show _ ≤ fr0 + 18; omega), (by show _ ≤ lo0 + 372; omega)⟩ rfl rfl hl.1 (Nat.le_of_ble_eq_true rfl) d_Mo_assignment_110 rfl (fun q z => by unfold f_Mo_assignment; rw [bndM_r w_1, bndM_r w_2, bndM_r w_3, if_pos c_4, bndM_r w_5, if_neg c_6, if_pos cb_7, bndM_l z]) (fun r_8 mo_8 H locs w_8 hP hD hS => ?_)
      refine lv_if_ne (tgt := 118) hx hb d_Mo_assignment_113 (by decide) (fun c_9 => ?_) (fun c_9 => ?_)
      · refine lv_aload_n hx hb d_Mo_assignment_118 rfl (lv_at hl 1 rfl) ?_
        refine lv_iload_n hx hb d_Mo_assignment_119 rfl (lv_at hl 0 rfl) ?_
        refine lv_aload_n hx hb d_Mo_assignment_120 rfl (lv_at hl 1 rfl) ?_
        refine va_get (D := (dC, dI)) (ci := 6) (v := .int (q_at mo_8)) (C := R_Mo) (T := T_Mo) (N := 31) hx hb hts u_Mo hown hK hP 0 rfl rfl 6 (by decide) (hts _ L_927) (fun _ h9 => h9) rfl d_Mo_assignment_121 ?_
        refine mr_Vv (g := (f_Mo_changed mo_8 r_2 (q_at mo_8))) (As := [.int r_2, .int (q_at mo_8)]) (rest := []) ⟨hx, hb, hml, hown, hts0⟩ (m_Mo_changed l hlt dC dI cI cZ sa rk hm ma mo_8 _ r_2 (q_at mo_8) (fun z => hg (by unfold f_Mo_assignment; rw [bndM_r w_1, bndM_r w_2, bndM_r w_3, if_pos c_4, bndM_r w_5, if_neg c_6, if_pos cb_7, bndM_r w_8, if_neg c_9, bndM_n z]))) hP hD hK hS hA hC hZ hnt hlocks L_1191 L_1193 L_76 L_90 L_1194 k_Mo_changed ⟨(by show _ ≤ fr0 + 18; omega), (by show _ ≤ lo0 + 372; omega)⟩ rfl rfl hl.1 (Nat.le_of_ble_eq_true rfl) d_Mo_assignment_124 rfl (fun q z => by unfold f_Mo_assignment; rw [bndM_r w_1, bndM_r w_2, bndM_r w_3, if_pos c_4, bndM_r w_5, if_neg c_6, if_pos cb_7, bndM_r w_8, if_neg c_9, bndM_l z]) (fun mo_10 H locs w_10 hP hD hS => ?_)
        refine lv_aload_n hx hb d_Mo_assignment_127 rfl (lv_at hl 1 rfl) ?_
        refine lv_bipush (v := 42) hx hb d_Mo_assignment_128 (by decide) ?_
        refine lv_aload_n hx hb d_Mo_assignment_130 rfl (lv_at hl 1 rfl) ?_
        refine va_get (D := (dC, dI)) (ci := 6) (v := .ref (ma 1)) (C := R_Mo) (T := T_Mo) (N := 31) hx hb hts u_Mo hown hK hP 0 rfl rfl 2 (by decide) (hts _ L_923) (fun _ h9 => h9) rfl d_Mo_assignment_131 ?_
        refine lv_aload_n hx hb d_Mo_assignment_134 rfl (lv_at hl 1 rfl) ?_
        refine va_get (D := (dC, dI)) (ci := 6) (v := .int (q_at mo_10)) (C := R_Mo) (T := T_Mo) (N := 31) hx hb hts u_Mo hown hK hP 0 rfl rfl 6 (by decide) (hts _ L_927) (fun _ h9 => h9) rfl d_Mo_assignment_135 ?_
        by_cases cb_11 : inb (q_at mo_10) 1001
        case neg => exact absurd (by unfold f_Mo_assignment; rw [bndM_r w_1, bndM_r w_2, bndM_r w_3, if_pos c_4, bndM_r w_5, if_neg c_6, if_pos cb_7, bndM_r w_8, if_neg c_9, bndM_r w_10, if_neg cb_11]) hg
        refine va_iald (D := (dC, dI)) hx hb hK hP 2 0 rfl rfl cb_11 d_Mo_assignment_138 ?_
        refine lv_bipush (v := 30) hx hb d_Mo_assignment_139 (by decide) ?_
        refine lv_isub hx hb d_Mo_assignment_141 ?_
        refine lv_aload_n hx hb d_Mo_assignment_142 rfl (lv_at hl 1 rfl) ?_
        refine va_get (D := (dC, dI)) (ci := 6) (v := .int (q_at mo_10)) (C := R_Mo) (T := T_Mo) (N := 31) hx hb hts u_Mo hown hK hP 0 rfl rfl 6 (by decide) (hts _ L_927) (fun _ h9 => h9) rfl d_Mo_assignment_143 ?_
        refine mr_Vi (g := (f_Mo_make mo_10 42 (((q_words mo_10) ((q_at mo_10) : Int32).toNatClampNeg) - 30) (q_at mo_10))) (As := [.int 42, .int (((q_words mo_10) ((q_at mo_10) : Int32).toNatClampNeg) - 30), .int (q_at mo_10)]) (rest := []) ⟨hx, hb, hml, hown, hts0⟩ (m_Mo_make l hlt dC dI cI cZ sa rk hm ma mo_10 _ 42 (((q_words mo_10) ((q_at mo_10) : Int32).toNatClampNeg) - 30) (q_at mo_10) (fun z => hg (by unfold f_Mo_assignment; rw [bndM_r w_1, bndM_r w_2, bndM_r w_3, if_pos c_4, bndM_r w_5, if_neg c_6, if_pos cb_7, bndM_r w_8, if_neg c_9, bndM_r w_10, if_pos cb_11, bndM_n z]))) hP hD hK hS hA hC hZ hnt hlocks L_1046 L_1048 L_59 L_90 L_1049 k_Mo_make ⟨(by show _ ≤ fr0 + 18; omega), (by show _ ≤ lo0 + 372; omega)⟩ rfl rfl hl.1 (Nat.le_of_ble_eq_true rfl) d_Mo_assignment_146 rfl (fun q z => by unfold f_Mo_assignment; rw [bndM_r w_1, bndM_r w_2, bndM_r w_3, if_pos c_4, bndM_r w_5, if_neg c_6, if_pos cb_7, bndM_r w_8, if_neg c_9, bndM_r w_10, if_pos cb_11, bndM_l z]) (fun r_12 mo_12 H locs w_12 hP hD hS => ?_)
        refine lv_istore (lv' := [(4, .int r_12), (3, .int r_2), (0, .ref hm), (1, .int depth), (2, .int inn)]) hx hb d_Mo_assignment_149 hl (by decide) rfl (fun ls hl => ?_)
        refine lv_aload_n hx hb d_Mo_assignment_151 rfl (lv_at hl 2 rfl) ?_
        refine lv_dup hx hb d_Mo_assignment_152 rfl ?_
        refine va_get (D := (dC, dI)) (ci := 6) (v := .int (q_at mo_12)) (C := R_Mo) (T := T_Mo) (N := 31) hx hb hts u_Mo hown hK hP 0 rfl rfl 6 (by decide) (hts _ L_927) (fun _ h9 => h9) rfl d_Mo_assignment_153 ?_
        refine lv_iconst (v := 1) hx hb d_Mo_assignment_156 (by decide) ?_
        refine lv_iadd hx hb d_Mo_assignment_157 ?_
        refine va_put (D := (dC, dI)) (ci := 6) (v := .int ((q_at mo_12) + 1)) (ty := .int) (C := R_Mo) (T := T_Mo) (N := 31) hx hb hts u_Mo ty_Mo tk_Mo nm_Mo hown hK hP hD hS 0 rfl rfl 6 (by decide) (hts _ L_927) (fun _ h9 => h9) rfl (by decide +kernel) rfl rfl (Nat.le_of_ble_eq_true rfl) d_Mo_assignment_158 (fun H locs hP hD hS => ?_)
        have hP : va_P (dC, dI) cls (wM cI cZ hm ma (s_at mo_12 ((q_at mo_12) + 1))) H := hP
        have hD : va_D A (wM cI cZ hm ma (s_at mo_12 ((q_at mo_12) + 1))) := hD
        refine lv_aload_n hx hb d_Mo_assignment_161 rfl (lv_at hl 2 rfl) ?_
        refine lv_iload hx hb d_Mo_assignment_162 (lv_at hl 0 rfl) ?_
        refine lv_iload_n hx hb d_Mo_assignment_164 rfl (lv_at hl 1 rfl) ?_
        refine mr_Vv (g := (f_Mo_hang (s_at mo_12 ((q_at mo_12) + 1)) r_12 r_2)) (As := [.int r_12, .int r_2]) (rest := []) ⟨hx, hb, hml, hown, hts0⟩ (m_Mo_hang l hlt dC dI cI cZ sa rk hm ma (s_at mo_12 ((q_at mo_12) + 1)) _ r_12 r_2 (fun z => hg (by unfold f_Mo_assignment; rw [bndM_r w_1, bndM_r w_2, bndM_r w_3, if_pos c_4, bndM_r w_5, if_neg c_6, if_pos cb_7, bndM_r w_8, if_neg c_9, bndM_r w_10, if_pos cb_11, bndM_r w_12, bndM_n z]))) hP hD hK hS hA hC hZ hnt hlocks L_1115 L_1117 L_69 L_90 L_1118 k_Mo_hang ⟨(by show _ ≤ fr0 + 18; omega), (by show _ ≤ lo0 + 372; omega)⟩ rfl rfl hl.1 (Nat.le_of_ble_eq_true rfl) d_Mo_assignment_165 rfl (fun q z => by unfold f_Mo_assignment; rw [bndM_r w_1, bndM_r w_2, bndM_r w_3, if_pos c_4, bndM_r w_5, if_neg c_6, if_pos cb_7, bndM_r w_8, if_neg c_9, bndM_r w_10, if_pos cb_11, bndM_r w_12, bndM_l z]) (fun mo_13 H locs w_13 hP hD hS => ?_)
        refine lv_aload_n hx hb d_Mo_assignment_168 rfl (lv_at hl 2 rfl) ?_
        refine lv_iload hx hb d_Mo_assignment_169 (lv_at hl 0 rfl) ?_
        refine lv_aload_n hx hb d_Mo_assignment_171 rfl (lv_at hl 2 rfl) ?_
        refine lv_iload_n hx hb d_Mo_assignment_172 rfl (lv_at hl 3 rfl) ?_
        refine lv_iconst (v := 1) hx hb d_Mo_assignment_173 (by decide) ?_
        refine lv_iadd hx hb d_Mo_assignment_174 ?_
        refine lv_iload_n hx hb d_Mo_assignment_175 rfl (lv_at hl 4 rfl) ?_
        refine mr_Si (g := (K 1 [(depth + 1), inn] mo_13)) (As := [.ref hm, .int (depth + 1), .int inn]) (rest := [.int r_12, .ref hm]) ⟨hx, hb, hml, hown, hts0⟩ (hR1 mo_13 _ (depth + 1) inn (fun z => hg (by unfold f_Mo_assignment; rw [bndM_r w_1, bndM_r w_2, bndM_r w_3, if_pos c_4, bndM_r w_5, if_neg c_6, if_pos cb_7, bndM_r w_8, if_neg c_9, bndM_r w_10, if_pos cb_11, bndM_r w_12, bndM_r w_13, bndM_n z]))) hP hD hK hS hA hC hZ hnt hlocks L_1138 L_1139 L_90 L_1140 k_Mo_assignment ⟨(by show _ ≤ fr0 + 18; omega), (by show _ ≤ lo0 + 372; omega)⟩ rfl rfl hl.1 (Nat.le_of_ble_eq_true rfl) d_Mo_assignment_176 rfl (fun q z => by unfold f_Mo_assignment; rw [bndM_r w_1, bndM_r w_2, bndM_r w_3, if_pos c_4, bndM_r w_5, if_neg c_6, if_pos cb_7, bndM_r w_8, if_neg c_9, bndM_r w_10, if_pos cb_11, bndM_r w_12, bndM_r w_13, bndM_l z]) (fun r_14 mo_14 H locs w_14 hP hD hS => ?_)
        refine mr_Vv (g := (f_Mo_hang mo_14 r_12 r_14)) (As := [.int r_12, .int r_14]) (rest := []) ⟨hx, hb, hml, hown, hts0⟩ (m_Mo_hang l hlt dC dI cI cZ sa rk hm ma mo_14 _ r_12 r_14 (fun z => hg (by unfold f_Mo_assignment; rw [bndM_r w_1, bndM_r w_2, bndM_r w_3, if_pos c_4, bndM_r w_5, if_neg c_6, if_pos cb_7, bndM_r w_8, if_neg c_9, bndM_r w_10, if_pos cb_11, bndM_r w_12, bndM_r w_13, bndM_r w_14, bndM_n z]))) hP hD hK hS hA hC hZ hnt hlocks L_1115 L_1117 L_69 L_90 L_1118 k_Mo_hang ⟨(by show _ ≤ fr0 + 18; omega), (by show _ ≤ lo0 + 372; omega)⟩ rfl rfl hl.1 (Nat.le_of_ble_eq_true rfl) d_Mo_assignment_179 rfl (fun q z => by unfold f_Mo_assignment; rw [bndM_r w_1, bndM_r w_2, bndM_r w_3, if_pos c_4, bndM_r w_5, if_neg c_6, if_pos cb_7, bndM_r w_8, if_neg c_9, bndM_r w_10, if_pos cb_11, bndM_r w_12, bndM_r w_13, bndM_r w_14, bndM_l z]) (fun mo_15 H locs w_15 hP hD hS => ?_)
        refine lv_iload hx hb d_Mo_assignment_182 (lv_at hl 0 rfl) ?_
        exact mr_iret (v := r_12) (mo := mo_15) hx hb hr hlocks hK hP hD hS (by unfold f_Mo_assignment; rw [bndM_r w_1, bndM_r w_2, bndM_r w_3, if_pos c_4, bndM_r w_5, if_neg c_6, if_pos cb_7, bndM_r w_8, if_neg c_9, bndM_r w_10, if_pos cb_11, bndM_r w_12, bndM_r w_13, bndM_r w_14, bndM_r w_15]) d_Mo_assignment_184
      · refine lv_iload_n hx hb d_Mo_assignment_116 rfl (lv_at hl 0 rfl) ?_
        exact mr_iret (v := r_2) (mo := mo_8) hx hb hr hlocks hK hP hD hS (by unfold f_Mo_assignment; rw [bndM_r w_1, bndM_r w_2, bndM_r w_3, if_pos c_4, bndM_r w_5, if_neg c_6, if_pos cb_7, bndM_r w_8, if_pos c_9]) d_Mo_assignment_117
  · refine lv_aload_n hx hb d_Mo_assignment_22 rfl (lv_at hl 1 rfl) ?_
    refine lv_bipush (v := 40) hx hb d_Mo_assignment_23 (by decide) ?_
    refine lv_iconst (v := 0) hx hb d_Mo_assignment_25 (by decide) ?_
    refine lv_aload_n hx hb d_Mo_assignment_26 rfl (lv_at hl 1 rfl) ?_
    refine va_get (D := (dC, dI)) (ci := 6) (v := .int (q_at mo_3)) (C := R_Mo) (T := T_Mo) (N := 31) hx hb hts u_Mo hown hK hP 0 rfl rfl 6 (by decide) (hts _ L_927) (fun _ h9 => h9) rfl d_Mo_assignment_27 ?_
    refine mr_Vi (g := (f_Mo_make mo_3 40 0 (q_at mo_3))) (As := [.int 40, .int 0, .int (q_at mo_3)]) (rest := []) ⟨hx, hb, hml, hown, hts0⟩ (m_Mo_make l hlt dC dI cI cZ sa rk hm ma mo_3 _ 40 0 (q_at mo_3) (fun z => hg (by unfold f_Mo_assignment; rw [bndM_r w_1, bndM_r w_2, bndM_r w_3, if_neg c_4, bndM_n z]))) hP hD hK hS hA hC hZ hnt hlocks L_1046 L_1048 L_59 L_90 L_1049 k_Mo_make ⟨(by show _ ≤ fr0 + 18; omega), (by show _ ≤ lo0 + 372; omega)⟩ rfl rfl hl.1 (Nat.le_of_ble_eq_true rfl) d_Mo_assignment_30 rfl (fun q z => by unfold f_Mo_assignment; rw [bndM_r w_1, bndM_r w_2, bndM_r w_3, if_neg c_4, bndM_l z]) (fun r_16 mo_16 H locs w_16 hP hD hS => ?_)
    refine lv_istore (lv' := [(4, .int r_16), (3, .int r_2), (0, .ref hm), (1, .int depth), (2, .int inn)]) hx hb d_Mo_assignment_33 hl (by decide) rfl (fun ls hl => ?_)
    refine lv_aload_n hx hb d_Mo_assignment_35 rfl (lv_at hl 2 rfl) ?_
    refine lv_dup hx hb d_Mo_assignment_36 rfl ?_
    refine va_get (D := (dC, dI)) (ci := 6) (v := .int (q_at mo_16)) (C := R_Mo) (T := T_Mo) (N := 31) hx hb hts u_Mo hown hK hP 0 rfl rfl 6 (by decide) (hts _ L_927) (fun _ h9 => h9) rfl d_Mo_assignment_37 ?_
    refine lv_iconst (v := 1) hx hb d_Mo_assignment_40 (by decide) ?_
    refine lv_iadd hx hb d_Mo_assignment_41 ?_
    refine va_put (D := (dC, dI)) (ci := 6) (v := .int ((q_at mo_16) + 1)) (ty := .int) (C := R_Mo) (T := T_Mo) (N := 31) hx hb hts u_Mo ty_Mo tk_Mo nm_Mo hown hK hP hD hS 0 rfl rfl 6 (by decide) (hts _ L_927) (fun _ h9 => h9) rfl (by decide +kernel) rfl rfl (Nat.le_of_ble_eq_true rfl) d_Mo_assignment_42 (fun H locs hP hD hS => ?_)
    have hP : va_P (dC, dI) cls (wM cI cZ hm ma (s_at mo_16 ((q_at mo_16) + 1))) H := hP
    have hD : va_D A (wM cI cZ hm ma (s_at mo_16 ((q_at mo_16) + 1))) := hD
    refine lv_aload_n hx hb d_Mo_assignment_45 rfl (lv_at hl 2 rfl) ?_
    refine lv_iload hx hb d_Mo_assignment_46 (lv_at hl 0 rfl) ?_
    refine lv_iload_n hx hb d_Mo_assignment_48 rfl (lv_at hl 1 rfl) ?_
    refine mr_Vv (g := (f_Mo_hang (s_at mo_16 ((q_at mo_16) + 1)) r_16 r_2)) (As := [.int r_16, .int r_2]) (rest := []) ⟨hx, hb, hml, hown, hts0⟩ (m_Mo_hang l hlt dC dI cI cZ sa rk hm ma (s_at mo_16 ((q_at mo_16) + 1)) _ r_16 r_2 (fun z => hg (by unfold f_Mo_assignment; rw [bndM_r w_1, bndM_r w_2, bndM_r w_3, if_neg c_4, bndM_r w_16, bndM_n z]))) hP hD hK hS hA hC hZ hnt hlocks L_1115 L_1117 L_69 L_90 L_1118 k_Mo_hang ⟨(by show _ ≤ fr0 + 18; omega), (by show _ ≤ lo0 + 372; omega)⟩ rfl rfl hl.1 (Nat.le_of_ble_eq_true rfl) d_Mo_assignment_49 rfl (fun q z => by unfold f_Mo_assignment; rw [bndM_r w_1, bndM_r w_2, bndM_r w_3, if_neg c_4, bndM_r w_16, bndM_l z]) (fun mo_17 H locs w_17 hP hD hS => ?_)
    refine lv_aload_n hx hb d_Mo_assignment_52 rfl (lv_at hl 2 rfl) ?_
    refine lv_iload hx hb d_Mo_assignment_53 (lv_at hl 0 rfl) ?_
    refine lv_aload_n hx hb d_Mo_assignment_55 rfl (lv_at hl 2 rfl) ?_
    refine lv_iload_n hx hb d_Mo_assignment_56 rfl (lv_at hl 3 rfl) ?_
    refine lv_iconst (v := 1) hx hb d_Mo_assignment_57 (by decide) ?_
    refine lv_iadd hx hb d_Mo_assignment_58 ?_
    refine lv_iconst (v := 1) hx hb d_Mo_assignment_59 (by decide) ?_
    refine mr_Si (g := (K 1 [(depth + 1), 1] mo_17)) (As := [.ref hm, .int (depth + 1), .int 1]) (rest := [.int r_16, .ref hm]) ⟨hx, hb, hml, hown, hts0⟩ (hR1 mo_17 _ (depth + 1) 1 (fun z => hg (by unfold f_Mo_assignment; rw [bndM_r w_1, bndM_r w_2, bndM_r w_3, if_neg c_4, bndM_r w_16, bndM_r w_17, bndM_n z]))) hP hD hK hS hA hC hZ hnt hlocks L_1138 L_1139 L_90 L_1140 k_Mo_assignment ⟨(by show _ ≤ fr0 + 18; omega), (by show _ ≤ lo0 + 372; omega)⟩ rfl rfl hl.1 (Nat.le_of_ble_eq_true rfl) d_Mo_assignment_60 rfl (fun q z => by unfold f_Mo_assignment; rw [bndM_r w_1, bndM_r w_2, bndM_r w_3, if_neg c_4, bndM_r w_16, bndM_r w_17, bndM_l z]) (fun r_18 mo_18 H locs w_18 hP hD hS => ?_)
    refine mr_Vv (g := (f_Mo_hang mo_18 r_16 r_18)) (As := [.int r_16, .int r_18]) (rest := []) ⟨hx, hb, hml, hown, hts0⟩ (m_Mo_hang l hlt dC dI cI cZ sa rk hm ma mo_18 _ r_16 r_18 (fun z => hg (by unfold f_Mo_assignment; rw [bndM_r w_1, bndM_r w_2, bndM_r w_3, if_neg c_4, bndM_r w_16, bndM_r w_17, bndM_r w_18, bndM_n z]))) hP hD hK hS hA hC hZ hnt hlocks L_1115 L_1117 L_69 L_90 L_1118 k_Mo_hang ⟨(by show _ ≤ fr0 + 18; omega), (by show _ ≤ lo0 + 372; omega)⟩ rfl rfl hl.1 (Nat.le_of_ble_eq_true rfl) d_Mo_assignment_63 rfl (fun q z => by unfold f_Mo_assignment; rw [bndM_r w_1, bndM_r w_2, bndM_r w_3, if_neg c_4, bndM_r w_16, bndM_r w_17, bndM_r w_18, bndM_l z]) (fun mo_19 H locs w_19 hP hD hS => ?_)
    refine lv_aload_n hx hb d_Mo_assignment_66 rfl (lv_at hl 2 rfl) ?_
    refine lv_bipush (v := 70) hx hb d_Mo_assignment_67 (by decide) ?_
    refine mr_Vv (g := (f_Mo_expect mo_19 70)) (As := [.int 70]) (rest := []) ⟨hx, hb, hml, hown, hts0⟩ (m_Mo_expect l hlt dC dI cI cZ sa rk hm ma mo_19 _ 70 (fun z => hg (by unfold f_Mo_assignment; rw [bndM_r w_1, bndM_r w_2, bndM_r w_3, if_neg c_4, bndM_r w_16, bndM_r w_17, bndM_r w_18, bndM_r w_19, bndM_n z]))) hP hD hK hS hA hC hZ hnt hlocks L_1111 L_1113 L_68 L_90 L_1114 k_Mo_expect ⟨(by show _ ≤ fr0 + 18; omega), (by show _ ≤ lo0 + 372; omega)⟩ rfl rfl hl.1 (Nat.le_of_ble_eq_true rfl) d_Mo_assignment_69 rfl (fun q z => by unfold f_Mo_assignment; rw [bndM_r w_1, bndM_r w_2, bndM_r w_3, if_neg c_4, bndM_r w_16, bndM_r w_17, bndM_r w_18, bndM_r w_19, bndM_l z]) (fun mo_20 H locs w_20 hP hD hS => ?_)
    refine lv_aload_n hx hb d_Mo_assignment_72 rfl (lv_at hl 2 rfl) ?_
    refine lv_iload hx hb d_Mo_assignment_73 (lv_at hl 0 rfl) ?_
    refine lv_aload_n hx hb d_Mo_assignment_75 rfl (lv_at hl 2 rfl) ?_
    refine lv_iload_n hx hb d_Mo_assignment_76 rfl (lv_at hl 3 rfl) ?_
    refine lv_iconst (v := 1) hx hb d_Mo_assignment_77 (by decide) ?_
    refine lv_iadd hx hb d_Mo_assignment_78 ?_
    refine lv_iload_n hx hb d_Mo_assignment_79 rfl (lv_at hl 4 rfl) ?_
    refine mr_Si (g := (K 1 [(depth + 1), inn] mo_20)) (As := [.ref hm, .int (depth + 1), .int inn]) (rest := [.int r_16, .ref hm]) ⟨hx, hb, hml, hown, hts0⟩ (hR1 mo_20 _ (depth + 1) inn (fun z => hg (by unfold f_Mo_assignment; rw [bndM_r w_1, bndM_r w_2, bndM_r w_3, if_neg c_4, bndM_r w_16, bndM_r w_17, bndM_r w_18, bndM_r w_19, bndM_r w_20, bndM_n z]))) hP hD hK hS hA hC hZ hnt hlocks L_1138 L_1139 L_90 L_1140 k_Mo_assignment ⟨(by show _ ≤ fr0 + 18; omega), (by show _ ≤ lo0 + 372; omega)⟩ rfl rfl hl.1 (Nat.le_of_ble_eq_true rfl) d_Mo_assignment_80 rfl (fun q z => by unfold f_Mo_assignment; rw [bndM_r w_1, bndM_r w_2, bndM_r w_3, if_neg c_4, bndM_r w_16, bndM_r w_17, bndM_r w_18, bndM_r w_19, bndM_r w_20, bndM_l z]) (fun r_21 mo_21 H locs w_21 hP hD hS => ?_)
    refine mr_Vv (g := (f_Mo_hang mo_21 r_16 r_21)) (As := [.int r_16, .int r_21]) (rest := []) ⟨hx, hb, hml, hown, hts0⟩ (m_Mo_hang l hlt dC dI cI cZ sa rk hm ma mo_21 _ r_16 r_21 (fun z => hg (by unfold f_Mo_assignment; rw [bndM_r w_1, bndM_r w_2, bndM_r w_3, if_neg c_4, bndM_r w_16, bndM_r w_17, bndM_r w_18, bndM_r w_19, bndM_r w_20, bndM_r w_21, bndM_n z]))) hP hD hK hS hA hC hZ hnt hlocks L_1115 L_1117 L_69 L_90 L_1118 k_Mo_hang ⟨(by show _ ≤ fr0 + 18; omega), (by show _ ≤ lo0 + 372; omega)⟩ rfl rfl hl.1 (Nat.le_of_ble_eq_true rfl) d_Mo_assignment_83 rfl (fun q z => by unfold f_Mo_assignment; rw [bndM_r w_1, bndM_r w_2, bndM_r w_3, if_neg c_4, bndM_r w_16, bndM_r w_17, bndM_r w_18, bndM_r w_19, bndM_r w_20, bndM_r w_21, bndM_l z]) (fun mo_22 H locs w_22 hP hD hS => ?_)
    refine lv_iload hx hb d_Mo_assignment_86 (lv_at hl 0 rfl) ?_
    exact mr_iret (v := r_16) (mo := mo_22) hx hb hr hlocks hK hP hD hS (by unfold f_Mo_assignment; rw [bndM_r w_1, bndM_r w_2, bndM_r w_3, if_neg c_4, bndM_r w_16, bndM_r w_17, bndM_r w_18, bndM_r w_19, bndM_r w_20, bndM_r w_21, bndM_r w_22]) d_Mo_assignment_88
def f_Mo_expression_L7 (K : Nat → List Int32 → MO → Rm) (depth : Int32) (inn : Int32) : Nat → Int32 → MO → Rm
  | 0, _, _ => none
  | fu_2 + 1, x3, sx_2 => (bndM (f_Mo_isSign sx_2 68) (fun r_3 mo_3 => (if r_3 = 0 then (some (.inr (x3, mo_3))) else (bndM (f_Mo_make mo_3 45 0 (q_at mo_3)) (fun r_5 mo_5 => (bndM (f_Mo_hang (s_at mo_5 ((q_at mo_5) + 1)) r_5 x3) (fun _ mo_6 => (bndM (K 1 [(depth + 1), inn] mo_6) (fun r_7 mo_7 => (bndM (f_Mo_hang mo_7 r_5 r_7) (fun _ mo_8 => (f_Mo_expression_L7 K depth inn fu_2 r_5 mo_8))))))))))))
def f_Mo_expression (K : Nat → List Int32 → MO → Rm) (mo : MO) (depth : Int32) (inn : Int32) : Rm := (bndM (f_Mo_assignment K mo depth inn) (fun r_1 mo_1 => (bndM (f_Mo_expression_L7 K depth inn 5000 r_1 mo_1) (fun rv_2 se_2 => (some (.inr (rv_2, se_2)))))))
set_option maxRecDepth 100000 in
set_option maxHeartbeats 4000000 in
theorem m_Mo_expression (l : Launch) (hlt : l.stackTraces = false) (dC : Nat → ClassId) (dI : Nat → Nat → Nat) (cI cZ : ClassId) (sa rk hm : Nat) (ma : Nat → Nat) (fr0 lo0 : Nat) (K : Nat → List Int32 → MO → Rm) (hR0 : ∀ (mo : MO) (sz : Nat) (p0 p1 : Int32), K 0 [p0, p1] mo ≠ none → cXi l y_Mo_expression c_Mo_expression 5 .int fr0 lo0 (dC, dI) cI cZ sa rk hm ma mo sz [.ref hm, .int p0, .int p1] (K 0 [p0, p1] mo)) (hR1 : ∀ (mo : MO) (sz : Nat) (p0 p1 : Int32), K 1 [p0, p1] mo ≠ none → cXi l y_Mo_assignment c_Mo_assignment 5 .int fr0 lo0 (dC, dI) cI cZ sa rk hm ma mo sz [.ref hm, .int p0, .int p1] (K 1 [p0, p1] mo)) (hR2 : ∀ (mo : MO) (sz : Nat) (p0 p1 p2 : Int32), K 2 [p0, p1, p2] mo ≠ none → cXi l y_Mo_binary c_Mo_binary 7 .int fr0 lo0 (dC, dI) cI cZ sa rk hm ma mo sz [.ref hm, .int p0, .int p1, .int p2] (K 2 [p0, p1, p2] mo)) (hR3 : ∀ (mo : MO) (sz : Nat) (p0 : Int32), K 3 [p0] mo ≠ none → cXi l y_Mo_unary c_Mo_unary 5 .int fr0 lo0 (dC, dI) cI cZ sa rk hm ma mo sz [.ref hm, .int p0] (K 3 [p0] mo)) (hR4 : ∀ (mo : MO) (sz : Nat) (p0 p1 : Int32), K 4 [p0, p1] mo ≠ none → cXi l y_Mo_member c_Mo_member 6 .int fr0 lo0 (dC, dI) cI cZ sa rk hm ma mo sz [.ref hm, .int p0, .int p1] (K 4 [p0, p1] mo)) (hR5 : ∀ (mo : MO) (sz : Nat) (p0 p1 : Int32), K 5 [p0, p1] mo ≠ none → cXi l y_Mo_statement c_Mo_statement 3 .int fr0 lo0 (dC, dI) cI cZ sa rk hm ma mo sz [.ref hm, .int p0, .int p1] (K 5 [p0, p1] mo)) (hR6 : ∀ (mo : MO) (sz : Nat) (p0 p1 p2 : Int32), K 6 [p0, p1, p2] mo ≠ none → cXv l y_Mo_statements c_Mo_statements 8 fr0 lo0 (dC, dI) cI cZ sa rk hm ma mo sz [.ref hm, .int p0, .int p1, .int p2] (K 6 [p0, p1, p2] mo)) (hR7 : ∀ (mo : MO) (sz : Nat) (p0 : Int32), K 7 [p0] mo ≠ none → cXi l y_Mo_block c_Mo_block 4 .int fr0 lo0 (dC, dI) cI cZ sa rk hm ma mo sz [.ref hm, .int p0] (K 7 [p0] mo)) (mo : MO) (sz : Nat) (depth : Int32) (inn : Int32) (hg : (f_Mo_expression K mo depth inn) ≠ none) : cXi l y_Mo_expression c_Mo_expression 5 .int (fr0 + 19) (lo0 + 396) (dC, dI) cI cZ sa rk hm ma mo sz [.ref hm, .int depth, .int inn] (f_Mo_expression K mo depth inn) := by
  refine vx_ofW (cc := c_Mo_expression) (maxL := 5) (ret := (some .int)) (by decide) rfl ?_
  intro p e s m args below meth c s₁ B hml hnt hv
  obtain ⟨rfl, hsz, hP, hK, hD0, hC, hZ⟩ := hv
  have hx := B.exec
  have hb := B.bytes
  have hr := B.returns
  have hts0 := atoms_spec (ws := wy y_Mo_expression c_Mo_expression 5 (some .int)) B.pre
  have hts := htsL hts0
  have hown : s.vm.findClass R_Mo = some m.cls := findClass_of_methodNamed B.named
  have hlocks := B.notSynchronized
  subst hsz
  have hD := hD0.self (sz := s.heap.size)
  generalize hAe : va_A (wM cI cZ hm ma mo) s.heap.size = A at hD hZ ⊢
  have hA : ∀ q : Nat, s.heap.size ≤ q → A q := fun q h => by rw [← hAe]; exact Or.inr h
  have hS : va_S A s.heap s.heap [] := va_S.rf
  have hl := lv_entry ([.ref hm, .int depth, .int inn]) (n := 5) (Nat.le_of_ble_eq_true rfl)
  rw [lg_entry_eq]
  generalize (lg_sl ([.ref hm, .int depth, .int inn]) ++ List.replicate (5 - (lg_sl ([.ref hm, .int depth, .int inn])).length) Slot.unset).toArray = ls at hl ⊢
  have hl : lv_has ls 5 [(0, .ref hm), (1, .int depth), (2, .int inn)] := hl
  refine lv_aload_n hx hb d_Mo_expression_0 rfl (lv_at hl 0 rfl) ?_
  refine lv_iload_n hx hb d_Mo_expression_1 rfl (lv_at hl 1 rfl) ?_
  refine lv_iload_n hx hb d_Mo_expression_2 rfl (lv_at hl 2 rfl) ?_
  refine mr_Si (g := (f_Mo_assignment K mo depth inn)) (As := [.ref hm, .int depth, .int inn]) (rest := []) ⟨hx, hb, hml, hown, hts0⟩ (m_Mo_assignment l hlt dC dI cI cZ sa rk hm ma fr0 lo0 K hR0 hR1 hR2 hR3 hR4 hR5 hR6 hR7 mo _ depth inn (fun z => hg (by unfold f_Mo_expression; rw [bndM_n z]))) hP hD hK hS hA hC hZ hnt hlocks L_1138 L_1139 L_90 L_1140 k_Mo_assignment ⟨(by show _ ≤ fr0 + 19; omega), (by show _ ≤ lo0 + 396; omega)⟩ rfl rfl hl.1 (Nat.le_of_ble_eq_true rfl) d_Mo_expression_3 rfl (fun q z => by unfold f_Mo_expression; rw [bndM_l z]) (fun r_1 mo_1 H locs w_1 hP hD hS => ?_)
  refine lv_istore_n (lv' := [(3, .int r_1), (0, .ref hm), (1, .int depth), (2, .int inn)]) hx hb d_Mo_expression_6 rfl hl (by decide) rfl (fun ls hl => ?_)
  obtain ⟨x_2, hx_2⟩ : ∃ z, f_Mo_expression_L7 K depth inn 5000 r_1 mo_1 = z := ⟨_, rfl⟩
  have hn_2 : x_2 ≠ none := (fun z => hg (by unfold f_Mo_expression; rw [bndM_r w_1, bndM_n (hx_2.trans z)]))
  have hX_2 : ∀ q, x_2 = some (.inl q) → (f_Mo_expression K mo depth inn) = some (.inl q) := (fun q z => by unfold f_Mo_expression; rw [bndM_r w_1, bndM_l (hx_2.trans z)])
  have lp_2 : ∀ (fu : Nat) (x3 : Int32) (sx_2 : MO) (H : Heap) (locs : List Loc) (ls : Array Slot), va_P (dC, dI) cls (wM cI cZ hm ma sx_2) H → va_D A (wM cI cZ hm ma sx_2) → va_S A s.heap H locs → lv_has ls 5 [(0, .ref hm), (1, .int depth), (2, .int inn), (3, .int x3)] → x_2 = f_Mo_expression_L7 K depth inn fu x3 sx_2 → W p l e (headSpec (wy y_Mo_expression c_Mo_expression 5 (some .int)) { frames := (fr0 + 19), cells := 1, slots := 6, locals := (lo0 + 396) }).room s m [.ref hm, .int depth, .int inn].toArray below meth c H locs 0 0 (vx_MQ below (va_Qi (fun r (u : MO) => (f_Mo_expression K mo depth inn) = some (.inr (r, u))) (wB (dC, dI) cI cZ A (wM cI cZ hm ma)) A) (xM (dC, dI) cI cZ hm ma (f_Mo_expression K mo depth inn) A) [.ref hm, .int depth, .int inn].toArray s (mcM (f_Mo_expression K mo depth inn)) (msM (f_Mo_expression K mo depth inn)) A) (F0 m 7 ls []) := by
    intro fu
    induction fu with
    | zero => intro x3 sx_2 H locs ls hP hD hS hl hL_2; exact absurd (hL_2.trans rfl) hn_2
    | succ fu_2 ih_2 =>
      intro x3 sx_2 H locs ls hP hD hS hl hL_2
      rw [f_Mo_expression_L7] at hL_2
      refine lv_aload_n hx hb d_Mo_expression_7 rfl (lv_at hl 0 rfl) ?_
      refine lv_bipush (v := 68) hx hb d_Mo_expression_8 (by decide) ?_
      refine mr_Vi (g := (f_Mo_isSign sx_2 68)) (As := [.int 68]) (rest := []) ⟨hx, hb, hml, hown, hts0⟩ (m_Mo_isSign l hlt dC dI cI cZ sa rk hm ma sx_2 _ 68 (fun z => hn_2 (hL_2.trans (bndM_n z)))) hP hD hK hS hA hC hZ hnt hlocks L_1053 L_1055 L_60 L_90 L_1056 k_Mo_isSign ⟨(by show _ ≤ fr0 + 19; omega), (by show _ ≤ lo0 + 396; omega)⟩ rfl rfl hl.1 (Nat.le_of_ble_eq_true rfl) d_Mo_expression_10 rfl (fun q z => hX_2 q (hL_2.trans (bndM_l z))) (fun r_3 mo_3 H locs w_3 hP hD hS => ?_)
      rw [bndM_r w_3] at hL_2
      refine lv_if_eq (tgt := 66) hx hb d_Mo_expression_13 (by decide) (fun c_4 => ?_) (fun c_4 => ?_)
      · rw [if_pos c_4] at hL_2
        obtain ⟨se_2, hse_2⟩ : ∃ z : MO, z = mo_3 := ⟨_, rfl⟩
        have hP : va_P (dC, dI) cls (wM cI cZ hm ma se_2) H := by rw [hse_2]; exact hP
        have hD : va_D A (wM cI cZ hm ma se_2) := by rw [hse_2]; exact hD
        obtain ⟨rv_2, hrv_2⟩ : ∃ z : Int32, z = x3 := ⟨_, rfl⟩
        have we_2 : f_Mo_expression_L7 K depth inn 5000 r_1 mo_1 = some (.inr (rv_2, se_2)) := by rw [hrv_2, hse_2]; exact hx_2.trans hL_2
        have hl : lv_has ls 5 [(0, .ref hm), (1, .int depth), (2, .int inn), (3, .int rv_2)] := by rw [hrv_2]; exact lv_sub hl [0, 1, 2, 3] rfl
        refine lv_iload_n hx hb d_Mo_expression_66 rfl (lv_at hl 3 rfl) ?_
        exact mr_iret (v := rv_2) (mo := se_2) hx hb hr hlocks hK hP hD hS (by unfold f_Mo_expression; rw [bndM_r w_1, bndM_r we_2]) d_Mo_expression_67
      · rw [if_neg c_4] at hL_2
        refine lv_aload_n hx hb d_Mo_expression_16 rfl (lv_at hl 0 rfl) ?_
        refine lv_bipush (v := 45) hx hb d_Mo_expression_17 (by decide) ?_
        refine lv_iconst (v := 0) hx hb d_Mo_expression_19 (by decide) ?_
        refine lv_aload_n hx hb d_Mo_expression_20 rfl (lv_at hl 0 rfl) ?_
        refine va_get (D := (dC, dI)) (ci := 6) (v := .int (q_at mo_3)) (C := R_Mo) (T := T_Mo) (N := 31) hx hb hts u_Mo hown hK hP 0 rfl rfl 6 (by decide) (hts _ L_927) (fun _ h9 => h9) rfl d_Mo_expression_21 ?_
        refine mr_Vi (g := (f_Mo_make mo_3 45 0 (q_at mo_3))) (As := [.int 45, .int 0, .int (q_at mo_3)]) (rest := []) ⟨hx, hb, hml, hown, hts0⟩ (m_Mo_make l hlt dC dI cI cZ sa rk hm ma mo_3 _ 45 0 (q_at mo_3) (fun z => hn_2 (hL_2.trans (bndM_n z)))) hP hD hK hS hA hC hZ hnt hlocks L_1046 L_1048 L_59 L_90 L_1049 k_Mo_make ⟨(by show _ ≤ fr0 + 19; omega), (by show _ ≤ lo0 + 396; omega)⟩ rfl rfl hl.1 (Nat.le_of_ble_eq_true rfl) d_Mo_expression_24 rfl (fun q z => hX_2 q (hL_2.trans (bndM_l z))) (fun r_5 mo_5 H locs w_5 hP hD hS => ?_)
        rw [bndM_r w_5] at hL_2
        refine lv_istore (lv' := [(4, .int r_5), (0, .ref hm), (1, .int depth), (2, .int inn), (3, .int x3)]) hx hb d_Mo_expression_27 hl (by decide) rfl (fun ls hl => ?_)
        refine lv_aload_n hx hb d_Mo_expression_29 rfl (lv_at hl 1 rfl) ?_
        refine lv_dup hx hb d_Mo_expression_30 rfl ?_
        refine va_get (D := (dC, dI)) (ci := 6) (v := .int (q_at mo_5)) (C := R_Mo) (T := T_Mo) (N := 31) hx hb hts u_Mo hown hK hP 0 rfl rfl 6 (by decide) (hts _ L_927) (fun _ h9 => h9) rfl d_Mo_expression_31 ?_
        refine lv_iconst (v := 1) hx hb d_Mo_expression_34 (by decide) ?_
        refine lv_iadd hx hb d_Mo_expression_35 ?_
        refine va_put (D := (dC, dI)) (ci := 6) (v := .int ((q_at mo_5) + 1)) (ty := .int) (C := R_Mo) (T := T_Mo) (N := 31) hx hb hts u_Mo ty_Mo tk_Mo nm_Mo hown hK hP hD hS 0 rfl rfl 6 (by decide) (hts _ L_927) (fun _ h9 => h9) rfl (by decide +kernel) rfl rfl (Nat.le_of_ble_eq_true rfl) d_Mo_expression_36 (fun H locs hP hD hS => ?_)
        have hP : va_P (dC, dI) cls (wM cI cZ hm ma (s_at mo_5 ((q_at mo_5) + 1))) H := hP
        have hD : va_D A (wM cI cZ hm ma (s_at mo_5 ((q_at mo_5) + 1))) := hD
        refine lv_aload_n hx hb d_Mo_expression_39 rfl (lv_at hl 1 rfl) ?_
        refine lv_iload hx hb d_Mo_expression_40 (lv_at hl 0 rfl) ?_
        refine lv_iload_n hx hb d_Mo_expression_42 rfl (lv_at hl 4 rfl) ?_
        refine mr_Vv (g := (f_Mo_hang (s_at mo_5 ((q_at mo_5) + 1)) r_5 x3)) (As := [.int r_5, .int x3]) (rest := []) ⟨hx, hb, hml, hown, hts0⟩ (m_Mo_hang l hlt dC dI cI cZ sa rk hm ma (s_at mo_5 ((q_at mo_5) + 1)) _ r_5 x3 (fun z => hn_2 (hL_2.trans (bndM_n z)))) hP hD hK hS hA hC hZ hnt hlocks L_1115 L_1117 L_69 L_90 L_1118 k_Mo_hang ⟨(by show _ ≤ fr0 + 19; omega), (by show _ ≤ lo0 + 396; omega)⟩ rfl rfl hl.1 (Nat.le_of_ble_eq_true rfl) d_Mo_expression_43 rfl (fun q z => hX_2 q (hL_2.trans (bndM_l z))) (fun mo_6 H locs w_6 hP hD hS => ?_)
        rw [bndM_r w_6] at hL_2
        refine lv_aload_n hx hb d_Mo_expression_46 rfl (lv_at hl 1 rfl) ?_
        refine lv_iload hx hb d_Mo_expression_47 (lv_at hl 0 rfl) ?_
        refine lv_aload_n hx hb d_Mo_expression_49 rfl (lv_at hl 1 rfl) ?_
        refine lv_iload_n hx hb d_Mo_expression_50 rfl (lv_at hl 2 rfl) ?_
        refine lv_iconst (v := 1) hx hb d_Mo_expression_51 (by decide) ?_
        refine lv_iadd hx hb d_Mo_expression_52 ?_
        refine lv_iload_n hx hb d_Mo_expression_53 rfl (lv_at hl 3 rfl) ?_
        refine mr_Si (g := (K 1 [(depth + 1), inn] mo_6)) (As := [.ref hm, .int (depth + 1), .int inn]) (rest := [.int r_5, .ref hm]) ⟨hx, hb, hml, hown, hts0⟩ (hR1 mo_6 _ (depth + 1) inn (fun z => hn_2 (hL_2.trans (bndM_n z)))) hP hD hK hS hA hC hZ hnt hlocks L_1138 L_1139 L_90 L_1140 k_Mo_assignment ⟨(by show _ ≤ fr0 + 19; omega), (by show _ ≤ lo0 + 396; omega)⟩ rfl rfl hl.1 (Nat.le_of_ble_eq_true rfl) d_Mo_expression_54 rfl (fun q z => hX_2 q (hL_2.trans (bndM_l z))) (fun r_7 mo_7 H locs w_7 hP hD hS => ?_)
        rw [bndM_r w_7] at hL_2
        refine mr_Vv (g := (f_Mo_hang mo_7 r_5 r_7)) (As := [.int r_5, .int r_7]) (rest := []) ⟨hx, hb, hml, hown, hts0⟩ (m_Mo_hang l hlt dC dI cI cZ sa rk hm ma mo_7 _ r_5 r_7 (fun z => hn_2 (hL_2.trans (bndM_n z)))) hP hD hK hS hA hC hZ hnt hlocks L_1115 L_1117 L_69 L_90 L_1118 k_Mo_hang ⟨(by show _ ≤ fr0 + 19; omega), (by show _ ≤ lo0 + 396; omega)⟩ rfl rfl hl.1 (Nat.le_of_ble_eq_true rfl) d_Mo_expression_57 rfl (fun q z => hX_2 q (hL_2.trans (bndM_l z))) (fun mo_8 H locs w_8 hP hD hS => ?_)
        rw [bndM_r w_8] at hL_2
        refine lv_iload hx hb d_Mo_expression_60 (lv_at hl 0 rfl) ?_
        refine lv_istore_n (lv' := [(3, .int r_5), (4, .int r_5), (0, .ref hm), (1, .int depth), (2, .int inn)]) hx hb d_Mo_expression_62 rfl hl (by decide) rfl (fun ls hl => ?_)
        refine lv_goto (tgt := 7) hx hb d_Mo_expression_63 (by decide) ?_
        exact ih_2 r_5 mo_8 _ _ ls hP hD hS (lv_sub hl [2, 3, 4, 0] rfl) hL_2
  exact lp_2 5000 r_1 mo_1 _ _ ls hP hD hS (lv_sub hl [1, 2, 3, 0] rfl) hx_2.symm
def f_Mo_declaration (K : Nat → List Int32 → MO → Rm) (mo : MO) (depth : Int32) : Rm := (bndM (f_Mo_deep mo depth) (fun _ mo_1 => (bndM (f_Mo_function K mo_1 24 depth) (fun r_2 mo_2 => (some (.inr (r_2, mo_2)))))))
set_option maxRecDepth 100000 in
set_option maxHeartbeats 4000000 in
theorem m_Mo_declaration (l : Launch) (hlt : l.stackTraces = false) (dC : Nat → ClassId) (dI : Nat → Nat → Nat) (cI cZ : ClassId) (sa rk hm : Nat) (ma : Nat → Nat) (fr0 lo0 : Nat) (K : Nat → List Int32 → MO → Rm) (hR0 : ∀ (mo : MO) (sz : Nat) (p0 p1 : Int32), K 0 [p0, p1] mo ≠ none → cXi l y_Mo_expression c_Mo_expression 5 .int fr0 lo0 (dC, dI) cI cZ sa rk hm ma mo sz [.ref hm, .int p0, .int p1] (K 0 [p0, p1] mo)) (hR1 : ∀ (mo : MO) (sz : Nat) (p0 p1 : Int32), K 1 [p0, p1] mo ≠ none → cXi l y_Mo_assignment c_Mo_assignment 5 .int fr0 lo0 (dC, dI) cI cZ sa rk hm ma mo sz [.ref hm, .int p0, .int p1] (K 1 [p0, p1] mo)) (hR2 : ∀ (mo : MO) (sz : Nat) (p0 p1 p2 : Int32), K 2 [p0, p1, p2] mo ≠ none → cXi l y_Mo_binary c_Mo_binary 7 .int fr0 lo0 (dC, dI) cI cZ sa rk hm ma mo sz [.ref hm, .int p0, .int p1, .int p2] (K 2 [p0, p1, p2] mo)) (hR3 : ∀ (mo : MO) (sz : Nat) (p0 : Int32), K 3 [p0] mo ≠ none → cXi l y_Mo_unary c_Mo_unary 5 .int fr0 lo0 (dC, dI) cI cZ sa rk hm ma mo sz [.ref hm, .int p0] (K 3 [p0] mo)) (hR4 : ∀ (mo : MO) (sz : Nat) (p0 p1 : Int32), K 4 [p0, p1] mo ≠ none → cXi l y_Mo_member c_Mo_member 6 .int fr0 lo0 (dC, dI) cI cZ sa rk hm ma mo sz [.ref hm, .int p0, .int p1] (K 4 [p0, p1] mo)) (hR5 : ∀ (mo : MO) (sz : Nat) (p0 p1 : Int32), K 5 [p0, p1] mo ≠ none → cXi l y_Mo_statement c_Mo_statement 3 .int fr0 lo0 (dC, dI) cI cZ sa rk hm ma mo sz [.ref hm, .int p0, .int p1] (K 5 [p0, p1] mo)) (hR6 : ∀ (mo : MO) (sz : Nat) (p0 p1 p2 : Int32), K 6 [p0, p1, p2] mo ≠ none → cXv l y_Mo_statements c_Mo_statements 8 fr0 lo0 (dC, dI) cI cZ sa rk hm ma mo sz [.ref hm, .int p0, .int p1, .int p2] (K 6 [p0, p1, p2] mo)) (hR7 : ∀ (mo : MO) (sz : Nat) (p0 : Int32), K 7 [p0] mo ≠ none → cXi l y_Mo_block c_Mo_block 4 .int fr0 lo0 (dC, dI) cI cZ sa rk hm ma mo sz [.ref hm, .int p0] (K 7 [p0] mo)) (mo : MO) (sz : Nat) (depth : Int32) (hg : (f_Mo_declaration K mo depth) ≠ none) : cXi l y_Mo_declaration c_Mo_declaration 2 .int (fr0 + 11) (lo0 + 201) (dC, dI) cI cZ sa rk hm ma mo sz [.ref hm, .int depth] (f_Mo_declaration K mo depth) := by
  refine vx_ofW (cc := c_Mo_declaration) (maxL := 2) (ret := (some .int)) (by decide) rfl ?_
  intro p e s m args below meth c s₁ B hml hnt hv
  obtain ⟨rfl, hsz, hP, hK, hD0, hC, hZ⟩ := hv
  have hx := B.exec
  have hb := B.bytes
  have hr := B.returns
  have hts0 := atoms_spec (ws := wy y_Mo_declaration c_Mo_declaration 2 (some .int)) B.pre
  have hts := htsL hts0
  have hown : s.vm.findClass R_Mo = some m.cls := findClass_of_methodNamed B.named
  have hlocks := B.notSynchronized
  subst hsz
  have hD := hD0.self (sz := s.heap.size)
  generalize hAe : va_A (wM cI cZ hm ma mo) s.heap.size = A at hD hZ ⊢
  have hA : ∀ q : Nat, s.heap.size ≤ q → A q := fun q h => by rw [← hAe]; exact Or.inr h
  have hS : va_S A s.heap s.heap [] := va_S.rf
  have hl := lv_entry ([.ref hm, .int depth]) (n := 2) (Nat.le_of_ble_eq_true rfl)
  rw [lg_entry_eq]
  generalize (lg_sl ([.ref hm, .int depth]) ++ List.replicate (2 - (lg_sl ([.ref hm, .int depth])).length) Slot.unset).toArray = ls at hl ⊢
  have hl : lv_has ls 2 [(0, .ref hm), (1, .int depth)] := hl
  refine lv_aload_n hx hb d_Mo_declaration_0 rfl (lv_at hl 0 rfl) ?_
  refine lv_iload_n hx hb d_Mo_declaration_1 rfl (lv_at hl 1 rfl) ?_
  refine mr_Vv (g := (f_Mo_deep mo depth)) (As := [.int depth]) (rest := []) ⟨hx, hb, hml, hown, hts0⟩ (m_Mo_deep l hlt dC dI cI cZ sa rk hm ma mo _ depth (fun z => hg (by unfold f_Mo_declaration; rw [bndM_n z]))) hP hD hK hS hA hC hZ hnt hlocks L_1068 L_1070 L_63 L_90 L_1071 k_Mo_deep ⟨(by show _ ≤ fr0 + 11; omega), (by show _ ≤ lo0 + 201; omega)⟩ rfl rfl hl.1 (Nat.le_of_ble_eq_true rfl) d_Mo_declaration_2 rfl (fun q z => by unfold f_Mo_declaration; rw [bndM_l z]) (fun mo_1 H locs w_1 hP hD hS => ?_)
  refine lv_aload_n hx hb d_Mo_declaration_5 rfl (lv_at hl 0 rfl) ?_
  refine lv_bipush (v := 24) hx hb d_Mo_declaration_6 (by decide) ?_
  refine lv_iload_n hx hb d_Mo_declaration_8 rfl (lv_at hl 1 rfl) ?_
  refine mr_Si (g := (f_Mo_function K mo_1 24 depth)) (As := [.ref hm, .int 24, .int depth]) (rest := []) ⟨hx, hb, hml, hown, hts0⟩ (m_Mo_function l hlt dC dI cI cZ sa rk hm ma fr0 lo0 K hR0 hR1 hR2 hR3 hR4 hR5 hR6 hR7 mo_1 _ 24 depth (fun z => hg (by unfold f_Mo_declaration; rw [bndM_r w_1, bndM_n z]))) hP hD hK hS hA hC hZ hnt hlocks L_1096 L_1097 L_90 L_1098 k_Mo_function ⟨(by show _ ≤ fr0 + 11; omega), (by show _ ≤ lo0 + 201; omega)⟩ rfl rfl hl.1 (Nat.le_of_ble_eq_true rfl) d_Mo_declaration_9 rfl (fun q z => by unfold f_Mo_declaration; rw [bndM_r w_1, bndM_l z]) (fun r_2 mo_2 H locs w_2 hP hD hS => ?_)
  exact mr_iret (v := r_2) (mo := mo_2) hx hb hr hlocks hK hP hD hS (by unfold f_Mo_declaration; rw [bndM_r w_1, bndM_r w_2]) d_Mo_declaration_12
