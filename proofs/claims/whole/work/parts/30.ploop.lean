def f_La_find_L (lb : LB) (first : Int32) (name : Int32)  : Nat → Int32 → Option Int32
  | 0, _ => none
  | fu + 1, i => (if i < (if 0 < first then first else 0) then (some (-1)) else (if (¬ i < 0 ∧ ¬ nI (100) ≤ i) then (if (lbN lb (i : Int32).toNatClampNeg) = name then (some i) else (f_La_find_L lb first name fu (i + (-1)))) else none))
def f_La_find (lb : LB) (first : Int32) (name : Int32) : Option Int32 := (f_La_find_L lb first name 5000 (nI (lbn lb) - 1))
set_option maxRecDepth 100000 in
set_option maxHeartbeats 4000000 in
theorem m_La_find (l : Launch) (dC : Nat → ClassId) (dI : Nat → Nat → Nat) (cI cZ : ClassId) (hq n1 n2 : Nat) (lb : LB) (hlb : okLb lb) (first : Int32) (name : Int32) (v : Int32) (hv : f_La_find lb first name = some v) : cRd l y_La_find c_La_find 4 .int 1 21 (dC, dI) (ty2 cI cZ) [.ref hq, .int first, .int name] (wLa cI cZ hq n1 n2 lb) v := by
  refine Met.ofW (cc := c_La_find) (maxL := 4) (ret := some .int) (by decide) rfl ?_
  intro p e s m args below meth c s₁ B hml hv9
  obtain ⟨rfl, hP, hK⟩ := hv9
  have hx := B.exec
  have hb := B.bytes
  have hr := B.returns
  have hts0 := atoms_spec (ws := wy y_La_find c_La_find 4 (some .int)) B.pre
  have hts := htsL hts0
  have hown : s.vm.findClass R_La = some m.cls := findClass_of_methodNamed B.named
  have hlocks := B.notSynchronized
  have hl := lv_entry ([.ref hq, .int first, .int name]) (n := 4) (Nat.le_of_ble_eq_true rfl)
  rw [lg_entry_eq]
  generalize (lg_sl ([.ref hq, .int first, .int name]) ++ List.replicate (4 - (lg_sl ([.ref hq, .int first, .int name])).length) Slot.unset).toArray = ls at hl ⊢
  have hl : lv_has ls 4 [(0, .ref hq), (1, .int first), (2, .int name)] := hl
  refine lv_aload_n hx hb d_La_find_0 rfl (lv_at hl 0 rfl) ?_
  refine va_get (D := (dC, dI)) (ci := 1) (v := .int (nI (lbn lb))) (C := R_La) (T := T_La) (N := 3) hx hb hts u_La hown hK hP 0 rfl rfl 2 (by decide) (hts _ L_199) (fun _ h9 => h9) rfl d_La_find_1 ?_
  refine lv_iconst (v := 1) hx hb d_La_find_4 (by decide) ?_
  refine lv_isub hx hb d_La_find_5 ?_
  refine lv_istore_n (lv' := [(3, .int (nI (lbn lb) - 1)), (0, .ref hq), (1, .int first), (2, .int name)]) hx hb d_La_find_6 rfl hl (by decide) rfl (fun ls hl => ?_)
  have lp : ∀ (fu : Nat) (i : Int32) (ls : Array Slot), lv_has ls 4 [(0, .ref hq), (1, .int first), (2, .int name), (3, .int i)] → f_La_find_L lb first name fu i = some v → W p l e (headSpec (wy y_La_find c_La_find 4 (some .int)) { frames := 1, cells := 0, slots := 0, locals := 21 }).room s m [.ref hq, .int first, .int name].toArray below meth c s.heap [] 0 0 (MQ below (vp_Si (fun r => r = v)) [.ref hq, .int first, .int name].toArray s 0 0 (fun _ => False)) (F0 m 7 ls []) := by
    intro fu
    induction fu with
    | zero => intro i ls hl hv; exact absurd hv (by rw [f_La_find_L]; exact fun z => nomatch z)
    | succ fu ih =>
      intro i ls hl hv
      rw [f_La_find_L] at hv
      refine lv_iload_n hx hb d_La_find_7 rfl (lv_at hl 3 rfl) ?_
      refine lv_iconst (v := 0) hx hb d_La_find_8 (by decide) ?_
      refine lv_iload_n hx hb d_La_find_9 rfl (lv_at hl 1 rfl) ?_
      refine va_mmax hx hb (hml.trans hl.1.symm) hown (hts _ L_735) (hts _ L_637) (hts _ L_96) (hts _ L_638) (Nat.le_of_ble_eq_true rfl) (Nat.le_of_ble_eq_true rfl) (Nat.zero_le _) (Nat.zero_le _) d_La_find_10 ?_
      refine lv_icmp_lt (tgt := 34) hx hb d_La_find_13 (by decide) (fun c_1 => ?_) (fun c_1 => ?_)
      · rw [if_pos c_1] at hv
        refine lv_iconst (v := (-1)) hx hb d_La_find_34 (by decide) ?_
        exact W.iret (v := (-1)) hx hb hr (fun t ht9 hW => ⟨(-1), rfl, Option.some.inj hv, ht9⟩) (fun q h => by cases h) d_La_find_35
      · rw [if_neg c_1] at hv
        refine lv_aload_n hx hb d_La_find_16 rfl (lv_at hl 0 rfl) ?_
        refine va_get (D := (dC, dI)) (ci := 1) (v := .ref n1) (C := R_La) (T := T_La) (N := 3) hx hb hts u_La hown hK hP 0 rfl rfl 0 (by decide) (hts _ L_197) (fun _ h9 => h9) rfl d_La_find_17 ?_
        refine lv_iload_n hx hb d_La_find_20 rfl (lv_at hl 3 rfl) ?_
        by_cases c_2 : (¬ i < 0 ∧ ¬ nI (100) ≤ i)
        case neg => rw [if_neg c_2] at hv; exact absurd hv (fun z => nomatch z)
        rw [if_pos c_2] at hv
        refine va_iald (D := (dC, dI)) hx hb hK hP 1 0 rfl rfl (ix_in c_2.1 c_2.2 (Nat.le_refl _) (by decide)) d_La_find_21 ?_
        refine lv_iload_n hx hb d_La_find_22 rfl (lv_at hl 2 rfl) ?_
        refine lv_icmp_ne (tgt := 28) hx hb d_La_find_23 (by decide) (fun c_3 => ?_) (fun c_3 => ?_)
        · rw [if_neg c_3] at hv
          refine lv_iinc (v := (i + (-1))) (lv' := [(3, .int (i + (-1))), (0, .ref hq), (1, .int first), (2, .int name)]) hx hb d_La_find_28 hl (k := 3) rfl rfl (by decide) rfl (fun ls hl => ?_)
          refine lv_goto (tgt := 7) hx hb d_La_find_31 (by decide) ?_
          exact ih (i + (-1)) ls (lv_sub hl [1, 2, 3, 0] rfl) hv
        · rw [if_pos c_3] at hv
          refine lv_iload_n hx hb d_La_find_26 rfl (lv_at hl 3 rfl) ?_
          exact W.iret (v := i) hx hb hr (fun t ht9 hW => ⟨i, rfl, Option.some.inj hv, ht9⟩) (fun q h => by cases h) d_La_find_27
  exact lp 5000 (nI (lbn lb) - 1) ls (lv_sub hl [1, 2, 3, 0] rfl) (by have hv2 := hv; unfold f_La_find at hv2; exact hv2)
def f_Tr_children_L (tr : TR) (k : Int32) (e2 : Int32) : Nat → Int32 → Int32 → Int32 → Option Int32
  | 0, _, _, _ => none
  | fu + 1, at9, fo, n => (if nI (trn tr) ≤ n then (some fo) else (if e2 ≤ at9 then (some fo) else (f_Tr_children_L tr k e2 fu (f_Tr_behind tr at9) (fo + 1) (n + 1))))
def f_Tr_children (tr : TR) (k : Int32) : Option Int32 := (f_Tr_children_L tr k (f_Tr_behind tr k) 5000 (k + 1) 0 0)
set_option maxRecDepth 100000 in
set_option maxHeartbeats 4000000 in
theorem m_Tr_children (l : Launch) (dC : Nat → ClassId) (dI : Nat → Nat → Nat) (cI cZ : ClassId) (ht b1 b2 b3 b4 : Nat) (tr : TR) (htr : okTr tr) (k : Int32) (v : Int32) (hv : f_Tr_children tr k = some v) : cRd l y_Tr_children c_Tr_children 6 .int 2 42 (dC, dI) (ty2 cI cZ) [.ref ht, .int k] (wTr cI ht b1 b2 b3 b4 tr) v := by
  refine Met.ofW (cc := c_Tr_children) (maxL := 6) (ret := some .int) (by decide) rfl ?_
  intro p e s m args below meth c s₁ B hml hv9
  obtain ⟨rfl, hP, hK⟩ := hv9
  have hx := B.exec
  have hb := B.bytes
  have hr := B.returns
  have hts0 := atoms_spec (ws := wy y_Tr_children c_Tr_children 6 (some .int)) B.pre
  have hts := htsL hts0
  have hown : s.vm.findClass R_Tr = some m.cls := findClass_of_methodNamed B.named
  have hlocks := B.notSynchronized
  have hl := lv_entry ([.ref ht, .int k]) (n := 6) (Nat.le_of_ble_eq_true rfl)
  rw [lg_entry_eq]
  generalize (lg_sl ([.ref ht, .int k]) ++ List.replicate (6 - (lg_sl ([.ref ht, .int k])).length) Slot.unset).toArray = ls at hl ⊢
  have hl : lv_has ls 6 [(0, .ref ht), (1, .int k)] := hl
  refine lv_aload_n hx hb d_Tr_children_0 rfl (lv_at hl 0 rfl) ?_
  refine lv_iload_n hx hb d_Tr_children_1 rfl (lv_at hl 1 rfl) ?_
  refine rd_V (v := (f_Tr_behind tr k)) (As := [.int k]) (rest := []) ⟨hx, hb, hml, hown, hts0⟩ (m_Tr_behind l dC dI cI cZ ht b1 b2 b3 b4 tr htr k) hP hK [0, 1, 2, 3, 4] rfl [0, 1] rfl 0 4 rfl rfl L_766 L_633 L_634 L_85 L_635 ⟨rfl, k_Tr_behind⟩ ⟨Nat.le_of_ble_eq_true rfl, Nat.le_of_ble_eq_true rfl⟩ hl.1 ⟨Nat.zero_le _, Nat.zero_le _⟩ (Nat.le_of_ble_eq_true rfl) d_Tr_children_2 rfl ?_
  refine lv_istore_n (lv' := [(2, .int (f_Tr_behind tr k)), (0, .ref ht), (1, .int k)]) hx hb d_Tr_children_5 rfl hl (by decide) rfl (fun ls hl => ?_)
  refine lv_iload_n hx hb d_Tr_children_6 rfl (lv_at hl 2 rfl) ?_
  refine lv_iconst (v := 1) hx hb d_Tr_children_7 (by decide) ?_
  refine lv_iadd hx hb d_Tr_children_8 ?_
  refine lv_istore_n (lv' := [(3, .int (k + 1)), (2, .int (f_Tr_behind tr k)), (0, .ref ht), (1, .int k)]) hx hb d_Tr_children_9 rfl hl (by decide) rfl (fun ls hl => ?_)
  refine lv_iconst (v := 0) hx hb d_Tr_children_10 (by decide) ?_
  refine lv_istore (lv' := [(4, .int 0), (3, .int (k + 1)), (2, .int (f_Tr_behind tr k)), (0, .ref ht), (1, .int k)]) hx hb d_Tr_children_11 hl (by decide) rfl (fun ls hl => ?_)
  refine lv_iconst (v := 0) hx hb d_Tr_children_13 (by decide) ?_
  refine lv_istore (lv' := [(5, .int 0), (4, .int 0), (3, .int (k + 1)), (2, .int (f_Tr_behind tr k)), (0, .ref ht), (1, .int k)]) hx hb d_Tr_children_14 hl (by decide) rfl (fun ls hl => ?_)
  have lp : ∀ (fu : Nat) (at9 fo n : Int32) (ls : Array Slot), lv_has ls 6 [(0, .ref ht), (1, .int k), (2, .int (f_Tr_behind tr k)), (3, .int at9), (4, .int fo), (5, .int n)] → f_Tr_children_L tr k (f_Tr_behind tr k) fu at9 fo n = some v → W p l e (headSpec (wy y_Tr_children c_Tr_children 6 (some .int)) { frames := 2, cells := 0, slots := 0, locals := 42 }).room s m [.ref ht, .int k].toArray below meth c s.heap [] 0 0 (MQ below (vp_Si (fun r => r = v)) [.ref ht, .int k].toArray s 0 0 (fun _ => False)) (F0 m 16 ls []) := by
    intro fu
    induction fu with
    | zero => intro at9 fo n ls hl hv; exact absurd hv (by rw [f_Tr_children_L]; exact fun z => nomatch z)
    | succ fu ih =>
      intro at9 fo n ls hl hv
      rw [f_Tr_children_L] at hv
      refine lv_iload hx hb d_Tr_children_16 (lv_at hl 5 rfl) ?_
      refine lv_aload_n hx hb d_Tr_children_18 rfl (lv_at hl 0 rfl) ?_
      refine va_get (D := (dC, dI)) (ci := 4) (v := .int (nI (trn tr))) (C := R_Tr) (T := T_Tr) (N := 5) hx hb hts u_Tr hown hK hP 0 rfl rfl 4 (by decide) (hts _ L_142) (fun _ h9 => h9) rfl d_Tr_children_19 ?_
      refine lv_icmp_ge (tgt := 45) hx hb d_Tr_children_22 (by decide) (fun c_1 => ?_) (fun c_1 => ?_)
      · rw [if_pos c_1] at hv
        refine lv_iload hx hb d_Tr_children_45 (lv_at hl 4 rfl) ?_
        exact W.iret (v := fo) hx hb hr (fun t ht9 hW => ⟨fo, rfl, Option.some.inj hv, ht9⟩) (fun q h => by cases h) d_Tr_children_47
      · rw [if_neg c_1] at hv
        refine lv_iload_n hx hb d_Tr_children_25 rfl (lv_at hl 3 rfl) ?_
        refine lv_iload_n hx hb d_Tr_children_26 rfl (lv_at hl 2 rfl) ?_
        refine lv_icmp_ge (tgt := 45) hx hb d_Tr_children_27 (by decide) (fun c_2 => ?_) (fun c_2 => ?_)
        · rw [if_pos c_2] at hv
          refine lv_iload hx hb d_Tr_children_45 (lv_at hl 4 rfl) ?_
          exact W.iret (v := fo) hx hb hr (fun t ht9 hW => ⟨fo, rfl, Option.some.inj hv, ht9⟩) (fun q h => by cases h) d_Tr_children_47
        · rw [if_neg c_2] at hv
          refine lv_aload_n hx hb d_Tr_children_30 rfl (lv_at hl 0 rfl) ?_
          refine lv_iload_n hx hb d_Tr_children_31 rfl (lv_at hl 3 rfl) ?_
          refine rd_V (v := (f_Tr_behind tr at9)) (As := [.int at9]) (rest := []) ⟨hx, hb, hml, hown, hts0⟩ (m_Tr_behind l dC dI cI cZ ht b1 b2 b3 b4 tr htr at9) hP hK [0, 1, 2, 3, 4] rfl [0, 1] rfl 0 4 rfl rfl L_766 L_633 L_634 L_85 L_635 ⟨rfl, k_Tr_behind⟩ ⟨Nat.le_of_ble_eq_true rfl, Nat.le_of_ble_eq_true rfl⟩ hl.1 ⟨Nat.zero_le _, Nat.zero_le _⟩ (Nat.le_of_ble_eq_true rfl) d_Tr_children_32 rfl ?_
          refine lv_istore_n (lv' := [(3, .int (f_Tr_behind tr at9)), (0, .ref ht), (1, .int k), (2, .int (f_Tr_behind tr k)), (4, .int fo), (5, .int n)]) hx hb d_Tr_children_35 rfl hl (by decide) rfl (fun ls hl => ?_)
          refine lv_iinc (v := (fo + 1)) (lv' := [(4, .int (fo + 1)), (3, .int (f_Tr_behind tr at9)), (0, .ref ht), (1, .int k), (2, .int (f_Tr_behind tr k)), (5, .int n)]) hx hb d_Tr_children_36 hl (k := 4) rfl rfl (by decide) rfl (fun ls hl => ?_)
          refine lv_iinc (v := (n + 1)) (lv' := [(5, .int (n + 1)), (4, .int (fo + 1)), (3, .int (f_Tr_behind tr at9)), (0, .ref ht), (1, .int k), (2, .int (f_Tr_behind tr k))]) hx hb d_Tr_children_39 hl (k := 5) rfl rfl (by decide) rfl (fun ls hl => ?_)
          refine lv_goto (tgt := 16) hx hb d_Tr_children_42 (by decide) ?_
          exact ih (f_Tr_behind tr at9) (fo + 1) (n + 1) ls (lv_sub hl [3, 4, 5, 2, 1, 0] rfl) hv
  exact lp 5000 (k + 1) 0 0 ls (lv_sub hl [4, 5, 3, 2, 1, 0] rfl) (by have hv2 := hv; unfold f_Tr_children at hv2; exact hv2)
def f_Tr_part_L (tr : TR) (k : Int32) (i : Int32) (e3 : Int32) : Nat → Int32 → Int32 → Option Int32
  | 0, _, _ => none
  | fu + 1, at9, n => (if i ≤ n then (if e3 ≤ at9 then (some (-1)) else (some at9)) else (if e3 ≤ at9 then (if e3 ≤ at9 then (some (-1)) else (some at9)) else (f_Tr_part_L tr k i e3 fu (f_Tr_behind tr at9) (n + 1))))
def f_Tr_part (tr : TR) (k : Int32) (i : Int32) : Option Int32 := (if (f_Tr_has tr k) = 0 then (some (-1)) else (if 0 ≤ i then (f_Tr_part_L tr k i (f_Tr_behind tr k) 5000 (k + 1) 0) else (some (-1))))
set_option maxRecDepth 100000 in
set_option maxHeartbeats 4000000 in
theorem m_Tr_part (l : Launch) (dC : Nat → ClassId) (dI : Nat → Nat → Nat) (cI cZ : ClassId) (ht b1 b2 b3 b4 : Nat) (tr : TR) (htr : okTr tr) (k : Int32) (i : Int32) (v : Int32) (hv : f_Tr_part tr k i = some v) : cRd l y_Tr_part c_Tr_part 6 .int 2 42 (dC, dI) (ty2 cI cZ) [.ref ht, .int k, .int i] (wTr cI ht b1 b2 b3 b4 tr) v := by
  refine Met.ofW (cc := c_Tr_part) (maxL := 6) (ret := some .int) (by decide) rfl ?_
  intro p e s m args below meth c s₁ B hml hv9
  obtain ⟨rfl, hP, hK⟩ := hv9
  have hx := B.exec
  have hb := B.bytes
  have hr := B.returns
  have hts0 := atoms_spec (ws := wy y_Tr_part c_Tr_part 6 (some .int)) B.pre
  have hts := htsL hts0
  have hown : s.vm.findClass R_Tr = some m.cls := findClass_of_methodNamed B.named
  have hlocks := B.notSynchronized
  have hl := lv_entry ([.ref ht, .int k, .int i]) (n := 6) (Nat.le_of_ble_eq_true rfl)
  rw [lg_entry_eq]
  generalize (lg_sl ([.ref ht, .int k, .int i]) ++ List.replicate (6 - (lg_sl ([.ref ht, .int k, .int i])).length) Slot.unset).toArray = ls at hl ⊢
  have hl : lv_has ls 6 [(0, .ref ht), (1, .int k), (2, .int i)] := hl
  refine lv_aload_n hx hb d_Tr_part_0 rfl (lv_at hl 0 rfl) ?_
  refine lv_iload_n hx hb d_Tr_part_1 rfl (lv_at hl 1 rfl) ?_
  refine rd_V (v := (f_Tr_has tr k)) (As := [.int k]) (rest := []) ⟨hx, hb, hml, hown, hts0⟩ (m_Tr_has l dC dI cI cZ ht b1 b2 b3 b4 tr htr k) hP hK [0, 1, 2, 3, 4] rfl [0, 1] rfl 0 4 rfl rfl L_492 L_493 L_494 L_85 L_495 ⟨rfl, k_Tr_has⟩ ⟨Nat.le_of_ble_eq_true rfl, Nat.le_of_ble_eq_true rfl⟩ hl.1 ⟨Nat.zero_le _, Nat.zero_le _⟩ (Nat.le_of_ble_eq_true rfl) d_Tr_part_2 rfl ?_
  refine lv_if_eq (tgt := 12) hx hb d_Tr_part_5 (by decide) (fun c_1 => ?_) (fun c_1 => ?_)
  · refine lv_iconst (v := (-1)) hx hb d_Tr_part_12 (by decide) ?_
    exact W.iret (v := (-1)) hx hb hr (fun t ht9 hW => ⟨(-1), rfl, (by have hv2 := hv; unfold f_Tr_part at hv2; rw [if_pos c_1] at hv2; exact Option.some.inj hv2), ht9⟩) (fun q h => by cases h) d_Tr_part_13
  · refine lv_iload_n hx hb d_Tr_part_8 rfl (lv_at hl 2 rfl) ?_
    refine lv_if_ge (tgt := 14) hx hb d_Tr_part_9 (by decide) (fun c_2 => ?_) (fun c_2 => ?_)
    · refine lv_aload_n hx hb d_Tr_part_14 rfl (lv_at hl 0 rfl) ?_
      refine lv_iload_n hx hb d_Tr_part_15 rfl (lv_at hl 1 rfl) ?_
      refine rd_V (v := (f_Tr_behind tr k)) (As := [.int k]) (rest := []) ⟨hx, hb, hml, hown, hts0⟩ (m_Tr_behind l dC dI cI cZ ht b1 b2 b3 b4 tr htr k) hP hK [0, 1, 2, 3, 4] rfl [0, 1] rfl 0 4 rfl rfl L_766 L_633 L_634 L_85 L_635 ⟨rfl, k_Tr_behind⟩ ⟨Nat.le_of_ble_eq_true rfl, Nat.le_of_ble_eq_true rfl⟩ hl.1 ⟨Nat.zero_le _, Nat.zero_le _⟩ (Nat.le_of_ble_eq_true rfl) d_Tr_part_16 rfl ?_
      refine lv_istore_n (lv' := [(3, .int (f_Tr_behind tr k)), (0, .ref ht), (1, .int k), (2, .int i)]) hx hb d_Tr_part_19 rfl hl (by decide) rfl (fun ls hl => ?_)
      refine lv_iload_n hx hb d_Tr_part_20 rfl (lv_at hl 2 rfl) ?_
      refine lv_iconst (v := 1) hx hb d_Tr_part_21 (by decide) ?_
      refine lv_iadd hx hb d_Tr_part_22 ?_
      refine lv_istore (lv' := [(4, .int (k + 1)), (3, .int (f_Tr_behind tr k)), (0, .ref ht), (1, .int k), (2, .int i)]) hx hb d_Tr_part_23 hl (by decide) rfl (fun ls hl => ?_)
      refine lv_iconst (v := 0) hx hb d_Tr_part_25 (by decide) ?_
      refine lv_istore (lv' := [(5, .int 0), (4, .int (k + 1)), (3, .int (f_Tr_behind tr k)), (0, .ref ht), (1, .int k), (2, .int i)]) hx hb d_Tr_part_26 hl (by decide) rfl (fun ls hl => ?_)
      have lp : ∀ (fu : Nat) (at9 n : Int32) (ls : Array Slot), lv_has ls 6 [(0, .ref ht), (1, .int k), (2, .int i), (3, .int (f_Tr_behind tr k)), (4, .int at9), (5, .int n)] → f_Tr_part_L tr k i (f_Tr_behind tr k) fu at9 n = some v → W p l e (headSpec (wy y_Tr_part c_Tr_part 6 (some .int)) { frames := 2, cells := 0, slots := 0, locals := 42 }).room s m [.ref ht, .int k, .int i].toArray below meth c s.heap [] 0 0 (MQ below (vp_Si (fun r => r = v)) [.ref ht, .int k, .int i].toArray s 0 0 (fun _ => False)) (F0 m 28 ls []) := by
        intro fu
        induction fu with
        | zero => intro at9 n ls hl hv; exact absurd hv (by rw [f_Tr_part_L]; exact fun z => nomatch z)
        | succ fu ih =>
          intro at9 n ls hl hv
          rw [f_Tr_part_L] at hv
          refine lv_iload hx hb d_Tr_part_28 (lv_at hl 5 rfl) ?_
          refine lv_iload_n hx hb d_Tr_part_30 rfl (lv_at hl 2 rfl) ?_
          refine lv_icmp_ge (tgt := 54) hx hb d_Tr_part_31 (by decide) (fun c_3 => ?_) (fun c_3 => ?_)
          · rw [if_pos c_3] at hv
            refine lv_iload hx hb d_Tr_part_54 (lv_at hl 4 rfl) ?_
            refine lv_iload_n hx hb d_Tr_part_56 rfl (lv_at hl 3 rfl) ?_
            refine lv_icmp_ge (tgt := 65) hx hb d_Tr_part_57 (by decide) (fun c_4 => ?_) (fun c_4 => ?_)
            · rw [if_pos c_4] at hv
              refine lv_iconst (v := (-1)) hx hb d_Tr_part_65 (by decide) ?_
              exact W.iret (v := (-1)) hx hb hr (fun t ht9 hW => ⟨(-1), rfl, Option.some.inj hv, ht9⟩) (fun q h => by cases h) d_Tr_part_66
            · rw [if_neg c_4] at hv
              refine lv_iload hx hb d_Tr_part_60 (lv_at hl 4 rfl) ?_
              refine lv_goto (tgt := 66) hx hb d_Tr_part_62 (by decide) ?_
              exact W.iret (v := at9) hx hb hr (fun t ht9 hW => ⟨at9, rfl, Option.some.inj hv, ht9⟩) (fun q h => by cases h) d_Tr_part_66
          · rw [if_neg c_3] at hv
            refine lv_iload hx hb d_Tr_part_34 (lv_at hl 4 rfl) ?_
            refine lv_iload_n hx hb d_Tr_part_36 rfl (lv_at hl 3 rfl) ?_
            refine lv_icmp_ge (tgt := 54) hx hb d_Tr_part_37 (by decide) (fun c_5 => ?_) (fun c_5 => ?_)
            · rw [if_pos c_5] at hv
              refine lv_iload hx hb d_Tr_part_54 (lv_at hl 4 rfl) ?_
              refine lv_iload_n hx hb d_Tr_part_56 rfl (lv_at hl 3 rfl) ?_
              refine lv_icmp_ge (tgt := 65) hx hb d_Tr_part_57 (by decide) (fun c_6 => ?_) (fun c_6 => ?_)
              · rw [if_pos c_6] at hv
                refine lv_iconst (v := (-1)) hx hb d_Tr_part_65 (by decide) ?_
                exact W.iret (v := (-1)) hx hb hr (fun t ht9 hW => ⟨(-1), rfl, Option.some.inj hv, ht9⟩) (fun q h => by cases h) d_Tr_part_66
              · rw [if_neg c_6] at hv
                refine lv_iload hx hb d_Tr_part_60 (lv_at hl 4 rfl) ?_
                refine lv_goto (tgt := 66) hx hb d_Tr_part_62 (by decide) ?_
                exact W.iret (v := at9) hx hb hr (fun t ht9 hW => ⟨at9, rfl, Option.some.inj hv, ht9⟩) (fun q h => by cases h) d_Tr_part_66
            · rw [if_neg c_5] at hv
              refine lv_aload_n hx hb d_Tr_part_40 rfl (lv_at hl 0 rfl) ?_
              refine lv_iload hx hb d_Tr_part_41 (lv_at hl 4 rfl) ?_
              refine rd_V (v := (f_Tr_behind tr at9)) (As := [.int at9]) (rest := []) ⟨hx, hb, hml, hown, hts0⟩ (m_Tr_behind l dC dI cI cZ ht b1 b2 b3 b4 tr htr at9) hP hK [0, 1, 2, 3, 4] rfl [0, 1] rfl 0 4 rfl rfl L_766 L_633 L_634 L_85 L_635 ⟨rfl, k_Tr_behind⟩ ⟨Nat.le_of_ble_eq_true rfl, Nat.le_of_ble_eq_true rfl⟩ hl.1 ⟨Nat.zero_le _, Nat.zero_le _⟩ (Nat.le_of_ble_eq_true rfl) d_Tr_part_43 rfl ?_
              refine lv_istore (lv' := [(4, .int (f_Tr_behind tr at9)), (0, .ref ht), (1, .int k), (2, .int i), (3, .int (f_Tr_behind tr k)), (5, .int n)]) hx hb d_Tr_part_46 hl (by decide) rfl (fun ls hl => ?_)
              refine lv_iinc (v := (n + 1)) (lv' := [(5, .int (n + 1)), (4, .int (f_Tr_behind tr at9)), (0, .ref ht), (1, .int k), (2, .int i), (3, .int (f_Tr_behind tr k))]) hx hb d_Tr_part_48 hl (k := 5) rfl rfl (by decide) rfl (fun ls hl => ?_)
              refine lv_goto (tgt := 28) hx hb d_Tr_part_51 (by decide) ?_
              exact ih (f_Tr_behind tr at9) (n + 1) ls (lv_sub hl [2, 3, 4, 5, 1, 0] rfl) hv
      exact lp 5000 (k + 1) 0 ls (lv_sub hl [3, 4, 5, 2, 1, 0] rfl) (by have hv2 := hv; unfold f_Tr_part at hv2; rw [if_neg c_1, if_pos c_2] at hv2; exact hv2)
    · refine lv_iconst (v := (-1)) hx hb d_Tr_part_12 (by decide) ?_
      exact W.iret (v := (-1)) hx hb hr (fun t ht9 hW => ⟨(-1), rfl, (by have hv2 := hv; unfold f_Tr_part at hv2; rw [if_neg c_1, if_neg c_2] at hv2; exact Option.some.inj hv2), ht9⟩) (fun q h => by cases h) d_Tr_part_13
def f_Pa_hasParameter_L (st : ST) (made : Int32) (en : Int32) (name : Int32)  : Nat → Int32 → Option Int32
  | 0, _ => none
  | fu + 1, k => (if en ≤ k then (some 0) else (if (f_Tr_kind (sTr st) k) = 25 then (if (f_Tr_value (sTr st) k) = name then (some 1) else (f_Pa_hasParameter_L st made en name fu (k + 1))) else (f_Pa_hasParameter_L st made en name fu (k + 1))))
def f_Pa_hasParameter (st : ST) (made : Int32) (en : Int32) (name : Int32) : Option Int32 := (f_Pa_hasParameter_L st made en name 5000 (made + 1))
set_option maxRecDepth 100000 in
set_option maxHeartbeats 4000000 in
theorem m_Pa_hasParameter (l : Launch) (dC : Nat → ClassId) (dI : Nat → Nat → Nat) (cI cZ : ClassId) (hp hc h a1 a2 a3 a4 ht b1 b2 b3 b4 hq n1 n2 : Nat) (st : ST) (hst : okSt st) (made : Int32) (en : Int32) (name : Int32) (v : Int32) (hv : f_Pa_hasParameter st made en name = some v) : cRd l y_Pa_hasParameter c_Pa_hasParameter 5 .boolean 1 21 (dC, dI) (ty2 cI cZ) [.ref hp, .int made, .int en, .int name] (wP cI cZ hp hc h a1 a2 a3 a4 ht b1 b2 b3 b4 hq n1 n2 st) v := by
  refine Met.ofW (cc := c_Pa_hasParameter) (maxL := 5) (ret := some .boolean) (by decide) rfl ?_
  intro p e s m args below meth c s₁ B hml hv9
  obtain ⟨rfl, hP, hK⟩ := hv9
  have hx := B.exec
  have hb := B.bytes
  have hr := B.returns
  have hts0 := atoms_spec (ws := wy y_Pa_hasParameter c_Pa_hasParameter 5 (some .boolean)) B.pre
  have hts := htsL hts0
  have hown : s.vm.findClass R_Pa = some m.cls := findClass_of_methodNamed B.named
  have hlocks := B.notSynchronized
  have hl := lv_entry ([.ref hp, .int made, .int en, .int name]) (n := 5) (Nat.le_of_ble_eq_true rfl)
  rw [lg_entry_eq]
  generalize (lg_sl ([.ref hp, .int made, .int en, .int name]) ++ List.replicate (5 - (lg_sl ([.ref hp, .int made, .int en, .int name])).length) Slot.unset).toArray = ls at hl ⊢
  have hl : lv_has ls 5 [(0, .ref hp), (1, .int made), (2, .int en), (3, .int name)] := hl
  refine lv_iload_n hx hb d_Pa_hasParameter_0 rfl (lv_at hl 1 rfl) ?_
  refine lv_iconst (v := 1) hx hb d_Pa_hasParameter_1 (by decide) ?_
  refine lv_iadd hx hb d_Pa_hasParameter_2 ?_
  refine lv_istore (lv' := [(4, .int (made + 1)), (0, .ref hp), (1, .int made), (2, .int en), (3, .int name)]) hx hb d_Pa_hasParameter_3 hl (by decide) rfl (fun ls hl => ?_)
  have lp : ∀ (fu : Nat) (k : Int32) (ls : Array Slot), lv_has ls 5 [(0, .ref hp), (1, .int made), (2, .int en), (3, .int name), (4, .int k)] → f_Pa_hasParameter_L st made en name fu k = some v → W p l e (headSpec (wy y_Pa_hasParameter c_Pa_hasParameter 5 (some .boolean)) { frames := 1, cells := 0, slots := 0, locals := 21 }).room s m [.ref hp, .int made, .int en, .int name].toArray below meth c s.heap [] 0 0 (MQ below (vp_Si (fun r => r = v)) [.ref hp, .int made, .int en, .int name].toArray s 0 0 (fun _ => False)) (F0 m 5 ls []) := by
    intro fu
    induction fu with
    | zero => intro k ls hl hv; exact absurd hv (by rw [f_Pa_hasParameter_L]; exact fun z => nomatch z)
    | succ fu ih =>
      intro k ls hl hv
      rw [f_Pa_hasParameter_L] at hv
      refine lv_iload hx hb d_Pa_hasParameter_5 (lv_at hl 4 rfl) ?_
      refine lv_iload_n hx hb d_Pa_hasParameter_7 rfl (lv_at hl 2 rfl) ?_
      refine lv_icmp_ge (tgt := 46) hx hb d_Pa_hasParameter_8 (by decide) (fun c_1 => ?_) (fun c_1 => ?_)
      · rw [if_pos c_1] at hv
        refine lv_iconst (v := 0) hx hb d_Pa_hasParameter_46 (by decide) ?_
        exact W.zret (v := 0) hx hb hr rfl (fun t ht9 hW => ⟨0, rfl, Option.some.inj hv, ht9⟩) (fun q h => by cases h) d_Pa_hasParameter_47
      · rw [if_neg c_1] at hv
        refine lv_aload_n hx hb d_Pa_hasParameter_11 rfl (lv_at hl 0 rfl) ?_
        refine va_get (D := (dC, dI)) (ci := 2) (v := .ref ht) (C := R_Pa) (T := T_Pa) (N := 7) hx hb hts u_Pa hown hK hP 0 rfl rfl 0 (by decide) (hts _ L_208) (fun _ h9 => h9) rfl d_Pa_hasParameter_12 ?_
        refine lv_iload hx hb d_Pa_hasParameter_15 (lv_at hl 4 rfl) ?_
        refine rd_V (v := (f_Tr_kind (sTr st) k)) (As := [.int k]) (rest := []) ⟨hx, hb, hml, hown, hts0⟩ (m_Tr_kind l dC dI cI cZ ht b1 b2 b3 b4 (sTr st) hst.2.1 k) hP hK [7, 8, 9, 10, 11] rfl [0, 1] rfl 0 4 rfl rfl L_528 L_529 L_530 L_85 L_531 ⟨rfl, k_Tr_kind⟩ ⟨Nat.le_of_ble_eq_true rfl, Nat.le_of_ble_eq_true rfl⟩ hl.1 ⟨Nat.zero_le _, Nat.zero_le _⟩ (Nat.le_of_ble_eq_true rfl) d_Pa_hasParameter_17 rfl ?_
        refine lv_bipush (v := 25) hx hb d_Pa_hasParameter_20 (by decide) ?_
        refine lv_icmp_ne (tgt := 40) hx hb d_Pa_hasParameter_22 (by decide) (fun c_2 => ?_) (fun c_2 => ?_)
        · rw [if_neg c_2] at hv
          refine lv_iinc (v := (k + 1)) (lv' := [(4, .int (k + 1)), (0, .ref hp), (1, .int made), (2, .int en), (3, .int name)]) hx hb d_Pa_hasParameter_40 hl (k := 4) rfl rfl (by decide) rfl (fun ls hl => ?_)
          refine lv_goto (tgt := 5) hx hb d_Pa_hasParameter_43 (by decide) ?_
          exact ih (k + 1) ls (lv_sub hl [1, 2, 3, 4, 0] rfl) hv
        · rw [if_pos c_2] at hv
          refine lv_aload_n hx hb d_Pa_hasParameter_25 rfl (lv_at hl 0 rfl) ?_
          refine va_get (D := (dC, dI)) (ci := 2) (v := .ref ht) (C := R_Pa) (T := T_Pa) (N := 7) hx hb hts u_Pa hown hK hP 0 rfl rfl 0 (by decide) (hts _ L_208) (fun _ h9 => h9) rfl d_Pa_hasParameter_26 ?_
          refine lv_iload hx hb d_Pa_hasParameter_29 (lv_at hl 4 rfl) ?_
          refine rd_V (v := (f_Tr_value (sTr st) k)) (As := [.int k]) (rest := []) ⟨hx, hb, hml, hown, hts0⟩ (m_Tr_value l dC dI cI cZ ht b1 b2 b3 b4 (sTr st) hst.2.1 k) hP hK [7, 8, 9, 10, 11] rfl [0, 1] rfl 0 4 rfl rfl L_532 L_533 L_534 L_85 L_535 ⟨rfl, k_Tr_value⟩ ⟨Nat.le_of_ble_eq_true rfl, Nat.le_of_ble_eq_true rfl⟩ hl.1 ⟨Nat.zero_le _, Nat.zero_le _⟩ (Nat.le_of_ble_eq_true rfl) d_Pa_hasParameter_31 rfl ?_
          refine lv_iload_n hx hb d_Pa_hasParameter_34 rfl (lv_at hl 3 rfl) ?_
          refine lv_icmp_ne (tgt := 40) hx hb d_Pa_hasParameter_35 (by decide) (fun c_3 => ?_) (fun c_3 => ?_)
          · rw [if_neg c_3] at hv
            refine lv_iinc (v := (k + 1)) (lv' := [(4, .int (k + 1)), (0, .ref hp), (1, .int made), (2, .int en), (3, .int name)]) hx hb d_Pa_hasParameter_40 hl (k := 4) rfl rfl (by decide) rfl (fun ls hl => ?_)
            refine lv_goto (tgt := 5) hx hb d_Pa_hasParameter_43 (by decide) ?_
            exact ih (k + 1) ls (lv_sub hl [1, 2, 3, 4, 0] rfl) hv
          · rw [if_pos c_3] at hv
            refine lv_iconst (v := 1) hx hb d_Pa_hasParameter_38 (by decide) ?_
            exact W.zret (v := 1) hx hb hr rfl (fun t ht9 hW => ⟨1, rfl, Option.some.inj hv, ht9⟩) (fun q h => by cases h) d_Pa_hasParameter_39
  exact lp 5000 (made + 1) ls (lv_sub hl [1, 2, 3, 4, 0] rfl) (by have hv2 := hv; unfold f_Pa_hasParameter at hv2; exact hv2)
def f_Pa_clashes_L (st : ST) (object : Int32) (kind : Int32) (name : Int32) (e4 : Int32) : Nat → Int32 → Int32 → Option Int32
  | 0, _, _ => none
  | fu + 1, k, n => (if e4 ≤ n then (some 0) else (if e4 ≤ k then (some 0) else (if (f_Tr_value (sTr st) k) = name then (if (f_Pa_kindsClash st (f_Tr_kind (sTr st) k) kind) = 0 then (f_Pa_clashes_L st object kind name e4 fu (f_Tr_behind (sTr st) k) (n + 1)) else (some 1)) else (f_Pa_clashes_L st object kind name e4 fu (f_Tr_behind (sTr st) k) (n + 1)))))
def f_Pa_clashes (st : ST) (object : Int32) (kind : Int32) (name : Int32) : Option Int32 := (f_Pa_clashes_L st object kind name (f_Tr_count (sTr st)) 5000 (object + 1) 0)
set_option maxRecDepth 100000 in
set_option maxHeartbeats 4000000 in
theorem m_Pa_clashes (l : Launch) (dC : Nat → ClassId) (dI : Nat → Nat → Nat) (cI cZ : ClassId) (hp hc h a1 a2 a3 a4 ht b1 b2 b3 b4 hq n1 n2 : Nat) (st : ST) (hst : okSt st) (object : Int32) (kind : Int32) (name : Int32) (v : Int32) (hv : f_Pa_clashes st object kind name = some v) : cRd l y_Pa_clashes c_Pa_clashes 7 .boolean 2 42 (dC, dI) (ty2 cI cZ) [.ref hp, .int object, .int kind, .int name] (wP cI cZ hp hc h a1 a2 a3 a4 ht b1 b2 b3 b4 hq n1 n2 st) v := by
  refine Met.ofW (cc := c_Pa_clashes) (maxL := 7) (ret := some .boolean) (by decide) rfl ?_
  intro p e s m args below meth c s₁ B hml hv9
  obtain ⟨rfl, hP, hK⟩ := hv9
  have hx := B.exec
  have hb := B.bytes
  have hr := B.returns
  have hts0 := atoms_spec (ws := wy y_Pa_clashes c_Pa_clashes 7 (some .boolean)) B.pre
  have hts := htsL hts0
  have hown : s.vm.findClass R_Pa = some m.cls := findClass_of_methodNamed B.named
  have hlocks := B.notSynchronized
  have hl := lv_entry ([.ref hp, .int object, .int kind, .int name]) (n := 7) (Nat.le_of_ble_eq_true rfl)
  rw [lg_entry_eq]
  generalize (lg_sl ([.ref hp, .int object, .int kind, .int name]) ++ List.replicate (7 - (lg_sl ([.ref hp, .int object, .int kind, .int name])).length) Slot.unset).toArray = ls at hl ⊢
  have hl : lv_has ls 7 [(0, .ref hp), (1, .int object), (2, .int kind), (3, .int name)] := hl
  refine lv_aload_n hx hb d_Pa_clashes_0 rfl (lv_at hl 0 rfl) ?_
  refine va_get (D := (dC, dI)) (ci := 2) (v := .ref ht) (C := R_Pa) (T := T_Pa) (N := 7) hx hb hts u_Pa hown hK hP 0 rfl rfl 0 (by decide) (hts _ L_208) (fun _ h9 => h9) rfl d_Pa_clashes_1 ?_
  refine rd_V (v := (f_Tr_count (sTr st))) (As := []) (rest := []) ⟨hx, hb, hml, hown, hts0⟩ (m_Tr_count l dC dI cI cZ ht b1 b2 b3 b4 (sTr st) hst.2.1 ) hP hK [7, 8, 9, 10, 11] rfl [0, 1] rfl 0 4 rfl rfl L_520 L_521 L_522 L_85 L_523 ⟨rfl, k_Tr_count⟩ ⟨Nat.le_of_ble_eq_true rfl, Nat.le_of_ble_eq_true rfl⟩ hl.1 ⟨Nat.zero_le _, Nat.zero_le _⟩ (Nat.le_of_ble_eq_true rfl) d_Pa_clashes_4 rfl ?_
  refine lv_istore (lv' := [(4, .int (f_Tr_count (sTr st))), (0, .ref hp), (1, .int object), (2, .int kind), (3, .int name)]) hx hb d_Pa_clashes_7 hl (by decide) rfl (fun ls hl => ?_)
  refine lv_iload_n hx hb d_Pa_clashes_9 rfl (lv_at hl 2 rfl) ?_
  refine lv_iconst (v := 1) hx hb d_Pa_clashes_10 (by decide) ?_
  refine lv_iadd hx hb d_Pa_clashes_11 ?_
  refine lv_istore (lv' := [(5, .int (object + 1)), (4, .int (f_Tr_count (sTr st))), (0, .ref hp), (1, .int object), (2, .int kind), (3, .int name)]) hx hb d_Pa_clashes_12 hl (by decide) rfl (fun ls hl => ?_)
  refine lv_iconst (v := 0) hx hb d_Pa_clashes_14 (by decide) ?_
  refine lv_istore (lv' := [(6, .int 0), (5, .int (object + 1)), (4, .int (f_Tr_count (sTr st))), (0, .ref hp), (1, .int object), (2, .int kind), (3, .int name)]) hx hb d_Pa_clashes_15 hl (by decide) rfl (fun ls hl => ?_)
  have lp : ∀ (fu : Nat) (k n : Int32) (ls : Array Slot), lv_has ls 7 [(0, .ref hp), (1, .int object), (2, .int kind), (3, .int name), (4, .int (f_Tr_count (sTr st))), (5, .int k), (6, .int n)] → f_Pa_clashes_L st object kind name (f_Tr_count (sTr st)) fu k n = some v → W p l e (headSpec (wy y_Pa_clashes c_Pa_clashes 7 (some .boolean)) { frames := 2, cells := 0, slots := 0, locals := 42 }).room s m [.ref hp, .int object, .int kind, .int name].toArray below meth c s.heap [] 0 0 (MQ below (vp_Si (fun r => r = v)) [.ref hp, .int object, .int kind, .int name].toArray s 0 0 (fun _ => False)) (F0 m 17 ls []) := by
    intro fu
    induction fu with
    | zero => intro k n ls hl hv; exact absurd hv (by rw [f_Pa_clashes_L]; exact fun z => nomatch z)
    | succ fu ih =>
      intro k n ls hl hv
      rw [f_Pa_clashes_L] at hv
      refine lv_iload hx hb d_Pa_clashes_17 (lv_at hl 6 rfl) ?_
      refine lv_iload hx hb d_Pa_clashes_19 (lv_at hl 4 rfl) ?_
      refine lv_icmp_ge (tgt := 80) hx hb d_Pa_clashes_21 (by decide) (fun c_1 => ?_) (fun c_1 => ?_)
      · rw [if_pos c_1] at hv
        refine lv_iconst (v := 0) hx hb d_Pa_clashes_80 (by decide) ?_
        exact W.zret (v := 0) hx hb hr rfl (fun t ht9 hW => ⟨0, rfl, Option.some.inj hv, ht9⟩) (fun q h => by cases h) d_Pa_clashes_81
      · rw [if_neg c_1] at hv
        refine lv_iload hx hb d_Pa_clashes_24 (lv_at hl 5 rfl) ?_
        refine lv_iload hx hb d_Pa_clashes_26 (lv_at hl 4 rfl) ?_
        refine lv_icmp_ge (tgt := 80) hx hb d_Pa_clashes_28 (by decide) (fun c_2 => ?_) (fun c_2 => ?_)
        · rw [if_pos c_2] at hv
          refine lv_iconst (v := 0) hx hb d_Pa_clashes_80 (by decide) ?_
          exact W.zret (v := 0) hx hb hr rfl (fun t ht9 hW => ⟨0, rfl, Option.some.inj hv, ht9⟩) (fun q h => by cases h) d_Pa_clashes_81
        · rw [if_neg c_2] at hv
          refine lv_aload_n hx hb d_Pa_clashes_31 rfl (lv_at hl 0 rfl) ?_
          refine va_get (D := (dC, dI)) (ci := 2) (v := .ref ht) (C := R_Pa) (T := T_Pa) (N := 7) hx hb hts u_Pa hown hK hP 0 rfl rfl 0 (by decide) (hts _ L_208) (fun _ h9 => h9) rfl d_Pa_clashes_32 ?_
          refine lv_iload hx hb d_Pa_clashes_35 (lv_at hl 5 rfl) ?_
          refine rd_V (v := (f_Tr_value (sTr st) k)) (As := [.int k]) (rest := []) ⟨hx, hb, hml, hown, hts0⟩ (m_Tr_value l dC dI cI cZ ht b1 b2 b3 b4 (sTr st) hst.2.1 k) hP hK [7, 8, 9, 10, 11] rfl [0, 1] rfl 0 4 rfl rfl L_532 L_533 L_534 L_85 L_535 ⟨rfl, k_Tr_value⟩ ⟨Nat.le_of_ble_eq_true rfl, Nat.le_of_ble_eq_true rfl⟩ hl.1 ⟨Nat.zero_le _, Nat.zero_le _⟩ (Nat.le_of_ble_eq_true rfl) d_Pa_clashes_37 rfl ?_
          refine lv_iload_n hx hb d_Pa_clashes_40 rfl (lv_at hl 3 rfl) ?_
          refine lv_icmp_ne (tgt := 63) hx hb d_Pa_clashes_41 (by decide) (fun c_3 => ?_) (fun c_3 => ?_)
          · rw [if_neg c_3] at hv
            refine lv_aload_n hx hb d_Pa_clashes_63 rfl (lv_at hl 0 rfl) ?_
            refine va_get (D := (dC, dI)) (ci := 2) (v := .ref ht) (C := R_Pa) (T := T_Pa) (N := 7) hx hb hts u_Pa hown hK hP 0 rfl rfl 0 (by decide) (hts _ L_208) (fun _ h9 => h9) rfl d_Pa_clashes_64 ?_
            refine lv_iload hx hb d_Pa_clashes_67 (lv_at hl 5 rfl) ?_
            refine rd_V (v := (f_Tr_behind (sTr st) k)) (As := [.int k]) (rest := []) ⟨hx, hb, hml, hown, hts0⟩ (m_Tr_behind l dC dI cI cZ ht b1 b2 b3 b4 (sTr st) hst.2.1 k) hP hK [7, 8, 9, 10, 11] rfl [0, 1] rfl 0 4 rfl rfl L_632 L_633 L_634 L_85 L_635 ⟨rfl, k_Tr_behind⟩ ⟨Nat.le_of_ble_eq_true rfl, Nat.le_of_ble_eq_true rfl⟩ hl.1 ⟨Nat.zero_le _, Nat.zero_le _⟩ (Nat.le_of_ble_eq_true rfl) d_Pa_clashes_69 rfl ?_
            refine lv_istore (lv' := [(5, .int (f_Tr_behind (sTr st) k)), (0, .ref hp), (1, .int object), (2, .int kind), (3, .int name), (4, .int (f_Tr_count (sTr st))), (6, .int n)]) hx hb d_Pa_clashes_72 hl (by decide) rfl (fun ls hl => ?_)
            refine lv_iinc (v := (n + 1)) (lv' := [(6, .int (n + 1)), (5, .int (f_Tr_behind (sTr st) k)), (0, .ref hp), (1, .int object), (2, .int kind), (3, .int name), (4, .int (f_Tr_count (sTr st)))]) hx hb d_Pa_clashes_74 hl (k := 6) rfl rfl (by decide) rfl (fun ls hl => ?_)
            refine lv_goto (tgt := 17) hx hb d_Pa_clashes_77 (by decide) ?_
            exact ih (f_Tr_behind (sTr st) k) (n + 1) ls (lv_sub hl [2, 3, 4, 5, 6, 1, 0] rfl) hv
          · rw [if_pos c_3] at hv
            refine lv_aload_n hx hb d_Pa_clashes_44 rfl (lv_at hl 0 rfl) ?_
            refine lv_aload_n hx hb d_Pa_clashes_45 rfl (lv_at hl 0 rfl) ?_
            refine va_get (D := (dC, dI)) (ci := 2) (v := .ref ht) (C := R_Pa) (T := T_Pa) (N := 7) hx hb hts u_Pa hown hK hP 0 rfl rfl 0 (by decide) (hts _ L_208) (fun _ h9 => h9) rfl d_Pa_clashes_46 ?_
            refine lv_iload hx hb d_Pa_clashes_49 (lv_at hl 5 rfl) ?_
            refine rd_V (v := (f_Tr_kind (sTr st) k)) (As := [.int k]) (rest := [.ref hp]) ⟨hx, hb, hml, hown, hts0⟩ (m_Tr_kind l dC dI cI cZ ht b1 b2 b3 b4 (sTr st) hst.2.1 k) hP hK [7, 8, 9, 10, 11] rfl [0, 1] rfl 0 4 rfl rfl L_528 L_529 L_530 L_85 L_531 ⟨rfl, k_Tr_kind⟩ ⟨Nat.le_of_ble_eq_true rfl, Nat.le_of_ble_eq_true rfl⟩ hl.1 ⟨Nat.zero_le _, Nat.zero_le _⟩ (Nat.le_of_ble_eq_true rfl) d_Pa_clashes_51 rfl ?_
            refine lv_iload_n hx hb d_Pa_clashes_54 rfl (lv_at hl 2 rfl) ?_
            refine rd_V (v := (f_Pa_kindsClash st (f_Tr_kind (sTr st) k) kind)) (As := [.int (f_Tr_kind (sTr st) k), .int kind]) (rest := []) ⟨hx, hb, hml, hown, hts0⟩ (m_Pa_kindsClash l dC dI cI cZ hp hc h a1 a2 a3 a4 ht b1 b2 b3 b4 hq n1 n2 st hst (f_Tr_kind (sTr st) k) kind) hP hK [0, 1, 2, 3, 4, 5, 6, 7, 8, 9, 10, 11, 12, 13, 14] rfl [0, 1] rfl 0 2 rfl rfl L_628 L_630 L_22 L_87 L_631 ⟨rfl, k_Pa_kindsClash⟩ ⟨Nat.le_of_ble_eq_true rfl, Nat.le_of_ble_eq_true rfl⟩ hl.1 ⟨Nat.zero_le _, Nat.zero_le _⟩ (Nat.le_of_ble_eq_true rfl) d_Pa_clashes_55 rfl ?_
            refine lv_if_eq (tgt := 63) hx hb d_Pa_clashes_58 (by decide) (fun c_4 => ?_) (fun c_4 => ?_)
            · rw [if_pos c_4] at hv
              refine lv_aload_n hx hb d_Pa_clashes_63 rfl (lv_at hl 0 rfl) ?_
              refine va_get (D := (dC, dI)) (ci := 2) (v := .ref ht) (C := R_Pa) (T := T_Pa) (N := 7) hx hb hts u_Pa hown hK hP 0 rfl rfl 0 (by decide) (hts _ L_208) (fun _ h9 => h9) rfl d_Pa_clashes_64 ?_
              refine lv_iload hx hb d_Pa_clashes_67 (lv_at hl 5 rfl) ?_
              refine rd_V (v := (f_Tr_behind (sTr st) k)) (As := [.int k]) (rest := []) ⟨hx, hb, hml, hown, hts0⟩ (m_Tr_behind l dC dI cI cZ ht b1 b2 b3 b4 (sTr st) hst.2.1 k) hP hK [7, 8, 9, 10, 11] rfl [0, 1] rfl 0 4 rfl rfl L_632 L_633 L_634 L_85 L_635 ⟨rfl, k_Tr_behind⟩ ⟨Nat.le_of_ble_eq_true rfl, Nat.le_of_ble_eq_true rfl⟩ hl.1 ⟨Nat.zero_le _, Nat.zero_le _⟩ (Nat.le_of_ble_eq_true rfl) d_Pa_clashes_69 rfl ?_
              refine lv_istore (lv' := [(5, .int (f_Tr_behind (sTr st) k)), (0, .ref hp), (1, .int object), (2, .int kind), (3, .int name), (4, .int (f_Tr_count (sTr st))), (6, .int n)]) hx hb d_Pa_clashes_72 hl (by decide) rfl (fun ls hl => ?_)
              refine lv_iinc (v := (n + 1)) (lv' := [(6, .int (n + 1)), (5, .int (f_Tr_behind (sTr st) k)), (0, .ref hp), (1, .int object), (2, .int kind), (3, .int name), (4, .int (f_Tr_count (sTr st)))]) hx hb d_Pa_clashes_74 hl (k := 6) rfl rfl (by decide) rfl (fun ls hl => ?_)
              refine lv_goto (tgt := 17) hx hb d_Pa_clashes_77 (by decide) ?_
              exact ih (f_Tr_behind (sTr st) k) (n + 1) ls (lv_sub hl [2, 3, 4, 5, 6, 1, 0] rfl) hv
            · rw [if_neg c_4] at hv
              refine lv_iconst (v := 1) hx hb d_Pa_clashes_61 (by decide) ?_
              exact W.zret (v := 1) hx hb hr rfl (fun t ht9 hW => ⟨1, rfl, Option.some.inj hv, ht9⟩) (fun q h => by cases h) d_Pa_clashes_62
  exact lp 5000 (object + 1) 0 ls (lv_sub hl [3, 4, 5, 6, 2, 1, 0] rfl) (by have hv2 := hv; unfold f_Pa_clashes at hv2; exact hv2)
