def f_Tr_count (tr : TR) : Int32 := (nI (trn tr))
set_option maxRecDepth 100000 in
set_option maxHeartbeats 4000000 in
theorem m_Tr_count (l : Launch) (dC : Nat → ClassId) (dI : Nat → Nat → Nat) (cI cZ : ClassId) (ht b1 b2 b3 b4 : Nat) (tr : TR) (htr : okTr tr)  : cRd l y_Tr_count c_Tr_count 1 .int 0 0 (dC, dI) (ty2 cI cZ) [.ref ht] (wTr cI ht b1 b2 b3 b4 tr) (f_Tr_count tr) := by
  refine Met.ofW (cc := c_Tr_count) (maxL := 1) (ret := some .int) (by decide) rfl ?_
  intro p e s m args below meth c s₁ B hml hv
  obtain ⟨rfl, hP, hK⟩ := hv
  have hx := B.exec
  have hb := B.bytes
  have hr := B.returns
  have hts0 := atoms_spec (ws := wy y_Tr_count c_Tr_count 1 (some .int)) B.pre
  have hts := htsL hts0
  have hown : s.vm.findClass R_Tr = some m.cls := findClass_of_methodNamed B.named
  have hlocks := B.notSynchronized
  have hl := lv_entry ([.ref ht]) (n := 1) (Nat.le_of_ble_eq_true rfl)
  rw [lg_entry_eq]
  generalize (lg_sl ([.ref ht]) ++ List.replicate (1 - (lg_sl ([.ref ht])).length) Slot.unset).toArray = ls at hl ⊢
  have hl : lv_has ls 1 [(0, .ref ht)] := hl
  refine lv_aload_n hx hb d_Tr_count_0 rfl (lv_at hl 0 rfl) ?_
  refine va_get (D := (dC, dI)) (ci := 4) (v := .int (nI (trn tr))) (C := R_Tr) (T := T_Tr) (N := 5) hx hb hts u_Tr hown hK hP 0 rfl rfl 4 (by decide) (hts _ L_142) (fun _ h9 => h9) rfl d_Tr_count_1 ?_
  exact W.iret (v := nI (trn tr)) hx hb hr (fun t ht hW => ⟨nI (trn tr), rfl, rfl, ht⟩) (fun q h => by cases h) d_Tr_count_4
def f_Tr_has (tr : TR) (k : Int32) : Int32 := (if k < 0 then 0 else (if nI (trn tr) ≤ k then 0 else 1))
theorem f_Tr_has_b {tr : TR} {k : Int32} : f_Tr_has tr k = 0 ∨ f_Tr_has tr k = 1 := by
  unfold f_Tr_has
  repeat' split
  all_goals first | exact Or.inl rfl | exact Or.inr rfl | exact Or.inl rfl
set_option maxRecDepth 100000 in
set_option maxHeartbeats 4000000 in
theorem m_Tr_has (l : Launch) (dC : Nat → ClassId) (dI : Nat → Nat → Nat) (cI cZ : ClassId) (ht b1 b2 b3 b4 : Nat) (tr : TR) (htr : okTr tr) (k : Int32) : cRd l y_Tr_has c_Tr_has 2 .boolean 0 0 (dC, dI) (ty2 cI cZ) [.ref ht, .int k] (wTr cI ht b1 b2 b3 b4 tr) (f_Tr_has tr k) := by
  refine Met.ofW (cc := c_Tr_has) (maxL := 2) (ret := some .boolean) (by decide) rfl ?_
  intro p e s m args below meth c s₁ B hml hv
  obtain ⟨rfl, hP, hK⟩ := hv
  have hx := B.exec
  have hb := B.bytes
  have hr := B.returns
  have hts0 := atoms_spec (ws := wy y_Tr_has c_Tr_has 2 (some .boolean)) B.pre
  have hts := htsL hts0
  have hown : s.vm.findClass R_Tr = some m.cls := findClass_of_methodNamed B.named
  have hlocks := B.notSynchronized
  have hl := lv_entry ([.ref ht, .int k]) (n := 2) (Nat.le_of_ble_eq_true rfl)
  rw [lg_entry_eq]
  generalize (lg_sl ([.ref ht, .int k]) ++ List.replicate (2 - (lg_sl ([.ref ht, .int k])).length) Slot.unset).toArray = ls at hl ⊢
  have hl : lv_has ls 2 [(0, .ref ht), (1, .int k)] := hl
  refine lv_iload_n hx hb d_Tr_has_0 rfl (lv_at hl 1 rfl) ?_
  refine lv_if_lt (tgt := 16) hx hb d_Tr_has_1 (by decide) (fun c_1 => ?_) (fun c_1 => ?_)
  · refine lv_iconst (v := 0) hx hb d_Tr_has_16 (by decide) ?_
    exact W.zret (v := 0) hx hb hr rfl (fun t ht hW => ⟨0, rfl, (by unfold f_Tr_has; rw [if_pos c_1]), ht⟩) (fun q h => by cases h) d_Tr_has_17
  · refine lv_iload_n hx hb d_Tr_has_4 rfl (lv_at hl 1 rfl) ?_
    refine lv_aload_n hx hb d_Tr_has_5 rfl (lv_at hl 0 rfl) ?_
    refine va_get (D := (dC, dI)) (ci := 4) (v := .int (nI (trn tr))) (C := R_Tr) (T := T_Tr) (N := 5) hx hb hts u_Tr hown hK hP 0 rfl rfl 4 (by decide) (hts _ L_142) (fun _ h9 => h9) rfl d_Tr_has_6 ?_
    refine lv_icmp_ge (tgt := 16) hx hb d_Tr_has_9 (by decide) (fun c_2 => ?_) (fun c_2 => ?_)
    · refine lv_iconst (v := 0) hx hb d_Tr_has_16 (by decide) ?_
      exact W.zret (v := 0) hx hb hr rfl (fun t ht hW => ⟨0, rfl, (by unfold f_Tr_has; rw [if_neg c_1, if_pos c_2]), ht⟩) (fun q h => by cases h) d_Tr_has_17
    · refine lv_iconst (v := 1) hx hb d_Tr_has_12 (by decide) ?_
      refine lv_goto (tgt := 17) hx hb d_Tr_has_13 (by decide) ?_
      exact W.zret (v := 1) hx hb hr rfl (fun t ht hW => ⟨1, rfl, (by unfold f_Tr_has; rw [if_neg c_1, if_neg c_2]), ht⟩) (fun q h => by cases h) d_Tr_has_17
def f_Tr_kind (tr : TR) (k : Int32) : Int32 := (if k < 0 then (-1) else (if nI (trn tr) ≤ k then (-1) else (trK tr (k : Int32).toNatClampNeg)))
set_option maxRecDepth 100000 in
set_option maxHeartbeats 4000000 in
theorem m_Tr_kind (l : Launch) (dC : Nat → ClassId) (dI : Nat → Nat → Nat) (cI cZ : ClassId) (ht b1 b2 b3 b4 : Nat) (tr : TR) (htr : okTr tr) (k : Int32) : cRd l y_Tr_kind c_Tr_kind 2 .int 0 0 (dC, dI) (ty2 cI cZ) [.ref ht, .int k] (wTr cI ht b1 b2 b3 b4 tr) (f_Tr_kind tr k) := by
  refine Met.ofW (cc := c_Tr_kind) (maxL := 2) (ret := some .int) (by decide) rfl ?_
  intro p e s m args below meth c s₁ B hml hv
  obtain ⟨rfl, hP, hK⟩ := hv
  have hx := B.exec
  have hb := B.bytes
  have hr := B.returns
  have hts0 := atoms_spec (ws := wy y_Tr_kind c_Tr_kind 2 (some .int)) B.pre
  have hts := htsL hts0
  have hown : s.vm.findClass R_Tr = some m.cls := findClass_of_methodNamed B.named
  have hlocks := B.notSynchronized
  have hl := lv_entry ([.ref ht, .int k]) (n := 2) (Nat.le_of_ble_eq_true rfl)
  rw [lg_entry_eq]
  generalize (lg_sl ([.ref ht, .int k]) ++ List.replicate (2 - (lg_sl ([.ref ht, .int k])).length) Slot.unset).toArray = ls at hl ⊢
  have hl : lv_has ls 2 [(0, .ref ht), (1, .int k)] := hl
  refine lv_iload_n hx hb d_Tr_kind_0 rfl (lv_at hl 1 rfl) ?_
  refine lv_if_lt (tgt := 21) hx hb d_Tr_kind_1 (by decide) (fun c_1 => ?_) (fun c_1 => ?_)
  · refine lv_iconst (v := (-1)) hx hb d_Tr_kind_21 (by decide) ?_
    exact W.iret (v := (-1)) hx hb hr (fun t ht hW => ⟨(-1), rfl, (by unfold f_Tr_kind; rw [if_pos c_1]), ht⟩) (fun q h => by cases h) d_Tr_kind_22
  · refine lv_iload_n hx hb d_Tr_kind_4 rfl (lv_at hl 1 rfl) ?_
    refine lv_aload_n hx hb d_Tr_kind_5 rfl (lv_at hl 0 rfl) ?_
    refine va_get (D := (dC, dI)) (ci := 4) (v := .int (nI (trn tr))) (C := R_Tr) (T := T_Tr) (N := 5) hx hb hts u_Tr hown hK hP 0 rfl rfl 4 (by decide) (hts _ L_142) (fun _ h9 => h9) rfl d_Tr_kind_6 ?_
    refine lv_icmp_ge (tgt := 21) hx hb d_Tr_kind_9 (by decide) (fun c_2 => ?_) (fun c_2 => ?_)
    · refine lv_iconst (v := (-1)) hx hb d_Tr_kind_21 (by decide) ?_
      exact W.iret (v := (-1)) hx hb hr (fun t ht hW => ⟨(-1), rfl, (by unfold f_Tr_kind; rw [if_neg c_1, if_pos c_2]), ht⟩) (fun q h => by cases h) d_Tr_kind_22
    · refine lv_aload_n hx hb d_Tr_kind_12 rfl (lv_at hl 0 rfl) ?_
      refine va_get (D := (dC, dI)) (ci := 4) (v := .ref b1) (C := R_Tr) (T := T_Tr) (N := 5) hx hb hts u_Tr hown hK hP 0 rfl rfl 0 (by decide) (hts _ L_138) (fun _ h9 => h9) rfl d_Tr_kind_13 ?_
      refine lv_iload_n hx hb d_Tr_kind_16 rfl (lv_at hl 1 rfl) ?_
      refine va_iald (D := (dC, dI)) hx hb hK hP 1 0 rfl rfl (ix_in c_1 c_2 htr.1 htr.2.1) d_Tr_kind_17 ?_
      refine lv_goto (tgt := 22) hx hb d_Tr_kind_18 (by decide) ?_
      exact W.iret (v := (trK tr (k : Int32).toNatClampNeg)) hx hb hr (fun t ht hW => ⟨(trK tr (k : Int32).toNatClampNeg), rfl, (by unfold f_Tr_kind; rw [if_neg c_1, if_neg c_2]), ht⟩) (fun q h => by cases h) d_Tr_kind_22
def f_Tr_value (tr : TR) (k : Int32) : Int32 := (if k < 0 then 0 else (if nI (trn tr) ≤ k then 0 else (trV tr (k : Int32).toNatClampNeg)))
set_option maxRecDepth 100000 in
set_option maxHeartbeats 4000000 in
theorem m_Tr_value (l : Launch) (dC : Nat → ClassId) (dI : Nat → Nat → Nat) (cI cZ : ClassId) (ht b1 b2 b3 b4 : Nat) (tr : TR) (htr : okTr tr) (k : Int32) : cRd l y_Tr_value c_Tr_value 2 .int 0 0 (dC, dI) (ty2 cI cZ) [.ref ht, .int k] (wTr cI ht b1 b2 b3 b4 tr) (f_Tr_value tr k) := by
  refine Met.ofW (cc := c_Tr_value) (maxL := 2) (ret := some .int) (by decide) rfl ?_
  intro p e s m args below meth c s₁ B hml hv
  obtain ⟨rfl, hP, hK⟩ := hv
  have hx := B.exec
  have hb := B.bytes
  have hr := B.returns
  have hts0 := atoms_spec (ws := wy y_Tr_value c_Tr_value 2 (some .int)) B.pre
  have hts := htsL hts0
  have hown : s.vm.findClass R_Tr = some m.cls := findClass_of_methodNamed B.named
  have hlocks := B.notSynchronized
  have hl := lv_entry ([.ref ht, .int k]) (n := 2) (Nat.le_of_ble_eq_true rfl)
  rw [lg_entry_eq]
  generalize (lg_sl ([.ref ht, .int k]) ++ List.replicate (2 - (lg_sl ([.ref ht, .int k])).length) Slot.unset).toArray = ls at hl ⊢
  have hl : lv_has ls 2 [(0, .ref ht), (1, .int k)] := hl
  refine lv_iload_n hx hb d_Tr_value_0 rfl (lv_at hl 1 rfl) ?_
  refine lv_if_lt (tgt := 21) hx hb d_Tr_value_1 (by decide) (fun c_1 => ?_) (fun c_1 => ?_)
  · refine lv_iconst (v := 0) hx hb d_Tr_value_21 (by decide) ?_
    exact W.iret (v := 0) hx hb hr (fun t ht hW => ⟨0, rfl, (by unfold f_Tr_value; rw [if_pos c_1]), ht⟩) (fun q h => by cases h) d_Tr_value_22
  · refine lv_iload_n hx hb d_Tr_value_4 rfl (lv_at hl 1 rfl) ?_
    refine lv_aload_n hx hb d_Tr_value_5 rfl (lv_at hl 0 rfl) ?_
    refine va_get (D := (dC, dI)) (ci := 4) (v := .int (nI (trn tr))) (C := R_Tr) (T := T_Tr) (N := 5) hx hb hts u_Tr hown hK hP 0 rfl rfl 4 (by decide) (hts _ L_142) (fun _ h9 => h9) rfl d_Tr_value_6 ?_
    refine lv_icmp_ge (tgt := 21) hx hb d_Tr_value_9 (by decide) (fun c_2 => ?_) (fun c_2 => ?_)
    · refine lv_iconst (v := 0) hx hb d_Tr_value_21 (by decide) ?_
      exact W.iret (v := 0) hx hb hr (fun t ht hW => ⟨0, rfl, (by unfold f_Tr_value; rw [if_neg c_1, if_pos c_2]), ht⟩) (fun q h => by cases h) d_Tr_value_22
    · refine lv_aload_n hx hb d_Tr_value_12 rfl (lv_at hl 0 rfl) ?_
      refine va_get (D := (dC, dI)) (ci := 4) (v := .ref b2) (C := R_Tr) (T := T_Tr) (N := 5) hx hb hts u_Tr hown hK hP 0 rfl rfl 1 (by decide) (hts _ L_139) (fun _ h9 => h9) rfl d_Tr_value_13 ?_
      refine lv_iload_n hx hb d_Tr_value_16 rfl (lv_at hl 1 rfl) ?_
      refine va_iald (D := (dC, dI)) hx hb hK hP 2 0 rfl rfl (ix_in c_1 c_2 htr.1 htr.2.1) d_Tr_value_17 ?_
      refine lv_goto (tgt := 22) hx hb d_Tr_value_18 (by decide) ?_
      exact W.iret (v := (trV tr (k : Int32).toNatClampNeg)) hx hb hr (fun t ht hW => ⟨(trV tr (k : Int32).toNatClampNeg), rfl, (by unfold f_Tr_value; rw [if_neg c_1, if_neg c_2]), ht⟩) (fun q h => by cases h) d_Tr_value_22
def f_Tr_where (tr : TR) (k : Int32) : Int32 := (if k < 0 then 0 else (if nI (trn tr) ≤ k then 0 else (trW tr (k : Int32).toNatClampNeg)))
set_option maxRecDepth 100000 in
set_option maxHeartbeats 4000000 in
theorem m_Tr_where (l : Launch) (dC : Nat → ClassId) (dI : Nat → Nat → Nat) (cI cZ : ClassId) (ht b1 b2 b3 b4 : Nat) (tr : TR) (htr : okTr tr) (k : Int32) : cRd l y_Tr_where c_Tr_where 2 .int 0 0 (dC, dI) (ty2 cI cZ) [.ref ht, .int k] (wTr cI ht b1 b2 b3 b4 tr) (f_Tr_where tr k) := by
  refine Met.ofW (cc := c_Tr_where) (maxL := 2) (ret := some .int) (by decide) rfl ?_
  intro p e s m args below meth c s₁ B hml hv
  obtain ⟨rfl, hP, hK⟩ := hv
  have hx := B.exec
  have hb := B.bytes
  have hr := B.returns
  have hts0 := atoms_spec (ws := wy y_Tr_where c_Tr_where 2 (some .int)) B.pre
  have hts := htsL hts0
  have hown : s.vm.findClass R_Tr = some m.cls := findClass_of_methodNamed B.named
  have hlocks := B.notSynchronized
  have hl := lv_entry ([.ref ht, .int k]) (n := 2) (Nat.le_of_ble_eq_true rfl)
  rw [lg_entry_eq]
  generalize (lg_sl ([.ref ht, .int k]) ++ List.replicate (2 - (lg_sl ([.ref ht, .int k])).length) Slot.unset).toArray = ls at hl ⊢
  have hl : lv_has ls 2 [(0, .ref ht), (1, .int k)] := hl
  refine lv_iload_n hx hb d_Tr_where_0 rfl (lv_at hl 1 rfl) ?_
  refine lv_if_lt (tgt := 21) hx hb d_Tr_where_1 (by decide) (fun c_1 => ?_) (fun c_1 => ?_)
  · refine lv_iconst (v := 0) hx hb d_Tr_where_21 (by decide) ?_
    exact W.iret (v := 0) hx hb hr (fun t ht hW => ⟨0, rfl, (by unfold f_Tr_where; rw [if_pos c_1]), ht⟩) (fun q h => by cases h) d_Tr_where_22
  · refine lv_iload_n hx hb d_Tr_where_4 rfl (lv_at hl 1 rfl) ?_
    refine lv_aload_n hx hb d_Tr_where_5 rfl (lv_at hl 0 rfl) ?_
    refine va_get (D := (dC, dI)) (ci := 4) (v := .int (nI (trn tr))) (C := R_Tr) (T := T_Tr) (N := 5) hx hb hts u_Tr hown hK hP 0 rfl rfl 4 (by decide) (hts _ L_142) (fun _ h9 => h9) rfl d_Tr_where_6 ?_
    refine lv_icmp_ge (tgt := 21) hx hb d_Tr_where_9 (by decide) (fun c_2 => ?_) (fun c_2 => ?_)
    · refine lv_iconst (v := 0) hx hb d_Tr_where_21 (by decide) ?_
      exact W.iret (v := 0) hx hb hr (fun t ht hW => ⟨0, rfl, (by unfold f_Tr_where; rw [if_neg c_1, if_pos c_2]), ht⟩) (fun q h => by cases h) d_Tr_where_22
    · refine lv_aload_n hx hb d_Tr_where_12 rfl (lv_at hl 0 rfl) ?_
      refine va_get (D := (dC, dI)) (ci := 4) (v := .ref b3) (C := R_Tr) (T := T_Tr) (N := 5) hx hb hts u_Tr hown hK hP 0 rfl rfl 2 (by decide) (hts _ L_140) (fun _ h9 => h9) rfl d_Tr_where_13 ?_
      refine lv_iload_n hx hb d_Tr_where_16 rfl (lv_at hl 1 rfl) ?_
      refine va_iald (D := (dC, dI)) hx hb hK hP 3 0 rfl rfl (ix_in c_1 c_2 htr.1 htr.2.1) d_Tr_where_17 ?_
      refine lv_goto (tgt := 22) hx hb d_Tr_where_18 (by decide) ?_
      exact W.iret (v := (trW tr (k : Int32).toNatClampNeg)) hx hb hr (fun t ht hW => ⟨(trW tr (k : Int32).toNatClampNeg), rfl, (by unfold f_Tr_where; rw [if_neg c_1, if_neg c_2]), ht⟩) (fun q h => by cases h) d_Tr_where_22
theorem has_in {tr : TR} {k : Int32} (ho : okTr tr) (h : ¬ f_Tr_has tr k = 0) : vp_in k (trc tr) := by
  unfold f_Tr_has at h
  by_cases c1 : k < 0
  · rw [if_pos c1] at h; exact absurd rfl h
  · rw [if_neg c1] at h
    by_cases c2 : nI (trn tr) ≤ k
    · rw [if_pos c2] at h; exact absurd rfl h
    · exact ix_in c1 c2 ho.1 ho.2.1
def f_Tr_behind (tr : TR) (k : Int32) : Int32 := (if (f_Tr_has tr k) = 0 then (nI (trn tr)) else (k + (if 1 < (trS tr (k : Int32).toNatClampNeg) then (trS tr (k : Int32).toNatClampNeg) else 1)))
set_option maxRecDepth 100000 in
set_option maxHeartbeats 4000000 in
theorem m_Tr_behind (l : Launch) (dC : Nat → ClassId) (dI : Nat → Nat → Nat) (cI cZ : ClassId) (ht b1 b2 b3 b4 : Nat) (tr : TR) (htr : okTr tr) (k : Int32) : cRd l y_Tr_behind c_Tr_behind 2 .int 1 21 (dC, dI) (ty2 cI cZ) [.ref ht, .int k] (wTr cI ht b1 b2 b3 b4 tr) (f_Tr_behind tr k) := by
  refine Met.ofW (cc := c_Tr_behind) (maxL := 2) (ret := some .int) (by decide) rfl ?_
  intro p e s m args below meth c s₁ B hml hv
  obtain ⟨rfl, hP, hK⟩ := hv
  have hx := B.exec
  have hb := B.bytes
  have hr := B.returns
  have hts0 := atoms_spec (ws := wy y_Tr_behind c_Tr_behind 2 (some .int)) B.pre
  have hts := htsL hts0
  have hown : s.vm.findClass R_Tr = some m.cls := findClass_of_methodNamed B.named
  have hlocks := B.notSynchronized
  have hl := lv_entry ([.ref ht, .int k]) (n := 2) (Nat.le_of_ble_eq_true rfl)
  rw [lg_entry_eq]
  generalize (lg_sl ([.ref ht, .int k]) ++ List.replicate (2 - (lg_sl ([.ref ht, .int k])).length) Slot.unset).toArray = ls at hl ⊢
  have hl : lv_has ls 2 [(0, .ref ht), (1, .int k)] := hl
  refine lv_aload_n hx hb d_Tr_behind_0 rfl (lv_at hl 0 rfl) ?_
  refine lv_iload_n hx hb d_Tr_behind_1 rfl (lv_at hl 1 rfl) ?_
  refine rd_V (v := (f_Tr_has tr k)) (As := [.int k]) (rest := []) ⟨hx, hb, hml, hown, hts0⟩ (m_Tr_has l dC dI cI cZ ht b1 b2 b3 b4 tr htr k) hP hK [0, 1, 2, 3, 4] rfl [0, 1] rfl 0 4 rfl rfl L_492 L_493 L_494 L_85 L_495 ⟨rfl, k_Tr_has⟩ ⟨Nat.le_of_ble_eq_true rfl, Nat.le_of_ble_eq_true rfl⟩ hl.1 ⟨Nat.zero_le _, Nat.zero_le _⟩ (Nat.le_of_ble_eq_true rfl) d_Tr_behind_2 rfl ?_
  refine lv_if_eq (tgt := 23) hx hb d_Tr_behind_5 (by decide) (fun c_1 => ?_) (fun c_1 => ?_)
  · refine lv_aload_n hx hb d_Tr_behind_23 rfl (lv_at hl 0 rfl) ?_
    refine va_get (D := (dC, dI)) (ci := 4) (v := .int (nI (trn tr))) (C := R_Tr) (T := T_Tr) (N := 5) hx hb hts u_Tr hown hK hP 0 rfl rfl 4 (by decide) (hts _ L_142) (fun _ h9 => h9) rfl d_Tr_behind_24 ?_
    exact W.iret (v := nI (trn tr)) hx hb hr (fun t ht hW => ⟨nI (trn tr), rfl, (by unfold f_Tr_behind; rw [if_pos c_1]), ht⟩) (fun q h => by cases h) d_Tr_behind_27
  · refine lv_iload_n hx hb d_Tr_behind_8 rfl (lv_at hl 1 rfl) ?_
    refine lv_iconst (v := 1) hx hb d_Tr_behind_9 (by decide) ?_
    refine lv_aload_n hx hb d_Tr_behind_10 rfl (lv_at hl 0 rfl) ?_
    refine va_get (D := (dC, dI)) (ci := 4) (v := .ref b4) (C := R_Tr) (T := T_Tr) (N := 5) hx hb hts u_Tr hown hK hP 0 rfl rfl 3 (by decide) (hts _ L_141) (fun _ h9 => h9) rfl d_Tr_behind_11 ?_
    refine lv_iload_n hx hb d_Tr_behind_14 rfl (lv_at hl 1 rfl) ?_
    refine va_iald (D := (dC, dI)) hx hb hK hP 4 0 rfl rfl (has_in htr c_1) d_Tr_behind_15 ?_
    refine va_mmax hx hb (hml.trans hl.1.symm) hown (hts _ L_636) (hts _ L_637) (hts _ L_96) (hts _ L_638) (Nat.le_of_ble_eq_true rfl) (Nat.le_of_ble_eq_true rfl) (Nat.zero_le _) (Nat.zero_le _) d_Tr_behind_16 ?_
    refine lv_iadd hx hb d_Tr_behind_19 ?_
    refine lv_goto (tgt := 27) hx hb d_Tr_behind_20 (by decide) ?_
    exact W.iret (v := (k + (if 1 < (trS tr (k : Int32).toNatClampNeg) then (trS tr (k : Int32).toNatClampNeg) else 1))) hx hb hr (fun t ht hW => ⟨(k + (if 1 < (trS tr (k : Int32).toNatClampNeg) then (trS tr (k : Int32).toNatClampNeg) else 1)), rfl, (by unfold f_Tr_behind; rw [if_neg c_1]), ht⟩) (fun q h => by cases h) d_Tr_behind_27
def f_La_count (lb : LB) : Int32 := (nI (lbn lb))
set_option maxRecDepth 100000 in
set_option maxHeartbeats 4000000 in
theorem m_La_count (l : Launch) (dC : Nat → ClassId) (dI : Nat → Nat → Nat) (cI cZ : ClassId) (hq n1 n2 : Nat) (lb : LB) (hlb : okLb lb)  : cRd l y_La_count c_La_count 1 .int 0 0 (dC, dI) (ty2 cI cZ) [.ref hq] (wLa cI cZ hq n1 n2 lb) (f_La_count lb) := by
  refine Met.ofW (cc := c_La_count) (maxL := 1) (ret := some .int) (by decide) rfl ?_
  intro p e s m args below meth c s₁ B hml hv
  obtain ⟨rfl, hP, hK⟩ := hv
  have hx := B.exec
  have hb := B.bytes
  have hr := B.returns
  have hts0 := atoms_spec (ws := wy y_La_count c_La_count 1 (some .int)) B.pre
  have hts := htsL hts0
  have hown : s.vm.findClass R_La = some m.cls := findClass_of_methodNamed B.named
  have hlocks := B.notSynchronized
  have hl := lv_entry ([.ref hq]) (n := 1) (Nat.le_of_ble_eq_true rfl)
  rw [lg_entry_eq]
  generalize (lg_sl ([.ref hq]) ++ List.replicate (1 - (lg_sl ([.ref hq])).length) Slot.unset).toArray = ls at hl ⊢
  have hl : lv_has ls 1 [(0, .ref hq)] := hl
  refine lv_aload_n hx hb d_La_count_0 rfl (lv_at hl 0 rfl) ?_
  refine va_get (D := (dC, dI)) (ci := 1) (v := .int (nI (lbn lb))) (C := R_La) (T := T_La) (N := 3) hx hb hts u_La hown hK hP 0 rfl rfl 2 (by decide) (hts _ L_199) (fun _ h9 => h9) rfl d_La_count_1 ?_
  exact W.iret (v := nI (lbn lb)) hx hb hr (fun t ht hW => ⟨nI (lbn lb), rfl, rfl, ht⟩) (fun q h => by cases h) d_La_count_4
def f_La_ofLoop (lb : LB) (label : Int32) : Int32 := (if label < 0 then 0 else (if nI (lbn lb) ≤ label then 0 else (if (lbL lb (label : Int32).toNatClampNeg) = 0 then 0 else 1)))
theorem f_La_ofLoop_b {lb : LB} {label : Int32} : f_La_ofLoop lb label = 0 ∨ f_La_ofLoop lb label = 1 := by
  unfold f_La_ofLoop
  repeat' split
  all_goals first | exact Or.inl rfl | exact Or.inr rfl | exact Or.inl rfl
set_option maxRecDepth 100000 in
set_option maxHeartbeats 4000000 in
theorem m_La_ofLoop (l : Launch) (dC : Nat → ClassId) (dI : Nat → Nat → Nat) (cI cZ : ClassId) (hq n1 n2 : Nat) (lb : LB) (hlb : okLb lb) (label : Int32) : cRd l y_La_ofLoop c_La_ofLoop 2 .boolean 0 0 (dC, dI) (ty2 cI cZ) [.ref hq, .int label] (wLa cI cZ hq n1 n2 lb) (f_La_ofLoop lb label) := by
  refine Met.ofW (cc := c_La_ofLoop) (maxL := 2) (ret := some .boolean) (by decide) rfl ?_
  intro p e s m args below meth c s₁ B hml hv
  obtain ⟨rfl, hP, hK⟩ := hv
  have hx := B.exec
  have hb := B.bytes
  have hr := B.returns
  have hts0 := atoms_spec (ws := wy y_La_ofLoop c_La_ofLoop 2 (some .boolean)) B.pre
  have hts := htsL hts0
  have hown : s.vm.findClass R_La = some m.cls := findClass_of_methodNamed B.named
  have hlocks := B.notSynchronized
  have hl := lv_entry ([.ref hq, .int label]) (n := 2) (Nat.le_of_ble_eq_true rfl)
  rw [lg_entry_eq]
  generalize (lg_sl ([.ref hq, .int label]) ++ List.replicate (2 - (lg_sl ([.ref hq, .int label])).length) Slot.unset).toArray = ls at hl ⊢
  have hl : lv_has ls 2 [(0, .ref hq), (1, .int label)] := hl
  refine lv_iload_n hx hb d_La_ofLoop_0 rfl (lv_at hl 1 rfl) ?_
  refine lv_if_lt (tgt := 25) hx hb d_La_ofLoop_1 (by decide) (fun c_1 => ?_) (fun c_1 => ?_)
  · refine lv_iconst (v := 0) hx hb d_La_ofLoop_25 (by decide) ?_
    exact W.zret (v := 0) hx hb hr rfl (fun t ht hW => ⟨0, rfl, (by unfold f_La_ofLoop; rw [if_pos c_1]), ht⟩) (fun q h => by cases h) d_La_ofLoop_26
  · refine lv_iload_n hx hb d_La_ofLoop_4 rfl (lv_at hl 1 rfl) ?_
    refine lv_aload_n hx hb d_La_ofLoop_5 rfl (lv_at hl 0 rfl) ?_
    refine va_get (D := (dC, dI)) (ci := 1) (v := .int (nI (lbn lb))) (C := R_La) (T := T_La) (N := 3) hx hb hts u_La hown hK hP 0 rfl rfl 2 (by decide) (hts _ L_199) (fun _ h9 => h9) rfl d_La_ofLoop_6 ?_
    refine lv_icmp_ge (tgt := 25) hx hb d_La_ofLoop_9 (by decide) (fun c_2 => ?_) (fun c_2 => ?_)
    · refine lv_iconst (v := 0) hx hb d_La_ofLoop_25 (by decide) ?_
      exact W.zret (v := 0) hx hb hr rfl (fun t ht hW => ⟨0, rfl, (by unfold f_La_ofLoop; rw [if_neg c_1, if_pos c_2]), ht⟩) (fun q h => by cases h) d_La_ofLoop_26
    · refine lv_aload_n hx hb d_La_ofLoop_12 rfl (lv_at hl 0 rfl) ?_
      refine va_get (D := (dC, dI)) (ci := 1) (v := .ref n2) (C := R_La) (T := T_La) (N := 3) hx hb hts u_La hown hK hP 0 rfl rfl 1 (by decide) (hts _ L_198) (fun _ h9 => h9) rfl d_La_ofLoop_13 ?_
      refine lv_iload_n hx hb d_La_ofLoop_16 rfl (lv_at hl 1 rfl) ?_
      refine va_zald (D := (dC, dI)) hx hb hK hP 2 1 rfl rfl (ix_in c_1 c_2 hlb (by decide)) d_La_ofLoop_17 ?_
      refine lv_if_eq (tgt := 25) hx hb d_La_ofLoop_18 (by decide) (fun c_3 => ?_) (fun c_3 => ?_)
      · refine lv_iconst (v := 0) hx hb d_La_ofLoop_25 (by decide) ?_
        exact W.zret (v := 0) hx hb hr rfl (fun t ht hW => ⟨0, rfl, (by unfold f_La_ofLoop; rw [if_neg c_1, if_neg c_2, if_pos c_3]), ht⟩) (fun q h => by cases h) d_La_ofLoop_26
      · refine lv_iconst (v := 1) hx hb d_La_ofLoop_21 (by decide) ?_
        refine lv_goto (tgt := 26) hx hb d_La_ofLoop_22 (by decide) ?_
        exact W.zret (v := 1) hx hb hr rfl (fun t ht hW => ⟨1, rfl, (by unfold f_La_ofLoop; rw [if_neg c_1, if_neg c_2, if_neg c_3]), ht⟩) (fun q h => by cases h) d_La_ofLoop_26
