def f_Tk_knownName (name : Int32) : Int32 := (if name < 0 then 0 else (if 999 < name then 0 else 1))
theorem f_Tk_knownName_b {name : Int32} : f_Tk_knownName name = 0 ∨ f_Tk_knownName name = 1 := by
  unfold f_Tk_knownName
  repeat' split
  all_goals first | exact Or.inl rfl | exact Or.inr rfl | exact Or.inl rfl
set_option maxRecDepth 100000 in
set_option maxHeartbeats 4000000 in
theorem m_Tk_knownName (l : Launch) (dC : Nat → ClassId) (dI : Nat → Nat → Nat) (cI cZ : ClassId) (name : Int32) : cRd l y_Tk_knownName c_Tk_knownName 1 .boolean 0 0 (dC, dI) (ty2 cI cZ) [.int name] [] (f_Tk_knownName name) := by
  refine Met.ofW (cc := c_Tk_knownName) (maxL := 1) (ret := some .boolean) (by decide) rfl ?_
  intro p e s m args below meth c s₁ B hml hv
  obtain ⟨rfl, hP, hK⟩ := hv
  have hx := B.exec
  have hb := B.bytes
  have hr := B.returns
  have hts0 := atoms_spec (ws := wy y_Tk_knownName c_Tk_knownName 1 (some .boolean)) B.pre
  have hts := htsL hts0
  have hown : s.vm.findClass R_Tk = some m.cls := findClass_of_methodNamed B.named
  have hlocks := B.notSynchronized
  have hl := lv_entry ([.int name]) (n := 1) (Nat.le_of_ble_eq_true rfl)
  rw [lg_entry_eq]
  generalize (lg_sl ([.int name]) ++ List.replicate (1 - (lg_sl ([.int name])).length) Slot.unset).toArray = ls at hl ⊢
  have hl : lv_has ls 1 [(0, .int name)] := hl
  refine lv_iload_n hx hb d_Tk_knownName_0 rfl (lv_at hl 0 rfl) ?_
  refine lv_if_lt (tgt := 15) hx hb d_Tk_knownName_1 (by decide) (fun c_1 => ?_) (fun c_1 => ?_)
  · refine lv_iconst (v := 0) hx hb d_Tk_knownName_15 (by decide) ?_
    exact W.zret (v := 0) hx hb hr rfl (fun t ht hW => ⟨0, rfl, (by unfold f_Tk_knownName; rw [if_pos c_1]), ht⟩) (fun q h => by cases h) d_Tk_knownName_16
  · refine lv_iload_n hx hb d_Tk_knownName_4 rfl (lv_at hl 0 rfl) ?_
    refine lv_sipush (v := 999) hx hb d_Tk_knownName_5 (by decide) ?_
    refine lv_icmp_gt (tgt := 15) hx hb d_Tk_knownName_8 (by decide) (fun c_2 => ?_) (fun c_2 => ?_)
    · refine lv_iconst (v := 0) hx hb d_Tk_knownName_15 (by decide) ?_
      exact W.zret (v := 0) hx hb hr rfl (fun t ht hW => ⟨0, rfl, (by unfold f_Tk_knownName; rw [if_neg c_1, if_pos c_2]), ht⟩) (fun q h => by cases h) d_Tk_knownName_16
    · refine lv_iconst (v := 1) hx hb d_Tk_knownName_11 (by decide) ?_
      refine lv_goto (tgt := 16) hx hb d_Tk_knownName_12 (by decide) ?_
      exact W.zret (v := 1) hx hb hr rfl (fun t ht hW => ⟨1, rfl, (by unfold f_Tk_knownName; rw [if_neg c_1, if_neg c_2]), ht⟩) (fun q h => by cases h) d_Tk_knownName_16
def f_Tk_knownWord (word : Int32) : Int32 := (if word < (-1) then (if word < 100 then 0 else (if 144 < word then 0 else 1)) else (if word ≤ 44 then 1 else (if word < 100 then 0 else (if 144 < word then 0 else 1))))
theorem f_Tk_knownWord_b {word : Int32} : f_Tk_knownWord word = 0 ∨ f_Tk_knownWord word = 1 := by
  unfold f_Tk_knownWord
  repeat' split
  all_goals first | exact Or.inl rfl | exact Or.inr rfl | exact Or.inl rfl
set_option maxRecDepth 100000 in
set_option maxHeartbeats 4000000 in
theorem m_Tk_knownWord (l : Launch) (dC : Nat → ClassId) (dI : Nat → Nat → Nat) (cI cZ : ClassId) (word : Int32) : cRd l y_Tk_knownWord c_Tk_knownWord 1 .boolean 0 0 (dC, dI) (ty2 cI cZ) [.int word] [] (f_Tk_knownWord word) := by
  refine Met.ofW (cc := c_Tk_knownWord) (maxL := 1) (ret := some .boolean) (by decide) rfl ?_
  intro p e s m args below meth c s₁ B hml hv
  obtain ⟨rfl, hP, hK⟩ := hv
  have hx := B.exec
  have hb := B.bytes
  have hr := B.returns
  have hts0 := atoms_spec (ws := wy y_Tk_knownWord c_Tk_knownWord 1 (some .boolean)) B.pre
  have hts := htsL hts0
  have hown : s.vm.findClass R_Tk = some m.cls := findClass_of_methodNamed B.named
  have hlocks := B.notSynchronized
  have hl := lv_entry ([.int word]) (n := 1) (Nat.le_of_ble_eq_true rfl)
  rw [lg_entry_eq]
  generalize (lg_sl ([.int word]) ++ List.replicate (1 - (lg_sl ([.int word])).length) Slot.unset).toArray = ls at hl ⊢
  have hl : lv_has ls 1 [(0, .int word)] := hl
  refine lv_iload_n hx hb d_Tk_knownWord_0 rfl (lv_at hl 0 rfl) ?_
  refine lv_iconst (v := (-1)) hx hb d_Tk_knownWord_1 (by decide) ?_
  refine lv_icmp_lt (tgt := 11) hx hb d_Tk_knownWord_2 (by decide) (fun c_1 => ?_) (fun c_1 => ?_)
  · refine lv_iload_n hx hb d_Tk_knownWord_11 rfl (lv_at hl 0 rfl) ?_
    refine lv_bipush (v := 100) hx hb d_Tk_knownWord_12 (by decide) ?_
    refine lv_icmp_lt (tgt := 28) hx hb d_Tk_knownWord_14 (by decide) (fun c_2 => ?_) (fun c_2 => ?_)
    · refine lv_iconst (v := 0) hx hb d_Tk_knownWord_28 (by decide) ?_
      exact W.zret (v := 0) hx hb hr rfl (fun t ht hW => ⟨0, rfl, (by unfold f_Tk_knownWord; rw [if_pos c_1, if_pos c_2]), ht⟩) (fun q h => by cases h) d_Tk_knownWord_29
    · refine lv_iload_n hx hb d_Tk_knownWord_17 rfl (lv_at hl 0 rfl) ?_
      refine lv_sipush (v := 144) hx hb d_Tk_knownWord_18 (by decide) ?_
      refine lv_icmp_gt (tgt := 28) hx hb d_Tk_knownWord_21 (by decide) (fun c_3 => ?_) (fun c_3 => ?_)
      · refine lv_iconst (v := 0) hx hb d_Tk_knownWord_28 (by decide) ?_
        exact W.zret (v := 0) hx hb hr rfl (fun t ht hW => ⟨0, rfl, (by unfold f_Tk_knownWord; rw [if_pos c_1, if_neg c_2, if_pos c_3]), ht⟩) (fun q h => by cases h) d_Tk_knownWord_29
      · refine lv_iconst (v := 1) hx hb d_Tk_knownWord_24 (by decide) ?_
        refine lv_goto (tgt := 29) hx hb d_Tk_knownWord_25 (by decide) ?_
        exact W.zret (v := 1) hx hb hr rfl (fun t ht hW => ⟨1, rfl, (by unfold f_Tk_knownWord; rw [if_pos c_1, if_neg c_2, if_neg c_3]), ht⟩) (fun q h => by cases h) d_Tk_knownWord_29
  · refine lv_iload_n hx hb d_Tk_knownWord_5 rfl (lv_at hl 0 rfl) ?_
    refine lv_bipush (v := 44) hx hb d_Tk_knownWord_6 (by decide) ?_
    refine lv_icmp_le (tgt := 24) hx hb d_Tk_knownWord_8 (by decide) (fun c_4 => ?_) (fun c_4 => ?_)
    · refine lv_iconst (v := 1) hx hb d_Tk_knownWord_24 (by decide) ?_
      refine lv_goto (tgt := 29) hx hb d_Tk_knownWord_25 (by decide) ?_
      exact W.zret (v := 1) hx hb hr rfl (fun t ht hW => ⟨1, rfl, (by unfold f_Tk_knownWord; rw [if_neg c_1, if_pos c_4]), ht⟩) (fun q h => by cases h) d_Tk_knownWord_29
    · refine lv_iload_n hx hb d_Tk_knownWord_11 rfl (lv_at hl 0 rfl) ?_
      refine lv_bipush (v := 100) hx hb d_Tk_knownWord_12 (by decide) ?_
      refine lv_icmp_lt (tgt := 28) hx hb d_Tk_knownWord_14 (by decide) (fun c_5 => ?_) (fun c_5 => ?_)
      · refine lv_iconst (v := 0) hx hb d_Tk_knownWord_28 (by decide) ?_
        exact W.zret (v := 0) hx hb hr rfl (fun t ht hW => ⟨0, rfl, (by unfold f_Tk_knownWord; rw [if_neg c_1, if_neg c_4, if_pos c_5]), ht⟩) (fun q h => by cases h) d_Tk_knownWord_29
      · refine lv_iload_n hx hb d_Tk_knownWord_17 rfl (lv_at hl 0 rfl) ?_
        refine lv_sipush (v := 144) hx hb d_Tk_knownWord_18 (by decide) ?_
        refine lv_icmp_gt (tgt := 28) hx hb d_Tk_knownWord_21 (by decide) (fun c_6 => ?_) (fun c_6 => ?_)
        · refine lv_iconst (v := 0) hx hb d_Tk_knownWord_28 (by decide) ?_
          exact W.zret (v := 0) hx hb hr rfl (fun t ht hW => ⟨0, rfl, (by unfold f_Tk_knownWord; rw [if_neg c_1, if_neg c_4, if_neg c_5, if_pos c_6]), ht⟩) (fun q h => by cases h) d_Tk_knownWord_29
        · refine lv_iconst (v := 1) hx hb d_Tk_knownWord_24 (by decide) ?_
          refine lv_goto (tgt := 29) hx hb d_Tk_knownWord_25 (by decide) ?_
          exact W.zret (v := 1) hx hb hr rfl (fun t ht hW => ⟨1, rfl, (by unfold f_Tk_knownWord; rw [if_neg c_1, if_neg c_4, if_neg c_5, if_neg c_6]), ht⟩) (fun q h => by cases h) d_Tk_knownWord_29
def f_Tk_knownSign (sign : Int32) : Int32 := (if sign < 1 then (if sign < 16 then (if sign = 30 then 1 else (if sign < 33 then (if sign < 46 then (if sign < 60 then 0 else (if 74 < sign then 0 else 1)) else (if sign ≤ 53 then 1 else (if sign < 60 then 0 else (if 74 < sign then 0 else 1)))) else (if sign ≤ 35 then 1 else (if sign < 46 then (if sign < 60 then 0 else (if 74 < sign then 0 else 1)) else (if sign ≤ 53 then 1 else (if sign < 60 then 0 else (if 74 < sign then 0 else 1))))))) else (if sign ≤ 23 then 1 else (if sign = 30 then 1 else (if sign < 33 then (if sign < 46 then (if sign < 60 then 0 else (if 74 < sign then 0 else 1)) else (if sign ≤ 53 then 1 else (if sign < 60 then 0 else (if 74 < sign then 0 else 1)))) else (if sign ≤ 35 then 1 else (if sign < 46 then (if sign < 60 then 0 else (if 74 < sign then 0 else 1)) else (if sign ≤ 53 then 1 else (if sign < 60 then 0 else (if 74 < sign then 0 else 1))))))))) else (if sign ≤ 13 then 1 else (if sign < 16 then (if sign = 30 then 1 else (if sign < 33 then (if sign < 46 then (if sign < 60 then 0 else (if 74 < sign then 0 else 1)) else (if sign ≤ 53 then 1 else (if sign < 60 then 0 else (if 74 < sign then 0 else 1)))) else (if sign ≤ 35 then 1 else (if sign < 46 then (if sign < 60 then 0 else (if 74 < sign then 0 else 1)) else (if sign ≤ 53 then 1 else (if sign < 60 then 0 else (if 74 < sign then 0 else 1))))))) else (if sign ≤ 23 then 1 else (if sign = 30 then 1 else (if sign < 33 then (if sign < 46 then (if sign < 60 then 0 else (if 74 < sign then 0 else 1)) else (if sign ≤ 53 then 1 else (if sign < 60 then 0 else (if 74 < sign then 0 else 1)))) else (if sign ≤ 35 then 1 else (if sign < 46 then (if sign < 60 then 0 else (if 74 < sign then 0 else 1)) else (if sign ≤ 53 then 1 else (if sign < 60 then 0 else (if 74 < sign then 0 else 1)))))))))))
theorem f_Tk_knownSign_b {sign : Int32} : f_Tk_knownSign sign = 0 ∨ f_Tk_knownSign sign = 1 := by
  unfold f_Tk_knownSign
  repeat' split
  all_goals first | exact Or.inl rfl | exact Or.inr rfl | exact Or.inl rfl
set_option maxRecDepth 100000 in
set_option maxHeartbeats 4000000 in
theorem m_Tk_knownSign (l : Launch) (dC : Nat → ClassId) (dI : Nat → Nat → Nat) (cI cZ : ClassId) (sign : Int32) : cRd l y_Tk_knownSign c_Tk_knownSign 1 .boolean 0 0 (dC, dI) (ty2 cI cZ) [.int sign] [] (f_Tk_knownSign sign) := by
  refine Met.ofW (cc := c_Tk_knownSign) (maxL := 1) (ret := some .boolean) (by decide) rfl ?_
  intro p e s m args below meth c s₁ B hml hv
  obtain ⟨rfl, hP, hK⟩ := hv
  have hx := B.exec
  have hb := B.bytes
  have hr := B.returns
  have hts0 := atoms_spec (ws := wy y_Tk_knownSign c_Tk_knownSign 1 (some .boolean)) B.pre
  have hts := htsL hts0
  have hown : s.vm.findClass R_Tk = some m.cls := findClass_of_methodNamed B.named
  have hlocks := B.notSynchronized
  have hl := lv_entry ([.int sign]) (n := 1) (Nat.le_of_ble_eq_true rfl)
  rw [lg_entry_eq]
  generalize (lg_sl ([.int sign]) ++ List.replicate (1 - (lg_sl ([.int sign])).length) Slot.unset).toArray = ls at hl ⊢
  have hl : lv_has ls 1 [(0, .int sign)] := hl
  refine lv_iload_n hx hb d_Tk_knownSign_0 rfl (lv_at hl 0 rfl) ?_
  refine lv_iconst (v := 1) hx hb d_Tk_knownSign_1 (by decide) ?_
  refine lv_icmp_lt (tgt := 11) hx hb d_Tk_knownSign_2 (by decide) (fun c_1 => ?_) (fun c_1 => ?_)
  · refine lv_iload_n hx hb d_Tk_knownSign_11 rfl (lv_at hl 0 rfl) ?_
    refine lv_bipush (v := 16) hx hb d_Tk_knownSign_12 (by decide) ?_
    refine lv_icmp_lt (tgt := 23) hx hb d_Tk_knownSign_14 (by decide) (fun c_2 => ?_) (fun c_2 => ?_)
    · refine lv_iload_n hx hb d_Tk_knownSign_23 rfl (lv_at hl 0 rfl) ?_
      refine lv_bipush (v := 30) hx hb d_Tk_knownSign_24 (by decide) ?_
      refine lv_icmp_eq (tgt := 65) hx hb d_Tk_knownSign_26 (by decide) (fun c_3 => ?_) (fun c_3 => ?_)
      · refine lv_iconst (v := 1) hx hb d_Tk_knownSign_65 (by decide) ?_
        refine lv_goto (tgt := 70) hx hb d_Tk_knownSign_66 (by decide) ?_
        exact W.zret (v := 1) hx hb hr rfl (fun t ht hW => ⟨1, rfl, (by unfold f_Tk_knownSign; rw [if_pos c_1, if_pos c_2, if_pos c_3]), ht⟩) (fun q h => by cases h) d_Tk_knownSign_70
      · refine lv_iload_n hx hb d_Tk_knownSign_29 rfl (lv_at hl 0 rfl) ?_
        refine lv_bipush (v := 33) hx hb d_Tk_knownSign_30 (by decide) ?_
        refine lv_icmp_lt (tgt := 41) hx hb d_Tk_knownSign_32 (by decide) (fun c_4 => ?_) (fun c_4 => ?_)
        · refine lv_iload_n hx hb d_Tk_knownSign_41 rfl (lv_at hl 0 rfl) ?_
          refine lv_bipush (v := 46) hx hb d_Tk_knownSign_42 (by decide) ?_
          refine lv_icmp_lt (tgt := 53) hx hb d_Tk_knownSign_44 (by decide) (fun c_5 => ?_) (fun c_5 => ?_)
          · refine lv_iload_n hx hb d_Tk_knownSign_53 rfl (lv_at hl 0 rfl) ?_
            refine lv_bipush (v := 60) hx hb d_Tk_knownSign_54 (by decide) ?_
            refine lv_icmp_lt (tgt := 69) hx hb d_Tk_knownSign_56 (by decide) (fun c_6 => ?_) (fun c_6 => ?_)
            · refine lv_iconst (v := 0) hx hb d_Tk_knownSign_69 (by decide) ?_
              exact W.zret (v := 0) hx hb hr rfl (fun t ht hW => ⟨0, rfl, (by unfold f_Tk_knownSign; rw [if_pos c_1, if_pos c_2, if_neg c_3, if_pos c_4, if_pos c_5, if_pos c_6]), ht⟩) (fun q h => by cases h) d_Tk_knownSign_70
            · refine lv_iload_n hx hb d_Tk_knownSign_59 rfl (lv_at hl 0 rfl) ?_
              refine lv_bipush (v := 74) hx hb d_Tk_knownSign_60 (by decide) ?_
              refine lv_icmp_gt (tgt := 69) hx hb d_Tk_knownSign_62 (by decide) (fun c_7 => ?_) (fun c_7 => ?_)
              · refine lv_iconst (v := 0) hx hb d_Tk_knownSign_69 (by decide) ?_
                exact W.zret (v := 0) hx hb hr rfl (fun t ht hW => ⟨0, rfl, (by unfold f_Tk_knownSign; rw [if_pos c_1, if_pos c_2, if_neg c_3, if_pos c_4, if_pos c_5, if_neg c_6, if_pos c_7]), ht⟩) (fun q h => by cases h) d_Tk_knownSign_70
              · refine lv_iconst (v := 1) hx hb d_Tk_knownSign_65 (by decide) ?_
                refine lv_goto (tgt := 70) hx hb d_Tk_knownSign_66 (by decide) ?_
                exact W.zret (v := 1) hx hb hr rfl (fun t ht hW => ⟨1, rfl, (by unfold f_Tk_knownSign; rw [if_pos c_1, if_pos c_2, if_neg c_3, if_pos c_4, if_pos c_5, if_neg c_6, if_neg c_7]), ht⟩) (fun q h => by cases h) d_Tk_knownSign_70
          · refine lv_iload_n hx hb d_Tk_knownSign_47 rfl (lv_at hl 0 rfl) ?_
            refine lv_bipush (v := 53) hx hb d_Tk_knownSign_48 (by decide) ?_
            refine lv_icmp_le (tgt := 65) hx hb d_Tk_knownSign_50 (by decide) (fun c_8 => ?_) (fun c_8 => ?_)
            · refine lv_iconst (v := 1) hx hb d_Tk_knownSign_65 (by decide) ?_
              refine lv_goto (tgt := 70) hx hb d_Tk_knownSign_66 (by decide) ?_
              exact W.zret (v := 1) hx hb hr rfl (fun t ht hW => ⟨1, rfl, (by unfold f_Tk_knownSign; rw [if_pos c_1, if_pos c_2, if_neg c_3, if_pos c_4, if_neg c_5, if_pos c_8]), ht⟩) (fun q h => by cases h) d_Tk_knownSign_70
            · refine lv_iload_n hx hb d_Tk_knownSign_53 rfl (lv_at hl 0 rfl) ?_
              refine lv_bipush (v := 60) hx hb d_Tk_knownSign_54 (by decide) ?_
              refine lv_icmp_lt (tgt := 69) hx hb d_Tk_knownSign_56 (by decide) (fun c_9 => ?_) (fun c_9 => ?_)
              · refine lv_iconst (v := 0) hx hb d_Tk_knownSign_69 (by decide) ?_
                exact W.zret (v := 0) hx hb hr rfl (fun t ht hW => ⟨0, rfl, (by unfold f_Tk_knownSign; rw [if_pos c_1, if_pos c_2, if_neg c_3, if_pos c_4, if_neg c_5, if_neg c_8, if_pos c_9]), ht⟩) (fun q h => by cases h) d_Tk_knownSign_70
              · refine lv_iload_n hx hb d_Tk_knownSign_59 rfl (lv_at hl 0 rfl) ?_
                refine lv_bipush (v := 74) hx hb d_Tk_knownSign_60 (by decide) ?_
                refine lv_icmp_gt (tgt := 69) hx hb d_Tk_knownSign_62 (by decide) (fun c_10 => ?_) (fun c_10 => ?_)
                · refine lv_iconst (v := 0) hx hb d_Tk_knownSign_69 (by decide) ?_
                  exact W.zret (v := 0) hx hb hr rfl (fun t ht hW => ⟨0, rfl, (by unfold f_Tk_knownSign; rw [if_pos c_1, if_pos c_2, if_neg c_3, if_pos c_4, if_neg c_5, if_neg c_8, if_neg c_9, if_pos c_10]), ht⟩) (fun q h => by cases h) d_Tk_knownSign_70
                · refine lv_iconst (v := 1) hx hb d_Tk_knownSign_65 (by decide) ?_
                  refine lv_goto (tgt := 70) hx hb d_Tk_knownSign_66 (by decide) ?_
                  exact W.zret (v := 1) hx hb hr rfl (fun t ht hW => ⟨1, rfl, (by unfold f_Tk_knownSign; rw [if_pos c_1, if_pos c_2, if_neg c_3, if_pos c_4, if_neg c_5, if_neg c_8, if_neg c_9, if_neg c_10]), ht⟩) (fun q h => by cases h) d_Tk_knownSign_70
        · refine lv_iload_n hx hb d_Tk_knownSign_35 rfl (lv_at hl 0 rfl) ?_
          refine lv_bipush (v := 35) hx hb d_Tk_knownSign_36 (by decide) ?_
          refine lv_icmp_le (tgt := 65) hx hb d_Tk_knownSign_38 (by decide) (fun c_11 => ?_) (fun c_11 => ?_)
          · refine lv_iconst (v := 1) hx hb d_Tk_knownSign_65 (by decide) ?_
            refine lv_goto (tgt := 70) hx hb d_Tk_knownSign_66 (by decide) ?_
            exact W.zret (v := 1) hx hb hr rfl (fun t ht hW => ⟨1, rfl, (by unfold f_Tk_knownSign; rw [if_pos c_1, if_pos c_2, if_neg c_3, if_neg c_4, if_pos c_11]), ht⟩) (fun q h => by cases h) d_Tk_knownSign_70
          · refine lv_iload_n hx hb d_Tk_knownSign_41 rfl (lv_at hl 0 rfl) ?_
            refine lv_bipush (v := 46) hx hb d_Tk_knownSign_42 (by decide) ?_
            refine lv_icmp_lt (tgt := 53) hx hb d_Tk_knownSign_44 (by decide) (fun c_12 => ?_) (fun c_12 => ?_)
            · refine lv_iload_n hx hb d_Tk_knownSign_53 rfl (lv_at hl 0 rfl) ?_
              refine lv_bipush (v := 60) hx hb d_Tk_knownSign_54 (by decide) ?_
              refine lv_icmp_lt (tgt := 69) hx hb d_Tk_knownSign_56 (by decide) (fun c_13 => ?_) (fun c_13 => ?_)
              · refine lv_iconst (v := 0) hx hb d_Tk_knownSign_69 (by decide) ?_
                exact W.zret (v := 0) hx hb hr rfl (fun t ht hW => ⟨0, rfl, (by unfold f_Tk_knownSign; rw [if_pos c_1, if_pos c_2, if_neg c_3, if_neg c_4, if_neg c_11, if_pos c_12, if_pos c_13]), ht⟩) (fun q h => by cases h) d_Tk_knownSign_70
              · refine lv_iload_n hx hb d_Tk_knownSign_59 rfl (lv_at hl 0 rfl) ?_
                refine lv_bipush (v := 74) hx hb d_Tk_knownSign_60 (by decide) ?_
                refine lv_icmp_gt (tgt := 69) hx hb d_Tk_knownSign_62 (by decide) (fun c_14 => ?_) (fun c_14 => ?_)
                · refine lv_iconst (v := 0) hx hb d_Tk_knownSign_69 (by decide) ?_
                  exact W.zret (v := 0) hx hb hr rfl (fun t ht hW => ⟨0, rfl, (by unfold f_Tk_knownSign; rw [if_pos c_1, if_pos c_2, if_neg c_3, if_neg c_4, if_neg c_11, if_pos c_12, if_neg c_13, if_pos c_14]), ht⟩) (fun q h => by cases h) d_Tk_knownSign_70
                · refine lv_iconst (v := 1) hx hb d_Tk_knownSign_65 (by decide) ?_
                  refine lv_goto (tgt := 70) hx hb d_Tk_knownSign_66 (by decide) ?_
                  exact W.zret (v := 1) hx hb hr rfl (fun t ht hW => ⟨1, rfl, (by unfold f_Tk_knownSign; rw [if_pos c_1, if_pos c_2, if_neg c_3, if_neg c_4, if_neg c_11, if_pos c_12, if_neg c_13, if_neg c_14]), ht⟩) (fun q h => by cases h) d_Tk_knownSign_70
            · refine lv_iload_n hx hb d_Tk_knownSign_47 rfl (lv_at hl 0 rfl) ?_
              refine lv_bipush (v := 53) hx hb d_Tk_knownSign_48 (by decide) ?_
              refine lv_icmp_le (tgt := 65) hx hb d_Tk_knownSign_50 (by decide) (fun c_15 => ?_) (fun c_15 => ?_)
              · refine lv_iconst (v := 1) hx hb d_Tk_knownSign_65 (by decide) ?_
                refine lv_goto (tgt := 70) hx hb d_Tk_knownSign_66 (by decide) ?_
                exact W.zret (v := 1) hx hb hr rfl (fun t ht hW => ⟨1, rfl, (by unfold f_Tk_knownSign; rw [if_pos c_1, if_pos c_2, if_neg c_3, if_neg c_4, if_neg c_11, if_neg c_12, if_pos c_15]), ht⟩) (fun q h => by cases h) d_Tk_knownSign_70
              · refine lv_iload_n hx hb d_Tk_knownSign_53 rfl (lv_at hl 0 rfl) ?_
                refine lv_bipush (v := 60) hx hb d_Tk_knownSign_54 (by decide) ?_
                refine lv_icmp_lt (tgt := 69) hx hb d_Tk_knownSign_56 (by decide) (fun c_16 => ?_) (fun c_16 => ?_)
                · refine lv_iconst (v := 0) hx hb d_Tk_knownSign_69 (by decide) ?_
                  exact W.zret (v := 0) hx hb hr rfl (fun t ht hW => ⟨0, rfl, (by unfold f_Tk_knownSign; rw [if_pos c_1, if_pos c_2, if_neg c_3, if_neg c_4, if_neg c_11, if_neg c_12, if_neg c_15, if_pos c_16]), ht⟩) (fun q h => by cases h) d_Tk_knownSign_70
                · refine lv_iload_n hx hb d_Tk_knownSign_59 rfl (lv_at hl 0 rfl) ?_
                  refine lv_bipush (v := 74) hx hb d_Tk_knownSign_60 (by decide) ?_
                  refine lv_icmp_gt (tgt := 69) hx hb d_Tk_knownSign_62 (by decide) (fun c_17 => ?_) (fun c_17 => ?_)
                  · refine lv_iconst (v := 0) hx hb d_Tk_knownSign_69 (by decide) ?_
                    exact W.zret (v := 0) hx hb hr rfl (fun t ht hW => ⟨0, rfl, (by unfold f_Tk_knownSign; rw [if_pos c_1, if_pos c_2, if_neg c_3, if_neg c_4, if_neg c_11, if_neg c_12, if_neg c_15, if_neg c_16, if_pos c_17]), ht⟩) (fun q h => by cases h) d_Tk_knownSign_70
                  · refine lv_iconst (v := 1) hx hb d_Tk_knownSign_65 (by decide) ?_
                    refine lv_goto (tgt := 70) hx hb d_Tk_knownSign_66 (by decide) ?_
                    exact W.zret (v := 1) hx hb hr rfl (fun t ht hW => ⟨1, rfl, (by unfold f_Tk_knownSign; rw [if_pos c_1, if_pos c_2, if_neg c_3, if_neg c_4, if_neg c_11, if_neg c_12, if_neg c_15, if_neg c_16, if_neg c_17]), ht⟩) (fun q h => by cases h) d_Tk_knownSign_70
    · refine lv_iload_n hx hb d_Tk_knownSign_17 rfl (lv_at hl 0 rfl) ?_
      refine lv_bipush (v := 23) hx hb d_Tk_knownSign_18 (by decide) ?_
      refine lv_icmp_le (tgt := 65) hx hb d_Tk_knownSign_20 (by decide) (fun c_18 => ?_) (fun c_18 => ?_)
      · refine lv_iconst (v := 1) hx hb d_Tk_knownSign_65 (by decide) ?_
        refine lv_goto (tgt := 70) hx hb d_Tk_knownSign_66 (by decide) ?_
        exact W.zret (v := 1) hx hb hr rfl (fun t ht hW => ⟨1, rfl, (by unfold f_Tk_knownSign; rw [if_pos c_1, if_neg c_2, if_pos c_18]), ht⟩) (fun q h => by cases h) d_Tk_knownSign_70
      · refine lv_iload_n hx hb d_Tk_knownSign_23 rfl (lv_at hl 0 rfl) ?_
        refine lv_bipush (v := 30) hx hb d_Tk_knownSign_24 (by decide) ?_
        refine lv_icmp_eq (tgt := 65) hx hb d_Tk_knownSign_26 (by decide) (fun c_19 => ?_) (fun c_19 => ?_)
        · refine lv_iconst (v := 1) hx hb d_Tk_knownSign_65 (by decide) ?_
          refine lv_goto (tgt := 70) hx hb d_Tk_knownSign_66 (by decide) ?_
          exact W.zret (v := 1) hx hb hr rfl (fun t ht hW => ⟨1, rfl, (by unfold f_Tk_knownSign; rw [if_pos c_1, if_neg c_2, if_neg c_18, if_pos c_19]), ht⟩) (fun q h => by cases h) d_Tk_knownSign_70
        · refine lv_iload_n hx hb d_Tk_knownSign_29 rfl (lv_at hl 0 rfl) ?_
          refine lv_bipush (v := 33) hx hb d_Tk_knownSign_30 (by decide) ?_
          refine lv_icmp_lt (tgt := 41) hx hb d_Tk_knownSign_32 (by decide) (fun c_20 => ?_) (fun c_20 => ?_)
          · refine lv_iload_n hx hb d_Tk_knownSign_41 rfl (lv_at hl 0 rfl) ?_
            refine lv_bipush (v := 46) hx hb d_Tk_knownSign_42 (by decide) ?_
            refine lv_icmp_lt (tgt := 53) hx hb d_Tk_knownSign_44 (by decide) (fun c_21 => ?_) (fun c_21 => ?_)
            · refine lv_iload_n hx hb d_Tk_knownSign_53 rfl (lv_at hl 0 rfl) ?_
              refine lv_bipush (v := 60) hx hb d_Tk_knownSign_54 (by decide) ?_
              refine lv_icmp_lt (tgt := 69) hx hb d_Tk_knownSign_56 (by decide) (fun c_22 => ?_) (fun c_22 => ?_)
              · refine lv_iconst (v := 0) hx hb d_Tk_knownSign_69 (by decide) ?_
                exact W.zret (v := 0) hx hb hr rfl (fun t ht hW => ⟨0, rfl, (by unfold f_Tk_knownSign; rw [if_pos c_1, if_neg c_2, if_neg c_18, if_neg c_19, if_pos c_20, if_pos c_21, if_pos c_22]), ht⟩) (fun q h => by cases h) d_Tk_knownSign_70
              · refine lv_iload_n hx hb d_Tk_knownSign_59 rfl (lv_at hl 0 rfl) ?_
                refine lv_bipush (v := 74) hx hb d_Tk_knownSign_60 (by decide) ?_
                refine lv_icmp_gt (tgt := 69) hx hb d_Tk_knownSign_62 (by decide) (fun c_23 => ?_) (fun c_23 => ?_)
                · refine lv_iconst (v := 0) hx hb d_Tk_knownSign_69 (by decide) ?_
                  exact W.zret (v := 0) hx hb hr rfl (fun t ht hW => ⟨0, rfl, (by unfold f_Tk_knownSign; rw [if_pos c_1, if_neg c_2, if_neg c_18, if_neg c_19, if_pos c_20, if_pos c_21, if_neg c_22, if_pos c_23]), ht⟩) (fun q h => by cases h) d_Tk_knownSign_70
                · refine lv_iconst (v := 1) hx hb d_Tk_knownSign_65 (by decide) ?_
                  refine lv_goto (tgt := 70) hx hb d_Tk_knownSign_66 (by decide) ?_
                  exact W.zret (v := 1) hx hb hr rfl (fun t ht hW => ⟨1, rfl, (by unfold f_Tk_knownSign; rw [if_pos c_1, if_neg c_2, if_neg c_18, if_neg c_19, if_pos c_20, if_pos c_21, if_neg c_22, if_neg c_23]), ht⟩) (fun q h => by cases h) d_Tk_knownSign_70
            · refine lv_iload_n hx hb d_Tk_knownSign_47 rfl (lv_at hl 0 rfl) ?_
              refine lv_bipush (v := 53) hx hb d_Tk_knownSign_48 (by decide) ?_
              refine lv_icmp_le (tgt := 65) hx hb d_Tk_knownSign_50 (by decide) (fun c_24 => ?_) (fun c_24 => ?_)
              · refine lv_iconst (v := 1) hx hb d_Tk_knownSign_65 (by decide) ?_
                refine lv_goto (tgt := 70) hx hb d_Tk_knownSign_66 (by decide) ?_
                exact W.zret (v := 1) hx hb hr rfl (fun t ht hW => ⟨1, rfl, (by unfold f_Tk_knownSign; rw [if_pos c_1, if_neg c_2, if_neg c_18, if_neg c_19, if_pos c_20, if_neg c_21, if_pos c_24]), ht⟩) (fun q h => by cases h) d_Tk_knownSign_70
              · refine lv_iload_n hx hb d_Tk_knownSign_53 rfl (lv_at hl 0 rfl) ?_
                refine lv_bipush (v := 60) hx hb d_Tk_knownSign_54 (by decide) ?_
                refine lv_icmp_lt (tgt := 69) hx hb d_Tk_knownSign_56 (by decide) (fun c_25 => ?_) (fun c_25 => ?_)
                · refine lv_iconst (v := 0) hx hb d_Tk_knownSign_69 (by decide) ?_
                  exact W.zret (v := 0) hx hb hr rfl (fun t ht hW => ⟨0, rfl, (by unfold f_Tk_knownSign; rw [if_pos c_1, if_neg c_2, if_neg c_18, if_neg c_19, if_pos c_20, if_neg c_21, if_neg c_24, if_pos c_25]), ht⟩) (fun q h => by cases h) d_Tk_knownSign_70
                · refine lv_iload_n hx hb d_Tk_knownSign_59 rfl (lv_at hl 0 rfl) ?_
                  refine lv_bipush (v := 74) hx hb d_Tk_knownSign_60 (by decide) ?_
                  refine lv_icmp_gt (tgt := 69) hx hb d_Tk_knownSign_62 (by decide) (fun c_26 => ?_) (fun c_26 => ?_)
                  · refine lv_iconst (v := 0) hx hb d_Tk_knownSign_69 (by decide) ?_
                    exact W.zret (v := 0) hx hb hr rfl (fun t ht hW => ⟨0, rfl, (by unfold f_Tk_knownSign; rw [if_pos c_1, if_neg c_2, if_neg c_18, if_neg c_19, if_pos c_20, if_neg c_21, if_neg c_24, if_neg c_25, if_pos c_26]), ht⟩) (fun q h => by cases h) d_Tk_knownSign_70
                  · refine lv_iconst (v := 1) hx hb d_Tk_knownSign_65 (by decide) ?_
                    refine lv_goto (tgt := 70) hx hb d_Tk_knownSign_66 (by decide) ?_
                    exact W.zret (v := 1) hx hb hr rfl (fun t ht hW => ⟨1, rfl, (by unfold f_Tk_knownSign; rw [if_pos c_1, if_neg c_2, if_neg c_18, if_neg c_19, if_pos c_20, if_neg c_21, if_neg c_24, if_neg c_25, if_neg c_26]), ht⟩) (fun q h => by cases h) d_Tk_knownSign_70
          · refine lv_iload_n hx hb d_Tk_knownSign_35 rfl (lv_at hl 0 rfl) ?_
            refine lv_bipush (v := 35) hx hb d_Tk_knownSign_36 (by decide) ?_
            refine lv_icmp_le (tgt := 65) hx hb d_Tk_knownSign_38 (by decide) (fun c_27 => ?_) (fun c_27 => ?_)
            · refine lv_iconst (v := 1) hx hb d_Tk_knownSign_65 (by decide) ?_
              refine lv_goto (tgt := 70) hx hb d_Tk_knownSign_66 (by decide) ?_
              exact W.zret (v := 1) hx hb hr rfl (fun t ht hW => ⟨1, rfl, (by unfold f_Tk_knownSign; rw [if_pos c_1, if_neg c_2, if_neg c_18, if_neg c_19, if_neg c_20, if_pos c_27]), ht⟩) (fun q h => by cases h) d_Tk_knownSign_70
            · refine lv_iload_n hx hb d_Tk_knownSign_41 rfl (lv_at hl 0 rfl) ?_
              refine lv_bipush (v := 46) hx hb d_Tk_knownSign_42 (by decide) ?_
              refine lv_icmp_lt (tgt := 53) hx hb d_Tk_knownSign_44 (by decide) (fun c_28 => ?_) (fun c_28 => ?_)
              · refine lv_iload_n hx hb d_Tk_knownSign_53 rfl (lv_at hl 0 rfl) ?_
                refine lv_bipush (v := 60) hx hb d_Tk_knownSign_54 (by decide) ?_
                refine lv_icmp_lt (tgt := 69) hx hb d_Tk_knownSign_56 (by decide) (fun c_29 => ?_) (fun c_29 => ?_)
                · refine lv_iconst (v := 0) hx hb d_Tk_knownSign_69 (by decide) ?_
                  exact W.zret (v := 0) hx hb hr rfl (fun t ht hW => ⟨0, rfl, (by unfold f_Tk_knownSign; rw [if_pos c_1, if_neg c_2, if_neg c_18, if_neg c_19, if_neg c_20, if_neg c_27, if_pos c_28, if_pos c_29]), ht⟩) (fun q h => by cases h) d_Tk_knownSign_70
                · refine lv_iload_n hx hb d_Tk_knownSign_59 rfl (lv_at hl 0 rfl) ?_
                  refine lv_bipush (v := 74) hx hb d_Tk_knownSign_60 (by decide) ?_
                  refine lv_icmp_gt (tgt := 69) hx hb d_Tk_knownSign_62 (by decide) (fun c_30 => ?_) (fun c_30 => ?_)
                  · refine lv_iconst (v := 0) hx hb d_Tk_knownSign_69 (by decide) ?_
                    exact W.zret (v := 0) hx hb hr rfl (fun t ht hW => ⟨0, rfl, (by unfold f_Tk_knownSign; rw [if_pos c_1, if_neg c_2, if_neg c_18, if_neg c_19, if_neg c_20, if_neg c_27, if_pos c_28, if_neg c_29, if_pos c_30]), ht⟩) (fun q h => by cases h) d_Tk_knownSign_70
                  · refine lv_iconst (v := 1) hx hb d_Tk_knownSign_65 (by decide) ?_
                    refine lv_goto (tgt := 70) hx hb d_Tk_knownSign_66 (by decide) ?_
                    exact W.zret (v := 1) hx hb hr rfl (fun t ht hW => ⟨1, rfl, (by unfold f_Tk_knownSign; rw [if_pos c_1, if_neg c_2, if_neg c_18, if_neg c_19, if_neg c_20, if_neg c_27, if_pos c_28, if_neg c_29, if_neg c_30]), ht⟩) (fun q h => by cases h) d_Tk_knownSign_70
              · refine lv_iload_n hx hb d_Tk_knownSign_47 rfl (lv_at hl 0 rfl) ?_
                refine lv_bipush (v := 53) hx hb d_Tk_knownSign_48 (by decide) ?_
                refine lv_icmp_le (tgt := 65) hx hb d_Tk_knownSign_50 (by decide) (fun c_31 => ?_) (fun c_31 => ?_)
                · refine lv_iconst (v := 1) hx hb d_Tk_knownSign_65 (by decide) ?_
                  refine lv_goto (tgt := 70) hx hb d_Tk_knownSign_66 (by decide) ?_
                  exact W.zret (v := 1) hx hb hr rfl (fun t ht hW => ⟨1, rfl, (by unfold f_Tk_knownSign; rw [if_pos c_1, if_neg c_2, if_neg c_18, if_neg c_19, if_neg c_20, if_neg c_27, if_neg c_28, if_pos c_31]), ht⟩) (fun q h => by cases h) d_Tk_knownSign_70
                · refine lv_iload_n hx hb d_Tk_knownSign_53 rfl (lv_at hl 0 rfl) ?_
                  refine lv_bipush (v := 60) hx hb d_Tk_knownSign_54 (by decide) ?_
                  refine lv_icmp_lt (tgt := 69) hx hb d_Tk_knownSign_56 (by decide) (fun c_32 => ?_) (fun c_32 => ?_)
                  · refine lv_iconst (v := 0) hx hb d_Tk_knownSign_69 (by decide) ?_
                    exact W.zret (v := 0) hx hb hr rfl (fun t ht hW => ⟨0, rfl, (by unfold f_Tk_knownSign; rw [if_pos c_1, if_neg c_2, if_neg c_18, if_neg c_19, if_neg c_20, if_neg c_27, if_neg c_28, if_neg c_31, if_pos c_32]), ht⟩) (fun q h => by cases h) d_Tk_knownSign_70
                  · refine lv_iload_n hx hb d_Tk_knownSign_59 rfl (lv_at hl 0 rfl) ?_
                    refine lv_bipush (v := 74) hx hb d_Tk_knownSign_60 (by decide) ?_
                    refine lv_icmp_gt (tgt := 69) hx hb d_Tk_knownSign_62 (by decide) (fun c_33 => ?_) (fun c_33 => ?_)
                    · refine lv_iconst (v := 0) hx hb d_Tk_knownSign_69 (by decide) ?_
                      exact W.zret (v := 0) hx hb hr rfl (fun t ht hW => ⟨0, rfl, (by unfold f_Tk_knownSign; rw [if_pos c_1, if_neg c_2, if_neg c_18, if_neg c_19, if_neg c_20, if_neg c_27, if_neg c_28, if_neg c_31, if_neg c_32, if_pos c_33]), ht⟩) (fun q h => by cases h) d_Tk_knownSign_70
                    · refine lv_iconst (v := 1) hx hb d_Tk_knownSign_65 (by decide) ?_
                      refine lv_goto (tgt := 70) hx hb d_Tk_knownSign_66 (by decide) ?_
                      exact W.zret (v := 1) hx hb hr rfl (fun t ht hW => ⟨1, rfl, (by unfold f_Tk_knownSign; rw [if_pos c_1, if_neg c_2, if_neg c_18, if_neg c_19, if_neg c_20, if_neg c_27, if_neg c_28, if_neg c_31, if_neg c_32, if_neg c_33]), ht⟩) (fun q h => by cases h) d_Tk_knownSign_70
  · refine lv_iload_n hx hb d_Tk_knownSign_5 rfl (lv_at hl 0 rfl) ?_
    refine lv_bipush (v := 13) hx hb d_Tk_knownSign_6 (by decide) ?_
    refine lv_icmp_le (tgt := 65) hx hb d_Tk_knownSign_8 (by decide) (fun c_34 => ?_) (fun c_34 => ?_)
    · refine lv_iconst (v := 1) hx hb d_Tk_knownSign_65 (by decide) ?_
      refine lv_goto (tgt := 70) hx hb d_Tk_knownSign_66 (by decide) ?_
      exact W.zret (v := 1) hx hb hr rfl (fun t ht hW => ⟨1, rfl, (by unfold f_Tk_knownSign; rw [if_neg c_1, if_pos c_34]), ht⟩) (fun q h => by cases h) d_Tk_knownSign_70
    · refine lv_iload_n hx hb d_Tk_knownSign_11 rfl (lv_at hl 0 rfl) ?_
      refine lv_bipush (v := 16) hx hb d_Tk_knownSign_12 (by decide) ?_
      refine lv_icmp_lt (tgt := 23) hx hb d_Tk_knownSign_14 (by decide) (fun c_35 => ?_) (fun c_35 => ?_)
      · refine lv_iload_n hx hb d_Tk_knownSign_23 rfl (lv_at hl 0 rfl) ?_
        refine lv_bipush (v := 30) hx hb d_Tk_knownSign_24 (by decide) ?_
        refine lv_icmp_eq (tgt := 65) hx hb d_Tk_knownSign_26 (by decide) (fun c_36 => ?_) (fun c_36 => ?_)
        · refine lv_iconst (v := 1) hx hb d_Tk_knownSign_65 (by decide) ?_
          refine lv_goto (tgt := 70) hx hb d_Tk_knownSign_66 (by decide) ?_
          exact W.zret (v := 1) hx hb hr rfl (fun t ht hW => ⟨1, rfl, (by unfold f_Tk_knownSign; rw [if_neg c_1, if_neg c_34, if_pos c_35, if_pos c_36]), ht⟩) (fun q h => by cases h) d_Tk_knownSign_70
        · refine lv_iload_n hx hb d_Tk_knownSign_29 rfl (lv_at hl 0 rfl) ?_
          refine lv_bipush (v := 33) hx hb d_Tk_knownSign_30 (by decide) ?_
          refine lv_icmp_lt (tgt := 41) hx hb d_Tk_knownSign_32 (by decide) (fun c_37 => ?_) (fun c_37 => ?_)
          · refine lv_iload_n hx hb d_Tk_knownSign_41 rfl (lv_at hl 0 rfl) ?_
            refine lv_bipush (v := 46) hx hb d_Tk_knownSign_42 (by decide) ?_
            refine lv_icmp_lt (tgt := 53) hx hb d_Tk_knownSign_44 (by decide) (fun c_38 => ?_) (fun c_38 => ?_)
            · refine lv_iload_n hx hb d_Tk_knownSign_53 rfl (lv_at hl 0 rfl) ?_
              refine lv_bipush (v := 60) hx hb d_Tk_knownSign_54 (by decide) ?_
              refine lv_icmp_lt (tgt := 69) hx hb d_Tk_knownSign_56 (by decide) (fun c_39 => ?_) (fun c_39 => ?_)
              · refine lv_iconst (v := 0) hx hb d_Tk_knownSign_69 (by decide) ?_
                exact W.zret (v := 0) hx hb hr rfl (fun t ht hW => ⟨0, rfl, (by unfold f_Tk_knownSign; rw [if_neg c_1, if_neg c_34, if_pos c_35, if_neg c_36, if_pos c_37, if_pos c_38, if_pos c_39]), ht⟩) (fun q h => by cases h) d_Tk_knownSign_70
              · refine lv_iload_n hx hb d_Tk_knownSign_59 rfl (lv_at hl 0 rfl) ?_
                refine lv_bipush (v := 74) hx hb d_Tk_knownSign_60 (by decide) ?_
                refine lv_icmp_gt (tgt := 69) hx hb d_Tk_knownSign_62 (by decide) (fun c_40 => ?_) (fun c_40 => ?_)
                · refine lv_iconst (v := 0) hx hb d_Tk_knownSign_69 (by decide) ?_
                  exact W.zret (v := 0) hx hb hr rfl (fun t ht hW => ⟨0, rfl, (by unfold f_Tk_knownSign; rw [if_neg c_1, if_neg c_34, if_pos c_35, if_neg c_36, if_pos c_37, if_pos c_38, if_neg c_39, if_pos c_40]), ht⟩) (fun q h => by cases h) d_Tk_knownSign_70
                · refine lv_iconst (v := 1) hx hb d_Tk_knownSign_65 (by decide) ?_
                  refine lv_goto (tgt := 70) hx hb d_Tk_knownSign_66 (by decide) ?_
                  exact W.zret (v := 1) hx hb hr rfl (fun t ht hW => ⟨1, rfl, (by unfold f_Tk_knownSign; rw [if_neg c_1, if_neg c_34, if_pos c_35, if_neg c_36, if_pos c_37, if_pos c_38, if_neg c_39, if_neg c_40]), ht⟩) (fun q h => by cases h) d_Tk_knownSign_70
            · refine lv_iload_n hx hb d_Tk_knownSign_47 rfl (lv_at hl 0 rfl) ?_
              refine lv_bipush (v := 53) hx hb d_Tk_knownSign_48 (by decide) ?_
              refine lv_icmp_le (tgt := 65) hx hb d_Tk_knownSign_50 (by decide) (fun c_41 => ?_) (fun c_41 => ?_)
              · refine lv_iconst (v := 1) hx hb d_Tk_knownSign_65 (by decide) ?_
                refine lv_goto (tgt := 70) hx hb d_Tk_knownSign_66 (by decide) ?_
                exact W.zret (v := 1) hx hb hr rfl (fun t ht hW => ⟨1, rfl, (by unfold f_Tk_knownSign; rw [if_neg c_1, if_neg c_34, if_pos c_35, if_neg c_36, if_pos c_37, if_neg c_38, if_pos c_41]), ht⟩) (fun q h => by cases h) d_Tk_knownSign_70
              · refine lv_iload_n hx hb d_Tk_knownSign_53 rfl (lv_at hl 0 rfl) ?_
                refine lv_bipush (v := 60) hx hb d_Tk_knownSign_54 (by decide) ?_
                refine lv_icmp_lt (tgt := 69) hx hb d_Tk_knownSign_56 (by decide) (fun c_42 => ?_) (fun c_42 => ?_)
                · refine lv_iconst (v := 0) hx hb d_Tk_knownSign_69 (by decide) ?_
                  exact W.zret (v := 0) hx hb hr rfl (fun t ht hW => ⟨0, rfl, (by unfold f_Tk_knownSign; rw [if_neg c_1, if_neg c_34, if_pos c_35, if_neg c_36, if_pos c_37, if_neg c_38, if_neg c_41, if_pos c_42]), ht⟩) (fun q h => by cases h) d_Tk_knownSign_70
                · refine lv_iload_n hx hb d_Tk_knownSign_59 rfl (lv_at hl 0 rfl) ?_
                  refine lv_bipush (v := 74) hx hb d_Tk_knownSign_60 (by decide) ?_
                  refine lv_icmp_gt (tgt := 69) hx hb d_Tk_knownSign_62 (by decide) (fun c_43 => ?_) (fun c_43 => ?_)
                  · refine lv_iconst (v := 0) hx hb d_Tk_knownSign_69 (by decide) ?_
                    exact W.zret (v := 0) hx hb hr rfl (fun t ht hW => ⟨0, rfl, (by unfold f_Tk_knownSign; rw [if_neg c_1, if_neg c_34, if_pos c_35, if_neg c_36, if_pos c_37, if_neg c_38, if_neg c_41, if_neg c_42, if_pos c_43]), ht⟩) (fun q h => by cases h) d_Tk_knownSign_70
                  · refine lv_iconst (v := 1) hx hb d_Tk_knownSign_65 (by decide) ?_
                    refine lv_goto (tgt := 70) hx hb d_Tk_knownSign_66 (by decide) ?_
                    exact W.zret (v := 1) hx hb hr rfl (fun t ht hW => ⟨1, rfl, (by unfold f_Tk_knownSign; rw [if_neg c_1, if_neg c_34, if_pos c_35, if_neg c_36, if_pos c_37, if_neg c_38, if_neg c_41, if_neg c_42, if_neg c_43]), ht⟩) (fun q h => by cases h) d_Tk_knownSign_70
          · refine lv_iload_n hx hb d_Tk_knownSign_35 rfl (lv_at hl 0 rfl) ?_
            refine lv_bipush (v := 35) hx hb d_Tk_knownSign_36 (by decide) ?_
            refine lv_icmp_le (tgt := 65) hx hb d_Tk_knownSign_38 (by decide) (fun c_44 => ?_) (fun c_44 => ?_)
            · refine lv_iconst (v := 1) hx hb d_Tk_knownSign_65 (by decide) ?_
              refine lv_goto (tgt := 70) hx hb d_Tk_knownSign_66 (by decide) ?_
              exact W.zret (v := 1) hx hb hr rfl (fun t ht hW => ⟨1, rfl, (by unfold f_Tk_knownSign; rw [if_neg c_1, if_neg c_34, if_pos c_35, if_neg c_36, if_neg c_37, if_pos c_44]), ht⟩) (fun q h => by cases h) d_Tk_knownSign_70
            · refine lv_iload_n hx hb d_Tk_knownSign_41 rfl (lv_at hl 0 rfl) ?_
              refine lv_bipush (v := 46) hx hb d_Tk_knownSign_42 (by decide) ?_
              refine lv_icmp_lt (tgt := 53) hx hb d_Tk_knownSign_44 (by decide) (fun c_45 => ?_) (fun c_45 => ?_)
              · refine lv_iload_n hx hb d_Tk_knownSign_53 rfl (lv_at hl 0 rfl) ?_
                refine lv_bipush (v := 60) hx hb d_Tk_knownSign_54 (by decide) ?_
                refine lv_icmp_lt (tgt := 69) hx hb d_Tk_knownSign_56 (by decide) (fun c_46 => ?_) (fun c_46 => ?_)
                · refine lv_iconst (v := 0) hx hb d_Tk_knownSign_69 (by decide) ?_
                  exact W.zret (v := 0) hx hb hr rfl (fun t ht hW => ⟨0, rfl, (by unfold f_Tk_knownSign; rw [if_neg c_1, if_neg c_34, if_pos c_35, if_neg c_36, if_neg c_37, if_neg c_44, if_pos c_45, if_pos c_46]), ht⟩) (fun q h => by cases h) d_Tk_knownSign_70
                · refine lv_iload_n hx hb d_Tk_knownSign_59 rfl (lv_at hl 0 rfl) ?_
                  refine lv_bipush (v := 74) hx hb d_Tk_knownSign_60 (by decide) ?_
                  refine lv_icmp_gt (tgt := 69) hx hb d_Tk_knownSign_62 (by decide) (fun c_47 => ?_) (fun c_47 => ?_)
                  · refine lv_iconst (v := 0) hx hb d_Tk_knownSign_69 (by decide) ?_
                    exact W.zret (v := 0) hx hb hr rfl (fun t ht hW => ⟨0, rfl, (by unfold f_Tk_knownSign; rw [if_neg c_1, if_neg c_34, if_pos c_35, if_neg c_36, if_neg c_37, if_neg c_44, if_pos c_45, if_neg c_46, if_pos c_47]), ht⟩) (fun q h => by cases h) d_Tk_knownSign_70
                  · refine lv_iconst (v := 1) hx hb d_Tk_knownSign_65 (by decide) ?_
                    refine lv_goto (tgt := 70) hx hb d_Tk_knownSign_66 (by decide) ?_
                    exact W.zret (v := 1) hx hb hr rfl (fun t ht hW => ⟨1, rfl, (by unfold f_Tk_knownSign; rw [if_neg c_1, if_neg c_34, if_pos c_35, if_neg c_36, if_neg c_37, if_neg c_44, if_pos c_45, if_neg c_46, if_neg c_47]), ht⟩) (fun q h => by cases h) d_Tk_knownSign_70
              · refine lv_iload_n hx hb d_Tk_knownSign_47 rfl (lv_at hl 0 rfl) ?_
                refine lv_bipush (v := 53) hx hb d_Tk_knownSign_48 (by decide) ?_
                refine lv_icmp_le (tgt := 65) hx hb d_Tk_knownSign_50 (by decide) (fun c_48 => ?_) (fun c_48 => ?_)
                · refine lv_iconst (v := 1) hx hb d_Tk_knownSign_65 (by decide) ?_
                  refine lv_goto (tgt := 70) hx hb d_Tk_knownSign_66 (by decide) ?_
                  exact W.zret (v := 1) hx hb hr rfl (fun t ht hW => ⟨1, rfl, (by unfold f_Tk_knownSign; rw [if_neg c_1, if_neg c_34, if_pos c_35, if_neg c_36, if_neg c_37, if_neg c_44, if_neg c_45, if_pos c_48]), ht⟩) (fun q h => by cases h) d_Tk_knownSign_70
                · refine lv_iload_n hx hb d_Tk_knownSign_53 rfl (lv_at hl 0 rfl) ?_
                  refine lv_bipush (v := 60) hx hb d_Tk_knownSign_54 (by decide) ?_
                  refine lv_icmp_lt (tgt := 69) hx hb d_Tk_knownSign_56 (by decide) (fun c_49 => ?_) (fun c_49 => ?_)
                  · refine lv_iconst (v := 0) hx hb d_Tk_knownSign_69 (by decide) ?_
                    exact W.zret (v := 0) hx hb hr rfl (fun t ht hW => ⟨0, rfl, (by unfold f_Tk_knownSign; rw [if_neg c_1, if_neg c_34, if_pos c_35, if_neg c_36, if_neg c_37, if_neg c_44, if_neg c_45, if_neg c_48, if_pos c_49]), ht⟩) (fun q h => by cases h) d_Tk_knownSign_70
                  · refine lv_iload_n hx hb d_Tk_knownSign_59 rfl (lv_at hl 0 rfl) ?_
                    refine lv_bipush (v := 74) hx hb d_Tk_knownSign_60 (by decide) ?_
                    refine lv_icmp_gt (tgt := 69) hx hb d_Tk_knownSign_62 (by decide) (fun c_50 => ?_) (fun c_50 => ?_)
                    · refine lv_iconst (v := 0) hx hb d_Tk_knownSign_69 (by decide) ?_
                      exact W.zret (v := 0) hx hb hr rfl (fun t ht hW => ⟨0, rfl, (by unfold f_Tk_knownSign; rw [if_neg c_1, if_neg c_34, if_pos c_35, if_neg c_36, if_neg c_37, if_neg c_44, if_neg c_45, if_neg c_48, if_neg c_49, if_pos c_50]), ht⟩) (fun q h => by cases h) d_Tk_knownSign_70
                    · refine lv_iconst (v := 1) hx hb d_Tk_knownSign_65 (by decide) ?_
                      refine lv_goto (tgt := 70) hx hb d_Tk_knownSign_66 (by decide) ?_
                      exact W.zret (v := 1) hx hb hr rfl (fun t ht hW => ⟨1, rfl, (by unfold f_Tk_knownSign; rw [if_neg c_1, if_neg c_34, if_pos c_35, if_neg c_36, if_neg c_37, if_neg c_44, if_neg c_45, if_neg c_48, if_neg c_49, if_neg c_50]), ht⟩) (fun q h => by cases h) d_Tk_knownSign_70
      · refine lv_iload_n hx hb d_Tk_knownSign_17 rfl (lv_at hl 0 rfl) ?_
        refine lv_bipush (v := 23) hx hb d_Tk_knownSign_18 (by decide) ?_
        refine lv_icmp_le (tgt := 65) hx hb d_Tk_knownSign_20 (by decide) (fun c_51 => ?_) (fun c_51 => ?_)
        · refine lv_iconst (v := 1) hx hb d_Tk_knownSign_65 (by decide) ?_
          refine lv_goto (tgt := 70) hx hb d_Tk_knownSign_66 (by decide) ?_
          exact W.zret (v := 1) hx hb hr rfl (fun t ht hW => ⟨1, rfl, (by unfold f_Tk_knownSign; rw [if_neg c_1, if_neg c_34, if_neg c_35, if_pos c_51]), ht⟩) (fun q h => by cases h) d_Tk_knownSign_70
        · refine lv_iload_n hx hb d_Tk_knownSign_23 rfl (lv_at hl 0 rfl) ?_
          refine lv_bipush (v := 30) hx hb d_Tk_knownSign_24 (by decide) ?_
          refine lv_icmp_eq (tgt := 65) hx hb d_Tk_knownSign_26 (by decide) (fun c_52 => ?_) (fun c_52 => ?_)
          · refine lv_iconst (v := 1) hx hb d_Tk_knownSign_65 (by decide) ?_
            refine lv_goto (tgt := 70) hx hb d_Tk_knownSign_66 (by decide) ?_
            exact W.zret (v := 1) hx hb hr rfl (fun t ht hW => ⟨1, rfl, (by unfold f_Tk_knownSign; rw [if_neg c_1, if_neg c_34, if_neg c_35, if_neg c_51, if_pos c_52]), ht⟩) (fun q h => by cases h) d_Tk_knownSign_70
          · refine lv_iload_n hx hb d_Tk_knownSign_29 rfl (lv_at hl 0 rfl) ?_
            refine lv_bipush (v := 33) hx hb d_Tk_knownSign_30 (by decide) ?_
            refine lv_icmp_lt (tgt := 41) hx hb d_Tk_knownSign_32 (by decide) (fun c_53 => ?_) (fun c_53 => ?_)
            · refine lv_iload_n hx hb d_Tk_knownSign_41 rfl (lv_at hl 0 rfl) ?_
              refine lv_bipush (v := 46) hx hb d_Tk_knownSign_42 (by decide) ?_
              refine lv_icmp_lt (tgt := 53) hx hb d_Tk_knownSign_44 (by decide) (fun c_54 => ?_) (fun c_54 => ?_)
              · refine lv_iload_n hx hb d_Tk_knownSign_53 rfl (lv_at hl 0 rfl) ?_
                refine lv_bipush (v := 60) hx hb d_Tk_knownSign_54 (by decide) ?_
                refine lv_icmp_lt (tgt := 69) hx hb d_Tk_knownSign_56 (by decide) (fun c_55 => ?_) (fun c_55 => ?_)
                · refine lv_iconst (v := 0) hx hb d_Tk_knownSign_69 (by decide) ?_
                  exact W.zret (v := 0) hx hb hr rfl (fun t ht hW => ⟨0, rfl, (by unfold f_Tk_knownSign; rw [if_neg c_1, if_neg c_34, if_neg c_35, if_neg c_51, if_neg c_52, if_pos c_53, if_pos c_54, if_pos c_55]), ht⟩) (fun q h => by cases h) d_Tk_knownSign_70
                · refine lv_iload_n hx hb d_Tk_knownSign_59 rfl (lv_at hl 0 rfl) ?_
                  refine lv_bipush (v := 74) hx hb d_Tk_knownSign_60 (by decide) ?_
                  refine lv_icmp_gt (tgt := 69) hx hb d_Tk_knownSign_62 (by decide) (fun c_56 => ?_) (fun c_56 => ?_)
                  · refine lv_iconst (v := 0) hx hb d_Tk_knownSign_69 (by decide) ?_
                    exact W.zret (v := 0) hx hb hr rfl (fun t ht hW => ⟨0, rfl, (by unfold f_Tk_knownSign; rw [if_neg c_1, if_neg c_34, if_neg c_35, if_neg c_51, if_neg c_52, if_pos c_53, if_pos c_54, if_neg c_55, if_pos c_56]), ht⟩) (fun q h => by cases h) d_Tk_knownSign_70
                  · refine lv_iconst (v := 1) hx hb d_Tk_knownSign_65 (by decide) ?_
                    refine lv_goto (tgt := 70) hx hb d_Tk_knownSign_66 (by decide) ?_
                    exact W.zret (v := 1) hx hb hr rfl (fun t ht hW => ⟨1, rfl, (by unfold f_Tk_knownSign; rw [if_neg c_1, if_neg c_34, if_neg c_35, if_neg c_51, if_neg c_52, if_pos c_53, if_pos c_54, if_neg c_55, if_neg c_56]), ht⟩) (fun q h => by cases h) d_Tk_knownSign_70
              · refine lv_iload_n hx hb d_Tk_knownSign_47 rfl (lv_at hl 0 rfl) ?_
                refine lv_bipush (v := 53) hx hb d_Tk_knownSign_48 (by decide) ?_
                refine lv_icmp_le (tgt := 65) hx hb d_Tk_knownSign_50 (by decide) (fun c_57 => ?_) (fun c_57 => ?_)
                · refine lv_iconst (v := 1) hx hb d_Tk_knownSign_65 (by decide) ?_
                  refine lv_goto (tgt := 70) hx hb d_Tk_knownSign_66 (by decide) ?_
                  exact W.zret (v := 1) hx hb hr rfl (fun t ht hW => ⟨1, rfl, (by unfold f_Tk_knownSign; rw [if_neg c_1, if_neg c_34, if_neg c_35, if_neg c_51, if_neg c_52, if_pos c_53, if_neg c_54, if_pos c_57]), ht⟩) (fun q h => by cases h) d_Tk_knownSign_70
                · refine lv_iload_n hx hb d_Tk_knownSign_53 rfl (lv_at hl 0 rfl) ?_
                  refine lv_bipush (v := 60) hx hb d_Tk_knownSign_54 (by decide) ?_
                  refine lv_icmp_lt (tgt := 69) hx hb d_Tk_knownSign_56 (by decide) (fun c_58 => ?_) (fun c_58 => ?_)
                  · refine lv_iconst (v := 0) hx hb d_Tk_knownSign_69 (by decide) ?_
                    exact W.zret (v := 0) hx hb hr rfl (fun t ht hW => ⟨0, rfl, (by unfold f_Tk_knownSign; rw [if_neg c_1, if_neg c_34, if_neg c_35, if_neg c_51, if_neg c_52, if_pos c_53, if_neg c_54, if_neg c_57, if_pos c_58]), ht⟩) (fun q h => by cases h) d_Tk_knownSign_70
                  · refine lv_iload_n hx hb d_Tk_knownSign_59 rfl (lv_at hl 0 rfl) ?_
                    refine lv_bipush (v := 74) hx hb d_Tk_knownSign_60 (by decide) ?_
                    refine lv_icmp_gt (tgt := 69) hx hb d_Tk_knownSign_62 (by decide) (fun c_59 => ?_) (fun c_59 => ?_)
                    · refine lv_iconst (v := 0) hx hb d_Tk_knownSign_69 (by decide) ?_
                      exact W.zret (v := 0) hx hb hr rfl (fun t ht hW => ⟨0, rfl, (by unfold f_Tk_knownSign; rw [if_neg c_1, if_neg c_34, if_neg c_35, if_neg c_51, if_neg c_52, if_pos c_53, if_neg c_54, if_neg c_57, if_neg c_58, if_pos c_59]), ht⟩) (fun q h => by cases h) d_Tk_knownSign_70
                    · refine lv_iconst (v := 1) hx hb d_Tk_knownSign_65 (by decide) ?_
                      refine lv_goto (tgt := 70) hx hb d_Tk_knownSign_66 (by decide) ?_
                      exact W.zret (v := 1) hx hb hr rfl (fun t ht hW => ⟨1, rfl, (by unfold f_Tk_knownSign; rw [if_neg c_1, if_neg c_34, if_neg c_35, if_neg c_51, if_neg c_52, if_pos c_53, if_neg c_54, if_neg c_57, if_neg c_58, if_neg c_59]), ht⟩) (fun q h => by cases h) d_Tk_knownSign_70
            · refine lv_iload_n hx hb d_Tk_knownSign_35 rfl (lv_at hl 0 rfl) ?_
              refine lv_bipush (v := 35) hx hb d_Tk_knownSign_36 (by decide) ?_
              refine lv_icmp_le (tgt := 65) hx hb d_Tk_knownSign_38 (by decide) (fun c_60 => ?_) (fun c_60 => ?_)
              · refine lv_iconst (v := 1) hx hb d_Tk_knownSign_65 (by decide) ?_
                refine lv_goto (tgt := 70) hx hb d_Tk_knownSign_66 (by decide) ?_
                exact W.zret (v := 1) hx hb hr rfl (fun t ht hW => ⟨1, rfl, (by unfold f_Tk_knownSign; rw [if_neg c_1, if_neg c_34, if_neg c_35, if_neg c_51, if_neg c_52, if_neg c_53, if_pos c_60]), ht⟩) (fun q h => by cases h) d_Tk_knownSign_70
              · refine lv_iload_n hx hb d_Tk_knownSign_41 rfl (lv_at hl 0 rfl) ?_
                refine lv_bipush (v := 46) hx hb d_Tk_knownSign_42 (by decide) ?_
                refine lv_icmp_lt (tgt := 53) hx hb d_Tk_knownSign_44 (by decide) (fun c_61 => ?_) (fun c_61 => ?_)
                · refine lv_iload_n hx hb d_Tk_knownSign_53 rfl (lv_at hl 0 rfl) ?_
                  refine lv_bipush (v := 60) hx hb d_Tk_knownSign_54 (by decide) ?_
                  refine lv_icmp_lt (tgt := 69) hx hb d_Tk_knownSign_56 (by decide) (fun c_62 => ?_) (fun c_62 => ?_)
                  · refine lv_iconst (v := 0) hx hb d_Tk_knownSign_69 (by decide) ?_
                    exact W.zret (v := 0) hx hb hr rfl (fun t ht hW => ⟨0, rfl, (by unfold f_Tk_knownSign; rw [if_neg c_1, if_neg c_34, if_neg c_35, if_neg c_51, if_neg c_52, if_neg c_53, if_neg c_60, if_pos c_61, if_pos c_62]), ht⟩) (fun q h => by cases h) d_Tk_knownSign_70
                  · refine lv_iload_n hx hb d_Tk_knownSign_59 rfl (lv_at hl 0 rfl) ?_
                    refine lv_bipush (v := 74) hx hb d_Tk_knownSign_60 (by decide) ?_
                    refine lv_icmp_gt (tgt := 69) hx hb d_Tk_knownSign_62 (by decide) (fun c_63 => ?_) (fun c_63 => ?_)
                    · refine lv_iconst (v := 0) hx hb d_Tk_knownSign_69 (by decide) ?_
                      exact W.zret (v := 0) hx hb hr rfl (fun t ht hW => ⟨0, rfl, (by unfold f_Tk_knownSign; rw [if_neg c_1, if_neg c_34, if_neg c_35, if_neg c_51, if_neg c_52, if_neg c_53, if_neg c_60, if_pos c_61, if_neg c_62, if_pos c_63]), ht⟩) (fun q h => by cases h) d_Tk_knownSign_70
                    · refine lv_iconst (v := 1) hx hb d_Tk_knownSign_65 (by decide) ?_
                      refine lv_goto (tgt := 70) hx hb d_Tk_knownSign_66 (by decide) ?_
                      exact W.zret (v := 1) hx hb hr rfl (fun t ht hW => ⟨1, rfl, (by unfold f_Tk_knownSign; rw [if_neg c_1, if_neg c_34, if_neg c_35, if_neg c_51, if_neg c_52, if_neg c_53, if_neg c_60, if_pos c_61, if_neg c_62, if_neg c_63]), ht⟩) (fun q h => by cases h) d_Tk_knownSign_70
                · refine lv_iload_n hx hb d_Tk_knownSign_47 rfl (lv_at hl 0 rfl) ?_
                  refine lv_bipush (v := 53) hx hb d_Tk_knownSign_48 (by decide) ?_
                  refine lv_icmp_le (tgt := 65) hx hb d_Tk_knownSign_50 (by decide) (fun c_64 => ?_) (fun c_64 => ?_)
                  · refine lv_iconst (v := 1) hx hb d_Tk_knownSign_65 (by decide) ?_
                    refine lv_goto (tgt := 70) hx hb d_Tk_knownSign_66 (by decide) ?_
                    exact W.zret (v := 1) hx hb hr rfl (fun t ht hW => ⟨1, rfl, (by unfold f_Tk_knownSign; rw [if_neg c_1, if_neg c_34, if_neg c_35, if_neg c_51, if_neg c_52, if_neg c_53, if_neg c_60, if_neg c_61, if_pos c_64]), ht⟩) (fun q h => by cases h) d_Tk_knownSign_70
                  · refine lv_iload_n hx hb d_Tk_knownSign_53 rfl (lv_at hl 0 rfl) ?_
                    refine lv_bipush (v := 60) hx hb d_Tk_knownSign_54 (by decide) ?_
                    refine lv_icmp_lt (tgt := 69) hx hb d_Tk_knownSign_56 (by decide) (fun c_65 => ?_) (fun c_65 => ?_)
                    · refine lv_iconst (v := 0) hx hb d_Tk_knownSign_69 (by decide) ?_
                      exact W.zret (v := 0) hx hb hr rfl (fun t ht hW => ⟨0, rfl, (by unfold f_Tk_knownSign; rw [if_neg c_1, if_neg c_34, if_neg c_35, if_neg c_51, if_neg c_52, if_neg c_53, if_neg c_60, if_neg c_61, if_neg c_64, if_pos c_65]), ht⟩) (fun q h => by cases h) d_Tk_knownSign_70
                    · refine lv_iload_n hx hb d_Tk_knownSign_59 rfl (lv_at hl 0 rfl) ?_
                      refine lv_bipush (v := 74) hx hb d_Tk_knownSign_60 (by decide) ?_
                      refine lv_icmp_gt (tgt := 69) hx hb d_Tk_knownSign_62 (by decide) (fun c_66 => ?_) (fun c_66 => ?_)
                      · refine lv_iconst (v := 0) hx hb d_Tk_knownSign_69 (by decide) ?_
                        exact W.zret (v := 0) hx hb hr rfl (fun t ht hW => ⟨0, rfl, (by unfold f_Tk_knownSign; rw [if_neg c_1, if_neg c_34, if_neg c_35, if_neg c_51, if_neg c_52, if_neg c_53, if_neg c_60, if_neg c_61, if_neg c_64, if_neg c_65, if_pos c_66]), ht⟩) (fun q h => by cases h) d_Tk_knownSign_70
                      · refine lv_iconst (v := 1) hx hb d_Tk_knownSign_65 (by decide) ?_
                        refine lv_goto (tgt := 70) hx hb d_Tk_knownSign_66 (by decide) ?_
                        exact W.zret (v := 1) hx hb hr rfl (fun t ht hW => ⟨1, rfl, (by unfold f_Tk_knownSign; rw [if_neg c_1, if_neg c_34, if_neg c_35, if_neg c_51, if_neg c_52, if_neg c_53, if_neg c_60, if_neg c_61, if_neg c_64, if_neg c_65, if_neg c_66]), ht⟩) (fun q h => by cases h) d_Tk_knownSign_70
def f_Tk_known (kind : Int32) (word : Int32) (name : Int32) : Int32 := (if kind = 1 then (if (f_Tk_knownWord word) = 0 then 0 else (if (f_Tk_knownName name) = 0 then 0 else 1)) else (if kind = 2 then (f_Tk_knownName name) else (if kind = 3 then (if word = 0 then (if (f_Tk_knownName name) = 0 then 0 else 1) else (if word = 1 then (if (f_Tk_knownName name) = 0 then 0 else 1) else 0)) else (if kind = 4 then (f_Tk_knownSign word) else (if kind = 5 then 1 else 0)))))
theorem f_Tk_known_b {kind : Int32} {word : Int32} {name : Int32} : f_Tk_known kind word name = 0 ∨ f_Tk_known kind word name = 1 := by
  unfold f_Tk_known
  repeat' split
  all_goals first | exact Or.inl rfl | exact Or.inr rfl | exact f_Tk_knownName_b | exact f_Tk_knownSign_b | exact f_Tk_knownWord_b
set_option maxRecDepth 100000 in
set_option maxHeartbeats 4000000 in
theorem m_Tk_known (l : Launch) (dC : Nat → ClassId) (dI : Nat → Nat → Nat) (cI cZ : ClassId) (kind : Int32) (word : Int32) (name : Int32) : cRd l y_Tk_known c_Tk_known 3 .boolean 1 20 (dC, dI) (ty2 cI cZ) [.int kind, .int word, .int name] [] (f_Tk_known kind word name) := by
  refine Met.ofW (cc := c_Tk_known) (maxL := 3) (ret := some .boolean) (by decide) rfl ?_
  intro p e s m args below meth c s₁ B hml hv
  obtain ⟨rfl, hP, hK⟩ := hv
  have hx := B.exec
  have hb := B.bytes
  have hr := B.returns
  have hts0 := atoms_spec (ws := wy y_Tk_known c_Tk_known 3 (some .boolean)) B.pre
  have hts := htsL hts0
  have hown : s.vm.findClass R_Tk = some m.cls := findClass_of_methodNamed B.named
  have hlocks := B.notSynchronized
  have hl := lv_entry ([.int kind, .int word, .int name]) (n := 3) (Nat.le_of_ble_eq_true rfl)
  rw [lg_entry_eq]
  generalize (lg_sl ([.int kind, .int word, .int name]) ++ List.replicate (3 - (lg_sl ([.int kind, .int word, .int name])).length) Slot.unset).toArray = ls at hl ⊢
  have hl : lv_has ls 3 [(0, .int kind), (1, .int word), (2, .int name)] := hl
  refine lv_iload_n hx hb d_Tk_known_0 rfl (lv_at hl 0 rfl) ?_
  refine sw_tab hx hb [(1, 32), (2, 52), (3, 57), (4, 79)] 84 d_Tk_known_1 (by decide +kernel) (by decide) (by decide +kernel) ?_
  refine ⟨fun c_1 => ?_, fun c_1 => ?_⟩
  · refine lv_iload_n hx hb d_Tk_known_32 rfl (lv_at hl 1 rfl) ?_
    refine rd_S (v := (f_Tk_knownWord word)) (As := [.int word]) (rest := []) ⟨hx, hb, hml, hown, hts0⟩ (m_Tk_knownWord l dC dI cI cZ  word) hP hK [] rfl [0, 1] rfl L_267 L_268 L_84 L_269 k_Tk_knownWord ⟨Nat.le_of_ble_eq_true rfl, Nat.le_of_ble_eq_true rfl⟩ hl.1 ⟨Nat.zero_le _, Nat.zero_le _⟩ (Nat.le_of_ble_eq_true rfl) d_Tk_known_33 rfl ?_
    refine lv_if_eq (tgt := 50) hx hb d_Tk_known_36 (by decide) (fun c_2 => ?_) (fun c_2 => ?_)
    · refine lv_iconst (v := 0) hx hb d_Tk_known_50 (by decide) ?_
      exact W.zret (v := 0) hx hb hr rfl (fun t ht hW => ⟨0, rfl, (by unfold f_Tk_known; rw [if_pos c_1, if_pos c_2]), ht⟩) (fun q h => by cases h) d_Tk_known_51
    · refine lv_iload_n hx hb d_Tk_known_39 rfl (lv_at hl 2 rfl) ?_
      refine rd_S (v := (f_Tk_knownName name)) (As := [.int name]) (rest := []) ⟨hx, hb, hml, hown, hts0⟩ (m_Tk_knownName l dC dI cI cZ  name) hP hK [] rfl [0, 1] rfl L_270 L_271 L_84 L_272 k_Tk_knownName ⟨Nat.le_of_ble_eq_true rfl, Nat.le_of_ble_eq_true rfl⟩ hl.1 ⟨Nat.zero_le _, Nat.zero_le _⟩ (Nat.le_of_ble_eq_true rfl) d_Tk_known_40 rfl ?_
      refine lv_if_eq (tgt := 50) hx hb d_Tk_known_43 (by decide) (fun c_3 => ?_) (fun c_3 => ?_)
      · refine lv_iconst (v := 0) hx hb d_Tk_known_50 (by decide) ?_
        exact W.zret (v := 0) hx hb hr rfl (fun t ht hW => ⟨0, rfl, (by unfold f_Tk_known; rw [if_pos c_1, if_neg c_2, if_pos c_3]), ht⟩) (fun q h => by cases h) d_Tk_known_51
      · refine lv_iconst (v := 1) hx hb d_Tk_known_46 (by decide) ?_
        refine lv_goto (tgt := 51) hx hb d_Tk_known_47 (by decide) ?_
        exact W.zret (v := 1) hx hb hr rfl (fun t ht hW => ⟨1, rfl, (by unfold f_Tk_known; rw [if_pos c_1, if_neg c_2, if_neg c_3]), ht⟩) (fun q h => by cases h) d_Tk_known_51
  · refine ⟨fun c_4 => ?_, fun c_4 => ?_⟩
    · refine lv_iload_n hx hb d_Tk_known_52 rfl (lv_at hl 2 rfl) ?_
      refine rd_S (v := (f_Tk_knownName name)) (As := [.int name]) (rest := []) ⟨hx, hb, hml, hown, hts0⟩ (m_Tk_knownName l dC dI cI cZ  name) hP hK [] rfl [0, 1] rfl L_270 L_271 L_84 L_272 k_Tk_knownName ⟨Nat.le_of_ble_eq_true rfl, Nat.le_of_ble_eq_true rfl⟩ hl.1 ⟨Nat.zero_le _, Nat.zero_le _⟩ (Nat.le_of_ble_eq_true rfl) d_Tk_known_53 rfl ?_
      exact W.zret (v := (f_Tk_knownName name)) hx hb hr (nB f_Tk_knownName_b) (fun t ht hW => ⟨(f_Tk_knownName name), rfl, (by unfold f_Tk_known; rw [if_neg c_1, if_pos c_4]), ht⟩) (fun q h => by cases h) d_Tk_known_56
    · refine ⟨fun c_5 => ?_, fun c_5 => ?_⟩
      · refine lv_iload_n hx hb d_Tk_known_57 rfl (lv_at hl 1 rfl) ?_
        refine lv_if_eq (tgt := 66) hx hb d_Tk_known_58 (by decide) (fun c_6 => ?_) (fun c_6 => ?_)
        · refine lv_iload_n hx hb d_Tk_known_66 rfl (lv_at hl 2 rfl) ?_
          refine rd_S (v := (f_Tk_knownName name)) (As := [.int name]) (rest := []) ⟨hx, hb, hml, hown, hts0⟩ (m_Tk_knownName l dC dI cI cZ  name) hP hK [] rfl [0, 1] rfl L_270 L_271 L_84 L_272 k_Tk_knownName ⟨Nat.le_of_ble_eq_true rfl, Nat.le_of_ble_eq_true rfl⟩ hl.1 ⟨Nat.zero_le _, Nat.zero_le _⟩ (Nat.le_of_ble_eq_true rfl) d_Tk_known_67 rfl ?_
          refine lv_if_eq (tgt := 77) hx hb d_Tk_known_70 (by decide) (fun c_7 => ?_) (fun c_7 => ?_)
          · refine lv_iconst (v := 0) hx hb d_Tk_known_77 (by decide) ?_
            exact W.zret (v := 0) hx hb hr rfl (fun t ht hW => ⟨0, rfl, (by unfold f_Tk_known; rw [if_neg c_1, if_neg c_4, if_pos c_5, if_pos c_6, if_pos c_7]), ht⟩) (fun q h => by cases h) d_Tk_known_78
          · refine lv_iconst (v := 1) hx hb d_Tk_known_73 (by decide) ?_
            refine lv_goto (tgt := 78) hx hb d_Tk_known_74 (by decide) ?_
            exact W.zret (v := 1) hx hb hr rfl (fun t ht hW => ⟨1, rfl, (by unfold f_Tk_known; rw [if_neg c_1, if_neg c_4, if_pos c_5, if_pos c_6, if_neg c_7]), ht⟩) (fun q h => by cases h) d_Tk_known_78
        · refine lv_iload_n hx hb d_Tk_known_61 rfl (lv_at hl 1 rfl) ?_
          refine lv_iconst (v := 1) hx hb d_Tk_known_62 (by decide) ?_
          refine lv_icmp_ne (tgt := 77) hx hb d_Tk_known_63 (by decide) (fun c_8 => ?_) (fun c_8 => ?_)
          · refine lv_iconst (v := 0) hx hb d_Tk_known_77 (by decide) ?_
            exact W.zret (v := 0) hx hb hr rfl (fun t ht hW => ⟨0, rfl, (by unfold f_Tk_known; rw [if_neg c_1, if_neg c_4, if_pos c_5, if_neg c_6, if_neg c_8]), ht⟩) (fun q h => by cases h) d_Tk_known_78
          · refine lv_iload_n hx hb d_Tk_known_66 rfl (lv_at hl 2 rfl) ?_
            refine rd_S (v := (f_Tk_knownName name)) (As := [.int name]) (rest := []) ⟨hx, hb, hml, hown, hts0⟩ (m_Tk_knownName l dC dI cI cZ  name) hP hK [] rfl [0, 1] rfl L_270 L_271 L_84 L_272 k_Tk_knownName ⟨Nat.le_of_ble_eq_true rfl, Nat.le_of_ble_eq_true rfl⟩ hl.1 ⟨Nat.zero_le _, Nat.zero_le _⟩ (Nat.le_of_ble_eq_true rfl) d_Tk_known_67 rfl ?_
            refine lv_if_eq (tgt := 77) hx hb d_Tk_known_70 (by decide) (fun c_9 => ?_) (fun c_9 => ?_)
            · refine lv_iconst (v := 0) hx hb d_Tk_known_77 (by decide) ?_
              exact W.zret (v := 0) hx hb hr rfl (fun t ht hW => ⟨0, rfl, (by unfold f_Tk_known; rw [if_neg c_1, if_neg c_4, if_pos c_5, if_neg c_6, if_pos c_8, if_pos c_9]), ht⟩) (fun q h => by cases h) d_Tk_known_78
            · refine lv_iconst (v := 1) hx hb d_Tk_known_73 (by decide) ?_
              refine lv_goto (tgt := 78) hx hb d_Tk_known_74 (by decide) ?_
              exact W.zret (v := 1) hx hb hr rfl (fun t ht hW => ⟨1, rfl, (by unfold f_Tk_known; rw [if_neg c_1, if_neg c_4, if_pos c_5, if_neg c_6, if_pos c_8, if_neg c_9]), ht⟩) (fun q h => by cases h) d_Tk_known_78
      · refine ⟨fun c_10 => ?_, fun c_10 => ?_⟩
        · refine lv_iload_n hx hb d_Tk_known_79 rfl (lv_at hl 1 rfl) ?_
          refine rd_S (v := (f_Tk_knownSign word)) (As := [.int word]) (rest := []) ⟨hx, hb, hml, hown, hts0⟩ (m_Tk_knownSign l dC dI cI cZ  word) hP hK [] rfl [0, 1] rfl L_273 L_274 L_84 L_275 k_Tk_knownSign ⟨Nat.le_of_ble_eq_true rfl, Nat.le_of_ble_eq_true rfl⟩ hl.1 ⟨Nat.zero_le _, Nat.zero_le _⟩ (Nat.le_of_ble_eq_true rfl) d_Tk_known_80 rfl ?_
          exact W.zret (v := (f_Tk_knownSign word)) hx hb hr (nB f_Tk_knownSign_b) (fun t ht hW => ⟨(f_Tk_knownSign word), rfl, (by unfold f_Tk_known; rw [if_neg c_1, if_neg c_4, if_neg c_5, if_pos c_10]), ht⟩) (fun q h => by cases h) d_Tk_known_83
        · refine lv_iload_n hx hb d_Tk_known_84 rfl (lv_at hl 0 rfl) ?_
          refine lv_iconst (v := 5) hx hb d_Tk_known_85 (by decide) ?_
          refine lv_icmp_ne (tgt := 93) hx hb d_Tk_known_86 (by decide) (fun c_11 => ?_) (fun c_11 => ?_)
          · refine lv_iconst (v := 0) hx hb d_Tk_known_93 (by decide) ?_
            exact W.zret (v := 0) hx hb hr rfl (fun t ht hW => ⟨0, rfl, (by unfold f_Tk_known; rw [if_neg c_1, if_neg c_4, if_neg c_5, if_neg c_10, if_neg c_11]), ht⟩) (fun q h => by cases h) d_Tk_known_94
          · refine lv_iconst (v := 1) hx hb d_Tk_known_89 (by decide) ?_
            refine lv_goto (tgt := 94) hx hb d_Tk_known_90 (by decide) ?_
            exact W.zret (v := 1) hx hb hr rfl (fun t ht hW => ⟨1, rfl, (by unfold f_Tk_known; rw [if_neg c_1, if_neg c_4, if_neg c_5, if_neg c_10, if_pos c_11]), ht⟩) (fun q h => by cases h) d_Tk_known_94
def f_Tk_evalOrArguments (name : Int32) : Int32 := (if name = 0 then 1 else (if name = 1 then 1 else 0))
theorem f_Tk_evalOrArguments_b {name : Int32} : f_Tk_evalOrArguments name = 0 ∨ f_Tk_evalOrArguments name = 1 := by
  unfold f_Tk_evalOrArguments
  repeat' split
  all_goals first | exact Or.inl rfl | exact Or.inr rfl | exact Or.inl rfl
set_option maxRecDepth 100000 in
set_option maxHeartbeats 4000000 in
theorem m_Tk_evalOrArguments (l : Launch) (dC : Nat → ClassId) (dI : Nat → Nat → Nat) (cI cZ : ClassId) (name : Int32) : cRd l y_Tk_evalOrArguments c_Tk_evalOrArguments 1 .boolean 0 0 (dC, dI) (ty2 cI cZ) [.int name] [] (f_Tk_evalOrArguments name) := by
  refine Met.ofW (cc := c_Tk_evalOrArguments) (maxL := 1) (ret := some .boolean) (by decide) rfl ?_
  intro p e s m args below meth c s₁ B hml hv
  obtain ⟨rfl, hP, hK⟩ := hv
  have hx := B.exec
  have hb := B.bytes
  have hr := B.returns
  have hts0 := atoms_spec (ws := wy y_Tk_evalOrArguments c_Tk_evalOrArguments 1 (some .boolean)) B.pre
  have hts := htsL hts0
  have hown : s.vm.findClass R_Tk = some m.cls := findClass_of_methodNamed B.named
  have hlocks := B.notSynchronized
  have hl := lv_entry ([.int name]) (n := 1) (Nat.le_of_ble_eq_true rfl)
  rw [lg_entry_eq]
  generalize (lg_sl ([.int name]) ++ List.replicate (1 - (lg_sl ([.int name])).length) Slot.unset).toArray = ls at hl ⊢
  have hl : lv_has ls 1 [(0, .int name)] := hl
  refine lv_iload_n hx hb d_Tk_evalOrArguments_0 rfl (lv_at hl 0 rfl) ?_
  refine lv_if_eq (tgt := 9) hx hb d_Tk_evalOrArguments_1 (by decide) (fun c_1 => ?_) (fun c_1 => ?_)
  · refine lv_iconst (v := 1) hx hb d_Tk_evalOrArguments_9 (by decide) ?_
    refine lv_goto (tgt := 14) hx hb d_Tk_evalOrArguments_10 (by decide) ?_
    exact W.zret (v := 1) hx hb hr rfl (fun t ht hW => ⟨1, rfl, (by unfold f_Tk_evalOrArguments; rw [if_pos c_1]), ht⟩) (fun q h => by cases h) d_Tk_evalOrArguments_14
  · refine lv_iload_n hx hb d_Tk_evalOrArguments_4 rfl (lv_at hl 0 rfl) ?_
    refine lv_iconst (v := 1) hx hb d_Tk_evalOrArguments_5 (by decide) ?_
    refine lv_icmp_ne (tgt := 13) hx hb d_Tk_evalOrArguments_6 (by decide) (fun c_2 => ?_) (fun c_2 => ?_)
    · refine lv_iconst (v := 0) hx hb d_Tk_evalOrArguments_13 (by decide) ?_
      exact W.zret (v := 0) hx hb hr rfl (fun t ht hW => ⟨0, rfl, (by unfold f_Tk_evalOrArguments; rw [if_neg c_1, if_neg c_2]), ht⟩) (fun q h => by cases h) d_Tk_evalOrArguments_14
    · refine lv_iconst (v := 1) hx hb d_Tk_evalOrArguments_9 (by decide) ?_
      refine lv_goto (tgt := 14) hx hb d_Tk_evalOrArguments_10 (by decide) ?_
      exact W.zret (v := 1) hx hb hr rfl (fun t ht hW => ⟨1, rfl, (by unfold f_Tk_evalOrArguments; rw [if_neg c_1, if_pos c_2]), ht⟩) (fun q h => by cases h) d_Tk_evalOrArguments_14
def f_Tk_count (tk : TK) : Int32 := (nI (tkn tk))
set_option maxRecDepth 100000 in
set_option maxHeartbeats 4000000 in
theorem m_Tk_count (l : Launch) (dC : Nat → ClassId) (dI : Nat → Nat → Nat) (cI cZ : ClassId) (h a1 a2 a3 a4 : Nat) (tk : TK) (htk : okTk tk)  : cRd l y_Tk_count c_Tk_count 1 .int 0 0 (dC, dI) (ty2 cI cZ) [.ref h] (wTk cI h a1 a2 a3 a4 tk) (f_Tk_count tk) := by
  refine Met.ofW (cc := c_Tk_count) (maxL := 1) (ret := some .int) (by decide) rfl ?_
  intro p e s m args below meth c s₁ B hml hv
  obtain ⟨rfl, hP, hK⟩ := hv
  have hx := B.exec
  have hb := B.bytes
  have hr := B.returns
  have hts0 := atoms_spec (ws := wy y_Tk_count c_Tk_count 1 (some .int)) B.pre
  have hts := htsL hts0
  have hown : s.vm.findClass R_Tk = some m.cls := findClass_of_methodNamed B.named
  have hlocks := B.notSynchronized
  have hl := lv_entry ([.ref h]) (n := 1) (Nat.le_of_ble_eq_true rfl)
  rw [lg_entry_eq]
  generalize (lg_sl ([.ref h]) ++ List.replicate (1 - (lg_sl ([.ref h])).length) Slot.unset).toArray = ls at hl ⊢
  have hl : lv_has ls 1 [(0, .ref h)] := hl
  refine lv_aload_n hx hb d_Tk_count_0 rfl (lv_at hl 0 rfl) ?_
  refine va_get (D := (dC, dI)) (ci := 3) (v := .int (nI (tkn tk))) (C := R_Tk) (T := T_Tk) (N := 5) hx hb hts u_Tk hown hK hP 0 rfl rfl 4 (by decide) (hts _ L_119) (fun _ h9 => h9) rfl d_Tk_count_1 ?_
  exact W.iret (v := nI (tkn tk)) hx hb hr (fun t ht hW => ⟨nI (tkn tk), rfl, rfl, ht⟩) (fun q h => by cases h) d_Tk_count_4
def f_Tk_kind (tk : TK) (i : Int32) : Int32 := (if i < 0 then 0 else (if nI (tkn tk) ≤ i then 0 else (tkK tk (i : Int32).toNatClampNeg)))
set_option maxRecDepth 100000 in
set_option maxHeartbeats 4000000 in
theorem m_Tk_kind (l : Launch) (dC : Nat → ClassId) (dI : Nat → Nat → Nat) (cI cZ : ClassId) (h a1 a2 a3 a4 : Nat) (tk : TK) (htk : okTk tk) (i : Int32) : cRd l y_Tk_kind c_Tk_kind 2 .int 0 0 (dC, dI) (ty2 cI cZ) [.ref h, .int i] (wTk cI h a1 a2 a3 a4 tk) (f_Tk_kind tk i) := by
  refine Met.ofW (cc := c_Tk_kind) (maxL := 2) (ret := some .int) (by decide) rfl ?_
  intro p e s m args below meth c s₁ B hml hv
  obtain ⟨rfl, hP, hK⟩ := hv
  have hx := B.exec
  have hb := B.bytes
  have hr := B.returns
  have hts0 := atoms_spec (ws := wy y_Tk_kind c_Tk_kind 2 (some .int)) B.pre
  have hts := htsL hts0
  have hown : s.vm.findClass R_Tk = some m.cls := findClass_of_methodNamed B.named
  have hlocks := B.notSynchronized
  have hl := lv_entry ([.ref h, .int i]) (n := 2) (Nat.le_of_ble_eq_true rfl)
  rw [lg_entry_eq]
  generalize (lg_sl ([.ref h, .int i]) ++ List.replicate (2 - (lg_sl ([.ref h, .int i])).length) Slot.unset).toArray = ls at hl ⊢
  have hl : lv_has ls 2 [(0, .ref h), (1, .int i)] := hl
  refine lv_iload_n hx hb d_Tk_kind_0 rfl (lv_at hl 1 rfl) ?_
  refine lv_if_lt (tgt := 21) hx hb d_Tk_kind_1 (by decide) (fun c_1 => ?_) (fun c_1 => ?_)
  · refine lv_iconst (v := 0) hx hb d_Tk_kind_21 (by decide) ?_
    exact W.iret (v := 0) hx hb hr (fun t ht hW => ⟨0, rfl, (by unfold f_Tk_kind; rw [if_pos c_1]), ht⟩) (fun q h => by cases h) d_Tk_kind_22
  · refine lv_iload_n hx hb d_Tk_kind_4 rfl (lv_at hl 1 rfl) ?_
    refine lv_aload_n hx hb d_Tk_kind_5 rfl (lv_at hl 0 rfl) ?_
    refine va_get (D := (dC, dI)) (ci := 3) (v := .int (nI (tkn tk))) (C := R_Tk) (T := T_Tk) (N := 5) hx hb hts u_Tk hown hK hP 0 rfl rfl 4 (by decide) (hts _ L_119) (fun _ h9 => h9) rfl d_Tk_kind_6 ?_
    refine lv_icmp_ge (tgt := 21) hx hb d_Tk_kind_9 (by decide) (fun c_2 => ?_) (fun c_2 => ?_)
    · refine lv_iconst (v := 0) hx hb d_Tk_kind_21 (by decide) ?_
      exact W.iret (v := 0) hx hb hr (fun t ht hW => ⟨0, rfl, (by unfold f_Tk_kind; rw [if_neg c_1, if_pos c_2]), ht⟩) (fun q h => by cases h) d_Tk_kind_22
    · refine lv_aload_n hx hb d_Tk_kind_12 rfl (lv_at hl 0 rfl) ?_
      refine va_get (D := (dC, dI)) (ci := 3) (v := .ref a1) (C := R_Tk) (T := T_Tk) (N := 5) hx hb hts u_Tk hown hK hP 0 rfl rfl 0 (by decide) (hts _ L_115) (fun _ h9 => h9) rfl d_Tk_kind_13 ?_
      refine lv_iload_n hx hb d_Tk_kind_16 rfl (lv_at hl 1 rfl) ?_
      refine va_iald (D := (dC, dI)) hx hb hK hP 1 0 rfl rfl (ix_in c_1 c_2 htk.1 htk.2.1) d_Tk_kind_17 ?_
      refine lv_goto (tgt := 22) hx hb d_Tk_kind_18 (by decide) ?_
      exact W.iret (v := (tkK tk (i : Int32).toNatClampNeg)) hx hb hr (fun t ht hW => ⟨(tkK tk (i : Int32).toNatClampNeg), rfl, (by unfold f_Tk_kind; rw [if_neg c_1, if_neg c_2]), ht⟩) (fun q h => by cases h) d_Tk_kind_22
def f_Tk_name (tk : TK) (i : Int32) : Int32 := (if i < 0 then (-1) else (if nI (tkn tk) ≤ i then (-1) else (tkN tk (i : Int32).toNatClampNeg)))
set_option maxRecDepth 100000 in
set_option maxHeartbeats 4000000 in
theorem m_Tk_name (l : Launch) (dC : Nat → ClassId) (dI : Nat → Nat → Nat) (cI cZ : ClassId) (h a1 a2 a3 a4 : Nat) (tk : TK) (htk : okTk tk) (i : Int32) : cRd l y_Tk_name c_Tk_name 2 .int 0 0 (dC, dI) (ty2 cI cZ) [.ref h, .int i] (wTk cI h a1 a2 a3 a4 tk) (f_Tk_name tk i) := by
  refine Met.ofW (cc := c_Tk_name) (maxL := 2) (ret := some .int) (by decide) rfl ?_
  intro p e s m args below meth c s₁ B hml hv
  obtain ⟨rfl, hP, hK⟩ := hv
  have hx := B.exec
  have hb := B.bytes
  have hr := B.returns
  have hts0 := atoms_spec (ws := wy y_Tk_name c_Tk_name 2 (some .int)) B.pre
  have hts := htsL hts0
  have hown : s.vm.findClass R_Tk = some m.cls := findClass_of_methodNamed B.named
  have hlocks := B.notSynchronized
  have hl := lv_entry ([.ref h, .int i]) (n := 2) (Nat.le_of_ble_eq_true rfl)
  rw [lg_entry_eq]
  generalize (lg_sl ([.ref h, .int i]) ++ List.replicate (2 - (lg_sl ([.ref h, .int i])).length) Slot.unset).toArray = ls at hl ⊢
  have hl : lv_has ls 2 [(0, .ref h), (1, .int i)] := hl
  refine lv_iload_n hx hb d_Tk_name_0 rfl (lv_at hl 1 rfl) ?_
  refine lv_if_lt (tgt := 21) hx hb d_Tk_name_1 (by decide) (fun c_1 => ?_) (fun c_1 => ?_)
  · refine lv_iconst (v := (-1)) hx hb d_Tk_name_21 (by decide) ?_
    exact W.iret (v := (-1)) hx hb hr (fun t ht hW => ⟨(-1), rfl, (by unfold f_Tk_name; rw [if_pos c_1]), ht⟩) (fun q h => by cases h) d_Tk_name_22
  · refine lv_iload_n hx hb d_Tk_name_4 rfl (lv_at hl 1 rfl) ?_
    refine lv_aload_n hx hb d_Tk_name_5 rfl (lv_at hl 0 rfl) ?_
    refine va_get (D := (dC, dI)) (ci := 3) (v := .int (nI (tkn tk))) (C := R_Tk) (T := T_Tk) (N := 5) hx hb hts u_Tk hown hK hP 0 rfl rfl 4 (by decide) (hts _ L_119) (fun _ h9 => h9) rfl d_Tk_name_6 ?_
    refine lv_icmp_ge (tgt := 21) hx hb d_Tk_name_9 (by decide) (fun c_2 => ?_) (fun c_2 => ?_)
    · refine lv_iconst (v := (-1)) hx hb d_Tk_name_21 (by decide) ?_
      exact W.iret (v := (-1)) hx hb hr (fun t ht hW => ⟨(-1), rfl, (by unfold f_Tk_name; rw [if_neg c_1, if_pos c_2]), ht⟩) (fun q h => by cases h) d_Tk_name_22
    · refine lv_aload_n hx hb d_Tk_name_12 rfl (lv_at hl 0 rfl) ?_
      refine va_get (D := (dC, dI)) (ci := 3) (v := .ref a3) (C := R_Tk) (T := T_Tk) (N := 5) hx hb hts u_Tk hown hK hP 0 rfl rfl 2 (by decide) (hts _ L_117) (fun _ h9 => h9) rfl d_Tk_name_13 ?_
      refine lv_iload_n hx hb d_Tk_name_16 rfl (lv_at hl 1 rfl) ?_
      refine va_iald (D := (dC, dI)) hx hb hK hP 3 0 rfl rfl (ix_in c_1 c_2 htk.1 htk.2.1) d_Tk_name_17 ?_
      refine lv_goto (tgt := 22) hx hb d_Tk_name_18 (by decide) ?_
      exact W.iret (v := (tkN tk (i : Int32).toNatClampNeg)) hx hb hr (fun t ht hW => ⟨(tkN tk (i : Int32).toNatClampNeg), rfl, (by unfold f_Tk_name; rw [if_neg c_1, if_neg c_2]), ht⟩) (fun q h => by cases h) d_Tk_name_22
def f_Tk_line (tk : TK) (i : Int32) : Int32 := (if i < 0 then 0 else (if nI (tkn tk) ≤ i then 0 else (if (tkL tk (i : Int32).toNatClampNeg) = 1 then 1 else 0)))
theorem f_Tk_line_b {tk : TK} {i : Int32} : f_Tk_line tk i = 0 ∨ f_Tk_line tk i = 1 := by
  unfold f_Tk_line
  repeat' split
  all_goals first | exact Or.inl rfl | exact Or.inr rfl | exact Or.inl rfl
set_option maxRecDepth 100000 in
set_option maxHeartbeats 4000000 in
theorem m_Tk_line (l : Launch) (dC : Nat → ClassId) (dI : Nat → Nat → Nat) (cI cZ : ClassId) (h a1 a2 a3 a4 : Nat) (tk : TK) (htk : okTk tk) (i : Int32) : cRd l y_Tk_line c_Tk_line 2 .boolean 0 0 (dC, dI) (ty2 cI cZ) [.ref h, .int i] (wTk cI h a1 a2 a3 a4 tk) (f_Tk_line tk i) := by
  refine Met.ofW (cc := c_Tk_line) (maxL := 2) (ret := some .boolean) (by decide) rfl ?_
  intro p e s m args below meth c s₁ B hml hv
  obtain ⟨rfl, hP, hK⟩ := hv
  have hx := B.exec
  have hb := B.bytes
  have hr := B.returns
  have hts0 := atoms_spec (ws := wy y_Tk_line c_Tk_line 2 (some .boolean)) B.pre
  have hts := htsL hts0
  have hown : s.vm.findClass R_Tk = some m.cls := findClass_of_methodNamed B.named
  have hlocks := B.notSynchronized
  have hl := lv_entry ([.ref h, .int i]) (n := 2) (Nat.le_of_ble_eq_true rfl)
  rw [lg_entry_eq]
  generalize (lg_sl ([.ref h, .int i]) ++ List.replicate (2 - (lg_sl ([.ref h, .int i])).length) Slot.unset).toArray = ls at hl ⊢
  have hl : lv_has ls 2 [(0, .ref h), (1, .int i)] := hl
  refine lv_iload_n hx hb d_Tk_line_0 rfl (lv_at hl 1 rfl) ?_
  refine lv_if_lt (tgt := 26) hx hb d_Tk_line_1 (by decide) (fun c_1 => ?_) (fun c_1 => ?_)
  · refine lv_iconst (v := 0) hx hb d_Tk_line_26 (by decide) ?_
    exact W.zret (v := 0) hx hb hr rfl (fun t ht hW => ⟨0, rfl, (by unfold f_Tk_line; rw [if_pos c_1]), ht⟩) (fun q h => by cases h) d_Tk_line_27
  · refine lv_iload_n hx hb d_Tk_line_4 rfl (lv_at hl 1 rfl) ?_
    refine lv_aload_n hx hb d_Tk_line_5 rfl (lv_at hl 0 rfl) ?_
    refine va_get (D := (dC, dI)) (ci := 3) (v := .int (nI (tkn tk))) (C := R_Tk) (T := T_Tk) (N := 5) hx hb hts u_Tk hown hK hP 0 rfl rfl 4 (by decide) (hts _ L_119) (fun _ h9 => h9) rfl d_Tk_line_6 ?_
    refine lv_icmp_ge (tgt := 26) hx hb d_Tk_line_9 (by decide) (fun c_2 => ?_) (fun c_2 => ?_)
    · refine lv_iconst (v := 0) hx hb d_Tk_line_26 (by decide) ?_
      exact W.zret (v := 0) hx hb hr rfl (fun t ht hW => ⟨0, rfl, (by unfold f_Tk_line; rw [if_neg c_1, if_pos c_2]), ht⟩) (fun q h => by cases h) d_Tk_line_27
    · refine lv_aload_n hx hb d_Tk_line_12 rfl (lv_at hl 0 rfl) ?_
      refine va_get (D := (dC, dI)) (ci := 3) (v := .ref a4) (C := R_Tk) (T := T_Tk) (N := 5) hx hb hts u_Tk hown hK hP 0 rfl rfl 3 (by decide) (hts _ L_118) (fun _ h9 => h9) rfl d_Tk_line_13 ?_
      refine lv_iload_n hx hb d_Tk_line_16 rfl (lv_at hl 1 rfl) ?_
      refine va_iald (D := (dC, dI)) hx hb hK hP 4 0 rfl rfl (ix_in c_1 c_2 htk.1 htk.2.1) d_Tk_line_17 ?_
      refine lv_iconst (v := 1) hx hb d_Tk_line_18 (by decide) ?_
      refine lv_icmp_ne (tgt := 26) hx hb d_Tk_line_19 (by decide) (fun c_3 => ?_) (fun c_3 => ?_)
      · refine lv_iconst (v := 0) hx hb d_Tk_line_26 (by decide) ?_
        exact W.zret (v := 0) hx hb hr rfl (fun t ht hW => ⟨0, rfl, (by unfold f_Tk_line; rw [if_neg c_1, if_neg c_2, if_neg c_3]), ht⟩) (fun q h => by cases h) d_Tk_line_27
      · refine lv_iconst (v := 1) hx hb d_Tk_line_22 (by decide) ?_
        refine lv_goto (tgt := 27) hx hb d_Tk_line_23 (by decide) ?_
        exact W.zret (v := 1) hx hb hr rfl (fun t ht hW => ⟨1, rfl, (by unfold f_Tk_line; rw [if_neg c_1, if_neg c_2, if_pos c_3]), ht⟩) (fun q h => by cases h) d_Tk_line_27
def f_Tk_sign (tk : TK) (i : Int32) : Int32 := (if i < 0 then (-1) else (if nI (tkn tk) ≤ i then (-1) else (if (tkK tk (i : Int32).toNatClampNeg) = 4 then (tkW tk (i : Int32).toNatClampNeg) else (-1))))
set_option maxRecDepth 100000 in
set_option maxHeartbeats 4000000 in
theorem m_Tk_sign (l : Launch) (dC : Nat → ClassId) (dI : Nat → Nat → Nat) (cI cZ : ClassId) (h a1 a2 a3 a4 : Nat) (tk : TK) (htk : okTk tk) (i : Int32) : cRd l y_Tk_sign c_Tk_sign 2 .int 0 0 (dC, dI) (ty2 cI cZ) [.ref h, .int i] (wTk cI h a1 a2 a3 a4 tk) (f_Tk_sign tk i) := by
  refine Met.ofW (cc := c_Tk_sign) (maxL := 2) (ret := some .int) (by decide) rfl ?_
  intro p e s m args below meth c s₁ B hml hv
  obtain ⟨rfl, hP, hK⟩ := hv
  have hx := B.exec
  have hb := B.bytes
  have hr := B.returns
  have hts0 := atoms_spec (ws := wy y_Tk_sign c_Tk_sign 2 (some .int)) B.pre
  have hts := htsL hts0
  have hown : s.vm.findClass R_Tk = some m.cls := findClass_of_methodNamed B.named
  have hlocks := B.notSynchronized
  have hl := lv_entry ([.ref h, .int i]) (n := 2) (Nat.le_of_ble_eq_true rfl)
  rw [lg_entry_eq]
  generalize (lg_sl ([.ref h, .int i]) ++ List.replicate (2 - (lg_sl ([.ref h, .int i])).length) Slot.unset).toArray = ls at hl ⊢
  have hl : lv_has ls 2 [(0, .ref h), (1, .int i)] := hl
  refine lv_iload_n hx hb d_Tk_sign_0 rfl (lv_at hl 1 rfl) ?_
  refine lv_if_lt (tgt := 31) hx hb d_Tk_sign_1 (by decide) (fun c_1 => ?_) (fun c_1 => ?_)
  · refine lv_iconst (v := (-1)) hx hb d_Tk_sign_31 (by decide) ?_
    exact W.iret (v := (-1)) hx hb hr (fun t ht hW => ⟨(-1), rfl, (by unfold f_Tk_sign; rw [if_pos c_1]), ht⟩) (fun q h => by cases h) d_Tk_sign_32
  · refine lv_iload_n hx hb d_Tk_sign_4 rfl (lv_at hl 1 rfl) ?_
    refine lv_aload_n hx hb d_Tk_sign_5 rfl (lv_at hl 0 rfl) ?_
    refine va_get (D := (dC, dI)) (ci := 3) (v := .int (nI (tkn tk))) (C := R_Tk) (T := T_Tk) (N := 5) hx hb hts u_Tk hown hK hP 0 rfl rfl 4 (by decide) (hts _ L_119) (fun _ h9 => h9) rfl d_Tk_sign_6 ?_
    refine lv_icmp_ge (tgt := 31) hx hb d_Tk_sign_9 (by decide) (fun c_2 => ?_) (fun c_2 => ?_)
    · refine lv_iconst (v := (-1)) hx hb d_Tk_sign_31 (by decide) ?_
      exact W.iret (v := (-1)) hx hb hr (fun t ht hW => ⟨(-1), rfl, (by unfold f_Tk_sign; rw [if_neg c_1, if_pos c_2]), ht⟩) (fun q h => by cases h) d_Tk_sign_32
    · refine lv_aload_n hx hb d_Tk_sign_12 rfl (lv_at hl 0 rfl) ?_
      refine va_get (D := (dC, dI)) (ci := 3) (v := .ref a1) (C := R_Tk) (T := T_Tk) (N := 5) hx hb hts u_Tk hown hK hP 0 rfl rfl 0 (by decide) (hts _ L_115) (fun _ h9 => h9) rfl d_Tk_sign_13 ?_
      refine lv_iload_n hx hb d_Tk_sign_16 rfl (lv_at hl 1 rfl) ?_
      refine va_iald (D := (dC, dI)) hx hb hK hP 1 0 rfl rfl (ix_in c_1 c_2 htk.1 htk.2.1) d_Tk_sign_17 ?_
      refine lv_iconst (v := 4) hx hb d_Tk_sign_18 (by decide) ?_
      refine lv_icmp_ne (tgt := 31) hx hb d_Tk_sign_19 (by decide) (fun c_3 => ?_) (fun c_3 => ?_)
      · refine lv_iconst (v := (-1)) hx hb d_Tk_sign_31 (by decide) ?_
        exact W.iret (v := (-1)) hx hb hr (fun t ht hW => ⟨(-1), rfl, (by unfold f_Tk_sign; rw [if_neg c_1, if_neg c_2, if_neg c_3]), ht⟩) (fun q h => by cases h) d_Tk_sign_32
      · refine lv_aload_n hx hb d_Tk_sign_22 rfl (lv_at hl 0 rfl) ?_
        refine va_get (D := (dC, dI)) (ci := 3) (v := .ref a2) (C := R_Tk) (T := T_Tk) (N := 5) hx hb hts u_Tk hown hK hP 0 rfl rfl 1 (by decide) (hts _ L_116) (fun _ h9 => h9) rfl d_Tk_sign_23 ?_
        refine lv_iload_n hx hb d_Tk_sign_26 rfl (lv_at hl 1 rfl) ?_
        refine va_iald (D := (dC, dI)) hx hb hK hP 2 0 rfl rfl (ix_in c_1 c_2 htk.1 htk.2.1) d_Tk_sign_27 ?_
        refine lv_goto (tgt := 32) hx hb d_Tk_sign_28 (by decide) ?_
        exact W.iret (v := (tkW tk (i : Int32).toNatClampNeg)) hx hb hr (fun t ht hW => ⟨(tkW tk (i : Int32).toNatClampNeg), rfl, (by unfold f_Tk_sign; rw [if_neg c_1, if_neg c_2, if_pos c_3]), ht⟩) (fun q h => by cases h) d_Tk_sign_32
def f_Tk_keyword (tk : TK) (i : Int32) : Int32 := (if i < 0 then (-1) else (if nI (tkn tk) ≤ i then (-1) else (if (tkK tk (i : Int32).toNatClampNeg) = 1 then (if 35 < (tkW tk (i : Int32).toNatClampNeg) then (-1) else (tkW tk (i : Int32).toNatClampNeg)) else (-1))))
set_option maxRecDepth 100000 in
set_option maxHeartbeats 4000000 in
theorem m_Tk_keyword (l : Launch) (dC : Nat → ClassId) (dI : Nat → Nat → Nat) (cI cZ : ClassId) (h a1 a2 a3 a4 : Nat) (tk : TK) (htk : okTk tk) (i : Int32) : cRd l y_Tk_keyword c_Tk_keyword 3 .int 0 0 (dC, dI) (ty2 cI cZ) [.ref h, .int i] (wTk cI h a1 a2 a3 a4 tk) (f_Tk_keyword tk i) := by
  refine Met.ofW (cc := c_Tk_keyword) (maxL := 3) (ret := some .int) (by decide) rfl ?_
  intro p e s m args below meth c s₁ B hml hv
  obtain ⟨rfl, hP, hK⟩ := hv
  have hx := B.exec
  have hb := B.bytes
  have hr := B.returns
  have hts0 := atoms_spec (ws := wy y_Tk_keyword c_Tk_keyword 3 (some .int)) B.pre
  have hts := htsL hts0
  have hown : s.vm.findClass R_Tk = some m.cls := findClass_of_methodNamed B.named
  have hlocks := B.notSynchronized
  have hl := lv_entry ([.ref h, .int i]) (n := 3) (Nat.le_of_ble_eq_true rfl)
  rw [lg_entry_eq]
  generalize (lg_sl ([.ref h, .int i]) ++ List.replicate (3 - (lg_sl ([.ref h, .int i])).length) Slot.unset).toArray = ls at hl ⊢
  have hl : lv_has ls 3 [(0, .ref h), (1, .int i)] := hl
  refine lv_iload_n hx hb d_Tk_keyword_0 rfl (lv_at hl 1 rfl) ?_
  refine lv_if_lt (tgt := 26) hx hb d_Tk_keyword_1 (by decide) (fun c_1 => ?_) (fun c_1 => ?_)
  · refine lv_iconst (v := 0) hx hb d_Tk_keyword_26 (by decide) ?_
    refine lv_istore_n (lv' := [(2, .int 0), (0, .ref h), (1, .int i)]) hx hb d_Tk_keyword_27 rfl hl (by decide) rfl (fun ls hl => ?_)
    refine lv_iload_n hx hb d_Tk_keyword_28 rfl (lv_at hl 0 rfl) ?_
    refine lv_if_eq (tgt := 52) hx hb d_Tk_keyword_29 (by decide) (fun _ => ?_) (fun q9 => absurd q9 (by decide))
    refine lv_iconst (v := (-1)) hx hb d_Tk_keyword_52 (by decide) ?_
    exact W.iret (v := (-1)) hx hb hr (fun t ht hW => ⟨(-1), rfl, (by unfold f_Tk_keyword; rw [if_pos c_1]), ht⟩) (fun q h => by cases h) d_Tk_keyword_53
  · refine lv_iload_n hx hb d_Tk_keyword_4 rfl (lv_at hl 1 rfl) ?_
    refine lv_aload_n hx hb d_Tk_keyword_5 rfl (lv_at hl 0 rfl) ?_
    refine va_get (D := (dC, dI)) (ci := 3) (v := .int (nI (tkn tk))) (C := R_Tk) (T := T_Tk) (N := 5) hx hb hts u_Tk hown hK hP 0 rfl rfl 4 (by decide) (hts _ L_119) (fun _ h9 => h9) rfl d_Tk_keyword_6 ?_
    refine lv_icmp_ge (tgt := 26) hx hb d_Tk_keyword_9 (by decide) (fun c_2 => ?_) (fun c_2 => ?_)
    · refine lv_iconst (v := 0) hx hb d_Tk_keyword_26 (by decide) ?_
      refine lv_istore_n (lv' := [(2, .int 0), (0, .ref h), (1, .int i)]) hx hb d_Tk_keyword_27 rfl hl (by decide) rfl (fun ls hl => ?_)
      refine lv_iload_n hx hb d_Tk_keyword_28 rfl (lv_at hl 0 rfl) ?_
      refine lv_if_eq (tgt := 52) hx hb d_Tk_keyword_29 (by decide) (fun _ => ?_) (fun q9 => absurd q9 (by decide))
      refine lv_iconst (v := (-1)) hx hb d_Tk_keyword_52 (by decide) ?_
      exact W.iret (v := (-1)) hx hb hr (fun t ht hW => ⟨(-1), rfl, (by unfold f_Tk_keyword; rw [if_neg c_1, if_pos c_2]), ht⟩) (fun q h => by cases h) d_Tk_keyword_53
    · refine lv_aload_n hx hb d_Tk_keyword_12 rfl (lv_at hl 0 rfl) ?_
      refine va_get (D := (dC, dI)) (ci := 3) (v := .ref a1) (C := R_Tk) (T := T_Tk) (N := 5) hx hb hts u_Tk hown hK hP 0 rfl rfl 0 (by decide) (hts _ L_115) (fun _ h9 => h9) rfl d_Tk_keyword_13 ?_
      refine lv_iload_n hx hb d_Tk_keyword_16 rfl (lv_at hl 1 rfl) ?_
      refine va_iald (D := (dC, dI)) hx hb hK hP 1 0 rfl rfl (ix_in c_1 c_2 htk.1 htk.2.1) d_Tk_keyword_17 ?_
      refine lv_iconst (v := 1) hx hb d_Tk_keyword_18 (by decide) ?_
      refine lv_icmp_ne (tgt := 26) hx hb d_Tk_keyword_19 (by decide) (fun c_3 => ?_) (fun c_3 => ?_)
      · refine lv_iconst (v := 0) hx hb d_Tk_keyword_26 (by decide) ?_
        refine lv_istore_n (lv' := [(2, .int 0), (0, .ref h), (1, .int i)]) hx hb d_Tk_keyword_27 rfl hl (by decide) rfl (fun ls hl => ?_)
        refine lv_iload_n hx hb d_Tk_keyword_28 rfl (lv_at hl 0 rfl) ?_
        refine lv_if_eq (tgt := 52) hx hb d_Tk_keyword_29 (by decide) (fun _ => ?_) (fun q9 => absurd q9 (by decide))
        refine lv_iconst (v := (-1)) hx hb d_Tk_keyword_52 (by decide) ?_
        exact W.iret (v := (-1)) hx hb hr (fun t ht hW => ⟨(-1), rfl, (by unfold f_Tk_keyword; rw [if_neg c_1, if_neg c_2, if_neg c_3]), ht⟩) (fun q h => by cases h) d_Tk_keyword_53
      · refine lv_iconst (v := 1) hx hb d_Tk_keyword_22 (by decide) ?_
        refine lv_goto (tgt := 27) hx hb d_Tk_keyword_23 (by decide) ?_
        refine lv_istore_n (lv' := [(2, .int 1), (0, .ref h), (1, .int i)]) hx hb d_Tk_keyword_27 rfl hl (by decide) rfl (fun ls hl => ?_)
        refine lv_iload_n hx hb d_Tk_keyword_28 rfl (lv_at hl 0 rfl) ?_
        refine lv_if_eq (tgt := 52) hx hb d_Tk_keyword_29 (by decide) (fun q9 => absurd q9 (by decide)) (fun _ => ?_)
        refine lv_aload_n hx hb d_Tk_keyword_32 rfl (lv_at hl 1 rfl) ?_
        refine va_get (D := (dC, dI)) (ci := 3) (v := .ref a2) (C := R_Tk) (T := T_Tk) (N := 5) hx hb hts u_Tk hown hK hP 0 rfl rfl 1 (by decide) (hts _ L_116) (fun _ h9 => h9) rfl d_Tk_keyword_33 ?_
        refine lv_iload_n hx hb d_Tk_keyword_36 rfl (lv_at hl 2 rfl) ?_
        refine va_iald (D := (dC, dI)) hx hb hK hP 2 0 rfl rfl (ix_in c_1 c_2 htk.1 htk.2.1) d_Tk_keyword_37 ?_
        refine lv_bipush (v := 35) hx hb d_Tk_keyword_38 (by decide) ?_
        refine lv_icmp_gt (tgt := 52) hx hb d_Tk_keyword_40 (by decide) (fun c_4 => ?_) (fun c_4 => ?_)
        · refine lv_iconst (v := (-1)) hx hb d_Tk_keyword_52 (by decide) ?_
          exact W.iret (v := (-1)) hx hb hr (fun t ht hW => ⟨(-1), rfl, (by unfold f_Tk_keyword; rw [if_neg c_1, if_neg c_2, if_pos c_3, if_pos c_4]), ht⟩) (fun q h => by cases h) d_Tk_keyword_53
        · refine lv_aload_n hx hb d_Tk_keyword_43 rfl (lv_at hl 1 rfl) ?_
          refine va_get (D := (dC, dI)) (ci := 3) (v := .ref a2) (C := R_Tk) (T := T_Tk) (N := 5) hx hb hts u_Tk hown hK hP 0 rfl rfl 1 (by decide) (hts _ L_116) (fun _ h9 => h9) rfl d_Tk_keyword_44 ?_
          refine lv_iload_n hx hb d_Tk_keyword_47 rfl (lv_at hl 2 rfl) ?_
          refine va_iald (D := (dC, dI)) hx hb hK hP 2 0 rfl rfl (ix_in c_1 c_2 htk.1 htk.2.1) d_Tk_keyword_48 ?_
          refine lv_goto (tgt := 53) hx hb d_Tk_keyword_49 (by decide) ?_
          exact W.iret (v := (tkW tk (i : Int32).toNatClampNeg)) hx hb hr (fun t ht hW => ⟨(tkW tk (i : Int32).toNatClampNeg), rfl, (by unfold f_Tk_keyword; rw [if_neg c_1, if_neg c_2, if_pos c_3, if_neg c_4]), ht⟩) (fun q h => by cases h) d_Tk_keyword_53
def f_Tk_identifier (tk : TK) (i : Int32) (strict : Int32) : Int32 := (if i < 0 then 0 else (if nI (tkn tk) ≤ i then 0 else (if (tkK tk (i : Int32).toNatClampNeg) = 1 then (if (tkW tk (i : Int32).toNatClampNeg) < 100 then (if (tkW tk (i : Int32).toNatClampNeg) = (-1) then 1 else (if strict = 0 then (if (tkW tk (i : Int32).toNatClampNeg) ≤ 35 then 0 else 1) else 0)) else (if ((tkW tk (i : Int32).toNatClampNeg) - 100) = (-1) then 1 else (if strict = 0 then (if ((tkW tk (i : Int32).toNatClampNeg) - 100) ≤ 35 then 0 else 1) else 0))) else 0)))
theorem f_Tk_identifier_b {tk : TK} {i : Int32} {strict : Int32} : f_Tk_identifier tk i strict = 0 ∨ f_Tk_identifier tk i strict = 1 := by
  unfold f_Tk_identifier
  repeat' split
  all_goals first | exact Or.inl rfl | exact Or.inr rfl | exact Or.inl rfl
set_option maxRecDepth 100000 in
set_option maxHeartbeats 4000000 in
theorem m_Tk_identifier (l : Launch) (dC : Nat → ClassId) (dI : Nat → Nat → Nat) (cI cZ : ClassId) (h a1 a2 a3 a4 : Nat) (tk : TK) (htk : okTk tk) (i : Int32) (strict : Int32) : cRd l y_Tk_identifier c_Tk_identifier 4 .boolean 0 0 (dC, dI) (ty2 cI cZ) [.ref h, .int i, .int strict] (wTk cI h a1 a2 a3 a4 tk) (f_Tk_identifier tk i strict) := by
  refine Met.ofW (cc := c_Tk_identifier) (maxL := 4) (ret := some .boolean) (by decide) rfl ?_
  intro p e s m args below meth c s₁ B hml hv
  obtain ⟨rfl, hP, hK⟩ := hv
  have hx := B.exec
  have hb := B.bytes
  have hr := B.returns
  have hts0 := atoms_spec (ws := wy y_Tk_identifier c_Tk_identifier 4 (some .boolean)) B.pre
  have hts := htsL hts0
  have hown : s.vm.findClass R_Tk = some m.cls := findClass_of_methodNamed B.named
  have hlocks := B.notSynchronized
  have hl := lv_entry ([.ref h, .int i, .int strict]) (n := 4) (Nat.le_of_ble_eq_true rfl)
  rw [lg_entry_eq]
  generalize (lg_sl ([.ref h, .int i, .int strict]) ++ List.replicate (4 - (lg_sl ([.ref h, .int i, .int strict])).length) Slot.unset).toArray = ls at hl ⊢
  have hl : lv_has ls 4 [(0, .ref h), (1, .int i), (2, .int strict)] := hl
  refine lv_iload_n hx hb d_Tk_identifier_0 rfl (lv_at hl 1 rfl) ?_
  refine lv_if_lt (tgt := 22) hx hb d_Tk_identifier_1 (by decide) (fun c_1 => ?_) (fun c_1 => ?_)
  · refine lv_iconst (v := 0) hx hb d_Tk_identifier_22 (by decide) ?_
    exact W.zret (v := 0) hx hb hr rfl (fun t ht hW => ⟨0, rfl, (by unfold f_Tk_identifier; rw [if_pos c_1]), ht⟩) (fun q h => by cases h) d_Tk_identifier_23
  · refine lv_iload_n hx hb d_Tk_identifier_4 rfl (lv_at hl 1 rfl) ?_
    refine lv_aload_n hx hb d_Tk_identifier_5 rfl (lv_at hl 0 rfl) ?_
    refine va_get (D := (dC, dI)) (ci := 3) (v := .int (nI (tkn tk))) (C := R_Tk) (T := T_Tk) (N := 5) hx hb hts u_Tk hown hK hP 0 rfl rfl 4 (by decide) (hts _ L_119) (fun _ h9 => h9) rfl d_Tk_identifier_6 ?_
    refine lv_icmp_ge (tgt := 22) hx hb d_Tk_identifier_9 (by decide) (fun c_2 => ?_) (fun c_2 => ?_)
    · refine lv_iconst (v := 0) hx hb d_Tk_identifier_22 (by decide) ?_
      exact W.zret (v := 0) hx hb hr rfl (fun t ht hW => ⟨0, rfl, (by unfold f_Tk_identifier; rw [if_neg c_1, if_pos c_2]), ht⟩) (fun q h => by cases h) d_Tk_identifier_23
    · refine lv_aload_n hx hb d_Tk_identifier_12 rfl (lv_at hl 0 rfl) ?_
      refine va_get (D := (dC, dI)) (ci := 3) (v := .ref a1) (C := R_Tk) (T := T_Tk) (N := 5) hx hb hts u_Tk hown hK hP 0 rfl rfl 0 (by decide) (hts _ L_115) (fun _ h9 => h9) rfl d_Tk_identifier_13 ?_
      refine lv_iload_n hx hb d_Tk_identifier_16 rfl (lv_at hl 1 rfl) ?_
      refine va_iald (D := (dC, dI)) hx hb hK hP 1 0 rfl rfl (ix_in c_1 c_2 htk.1 htk.2.1) d_Tk_identifier_17 ?_
      refine lv_iconst (v := 1) hx hb d_Tk_identifier_18 (by decide) ?_
      refine lv_icmp_eq (tgt := 24) hx hb d_Tk_identifier_19 (by decide) (fun c_3 => ?_) (fun c_3 => ?_)
      · refine lv_aload_n hx hb d_Tk_identifier_24 rfl (lv_at hl 0 rfl) ?_
        refine va_get (D := (dC, dI)) (ci := 3) (v := .ref a2) (C := R_Tk) (T := T_Tk) (N := 5) hx hb hts u_Tk hown hK hP 0 rfl rfl 1 (by decide) (hts _ L_116) (fun _ h9 => h9) rfl d_Tk_identifier_25 ?_
        refine lv_iload_n hx hb d_Tk_identifier_28 rfl (lv_at hl 1 rfl) ?_
        refine va_iald (D := (dC, dI)) hx hb hK hP 2 0 rfl rfl (ix_in c_1 c_2 htk.1 htk.2.1) d_Tk_identifier_29 ?_
        refine lv_bipush (v := 100) hx hb d_Tk_identifier_30 (by decide) ?_
        refine lv_icmp_lt (tgt := 47) hx hb d_Tk_identifier_32 (by decide) (fun c_4 => ?_) (fun c_4 => ?_)
        · refine lv_aload_n hx hb d_Tk_identifier_47 rfl (lv_at hl 0 rfl) ?_
          refine va_get (D := (dC, dI)) (ci := 3) (v := .ref a2) (C := R_Tk) (T := T_Tk) (N := 5) hx hb hts u_Tk hown hK hP 0 rfl rfl 1 (by decide) (hts _ L_116) (fun _ h9 => h9) rfl d_Tk_identifier_48 ?_
          refine lv_iload_n hx hb d_Tk_identifier_51 rfl (lv_at hl 1 rfl) ?_
          refine va_iald (D := (dC, dI)) hx hb hK hP 2 0 rfl rfl (ix_in c_1 c_2 htk.1 htk.2.1) d_Tk_identifier_52 ?_
          refine lv_istore_n (lv' := [(3, .int (tkW tk (i : Int32).toNatClampNeg)), (0, .ref h), (1, .int i), (2, .int strict)]) hx hb d_Tk_identifier_53 rfl hl (by decide) rfl (fun ls hl => ?_)
          refine lv_iload_n hx hb d_Tk_identifier_54 rfl (lv_at hl 0 rfl) ?_
          refine lv_iconst (v := (-1)) hx hb d_Tk_identifier_55 (by decide) ?_
          refine lv_icmp_eq (tgt := 69) hx hb d_Tk_identifier_56 (by decide) (fun c_5 => ?_) (fun c_5 => ?_)
          · refine lv_iconst (v := 1) hx hb d_Tk_identifier_69 (by decide) ?_
            refine lv_goto (tgt := 74) hx hb d_Tk_identifier_70 (by decide) ?_
            exact W.zret (v := 1) hx hb hr rfl (fun t ht hW => ⟨1, rfl, (by unfold f_Tk_identifier; rw [if_neg c_1, if_neg c_2, if_pos c_3, if_pos c_4, if_pos c_5]), ht⟩) (fun q h => by cases h) d_Tk_identifier_74
          · refine lv_iload_n hx hb d_Tk_identifier_59 rfl (lv_at hl 3 rfl) ?_
            refine lv_if_ne (tgt := 73) hx hb d_Tk_identifier_60 (by decide) (fun c_6 => ?_) (fun c_6 => ?_)
            · refine lv_iconst (v := 0) hx hb d_Tk_identifier_73 (by decide) ?_
              exact W.zret (v := 0) hx hb hr rfl (fun t ht hW => ⟨0, rfl, (by unfold f_Tk_identifier; rw [if_neg c_1, if_neg c_2, if_pos c_3, if_pos c_4, if_neg c_5, if_neg c_6]), ht⟩) (fun q h => by cases h) d_Tk_identifier_74
            · refine lv_iload_n hx hb d_Tk_identifier_63 rfl (lv_at hl 0 rfl) ?_
              refine lv_bipush (v := 35) hx hb d_Tk_identifier_64 (by decide) ?_
              refine lv_icmp_le (tgt := 73) hx hb d_Tk_identifier_66 (by decide) (fun c_7 => ?_) (fun c_7 => ?_)
              · refine lv_iconst (v := 0) hx hb d_Tk_identifier_73 (by decide) ?_
                exact W.zret (v := 0) hx hb hr rfl (fun t ht hW => ⟨0, rfl, (by unfold f_Tk_identifier; rw [if_neg c_1, if_neg c_2, if_pos c_3, if_pos c_4, if_neg c_5, if_pos c_6, if_pos c_7]), ht⟩) (fun q h => by cases h) d_Tk_identifier_74
              · refine lv_iconst (v := 1) hx hb d_Tk_identifier_69 (by decide) ?_
                refine lv_goto (tgt := 74) hx hb d_Tk_identifier_70 (by decide) ?_
                exact W.zret (v := 1) hx hb hr rfl (fun t ht hW => ⟨1, rfl, (by unfold f_Tk_identifier; rw [if_neg c_1, if_neg c_2, if_pos c_3, if_pos c_4, if_neg c_5, if_pos c_6, if_neg c_7]), ht⟩) (fun q h => by cases h) d_Tk_identifier_74
        · refine lv_aload_n hx hb d_Tk_identifier_35 rfl (lv_at hl 0 rfl) ?_
          refine va_get (D := (dC, dI)) (ci := 3) (v := .ref a2) (C := R_Tk) (T := T_Tk) (N := 5) hx hb hts u_Tk hown hK hP 0 rfl rfl 1 (by decide) (hts _ L_116) (fun _ h9 => h9) rfl d_Tk_identifier_36 ?_
          refine lv_iload_n hx hb d_Tk_identifier_39 rfl (lv_at hl 1 rfl) ?_
          refine va_iald (D := (dC, dI)) hx hb hK hP 2 0 rfl rfl (ix_in c_1 c_2 htk.1 htk.2.1) d_Tk_identifier_40 ?_
          refine lv_bipush (v := 100) hx hb d_Tk_identifier_41 (by decide) ?_
          refine lv_isub hx hb d_Tk_identifier_43 ?_
          refine lv_goto (tgt := 53) hx hb d_Tk_identifier_44 (by decide) ?_
          refine lv_istore_n (lv' := [(3, .int ((tkW tk (i : Int32).toNatClampNeg) - 100)), (0, .ref h), (1, .int i), (2, .int strict)]) hx hb d_Tk_identifier_53 rfl hl (by decide) rfl (fun ls hl => ?_)
          refine lv_iload_n hx hb d_Tk_identifier_54 rfl (lv_at hl 0 rfl) ?_
          refine lv_iconst (v := (-1)) hx hb d_Tk_identifier_55 (by decide) ?_
          refine lv_icmp_eq (tgt := 69) hx hb d_Tk_identifier_56 (by decide) (fun c_8 => ?_) (fun c_8 => ?_)
          · refine lv_iconst (v := 1) hx hb d_Tk_identifier_69 (by decide) ?_
            refine lv_goto (tgt := 74) hx hb d_Tk_identifier_70 (by decide) ?_
            exact W.zret (v := 1) hx hb hr rfl (fun t ht hW => ⟨1, rfl, (by unfold f_Tk_identifier; rw [if_neg c_1, if_neg c_2, if_pos c_3, if_neg c_4, if_pos c_8]), ht⟩) (fun q h => by cases h) d_Tk_identifier_74
          · refine lv_iload_n hx hb d_Tk_identifier_59 rfl (lv_at hl 3 rfl) ?_
            refine lv_if_ne (tgt := 73) hx hb d_Tk_identifier_60 (by decide) (fun c_9 => ?_) (fun c_9 => ?_)
            · refine lv_iconst (v := 0) hx hb d_Tk_identifier_73 (by decide) ?_
              exact W.zret (v := 0) hx hb hr rfl (fun t ht hW => ⟨0, rfl, (by unfold f_Tk_identifier; rw [if_neg c_1, if_neg c_2, if_pos c_3, if_neg c_4, if_neg c_8, if_neg c_9]), ht⟩) (fun q h => by cases h) d_Tk_identifier_74
            · refine lv_iload_n hx hb d_Tk_identifier_63 rfl (lv_at hl 0 rfl) ?_
              refine lv_bipush (v := 35) hx hb d_Tk_identifier_64 (by decide) ?_
              refine lv_icmp_le (tgt := 73) hx hb d_Tk_identifier_66 (by decide) (fun c_10 => ?_) (fun c_10 => ?_)
              · refine lv_iconst (v := 0) hx hb d_Tk_identifier_73 (by decide) ?_
                exact W.zret (v := 0) hx hb hr rfl (fun t ht hW => ⟨0, rfl, (by unfold f_Tk_identifier; rw [if_neg c_1, if_neg c_2, if_pos c_3, if_neg c_4, if_neg c_8, if_pos c_9, if_pos c_10]), ht⟩) (fun q h => by cases h) d_Tk_identifier_74
              · refine lv_iconst (v := 1) hx hb d_Tk_identifier_69 (by decide) ?_
                refine lv_goto (tgt := 74) hx hb d_Tk_identifier_70 (by decide) ?_
                exact W.zret (v := 1) hx hb hr rfl (fun t ht hW => ⟨1, rfl, (by unfold f_Tk_identifier; rw [if_neg c_1, if_neg c_2, if_pos c_3, if_neg c_4, if_neg c_8, if_pos c_9, if_neg c_10]), ht⟩) (fun q h => by cases h) d_Tk_identifier_74
      · refine lv_iconst (v := 0) hx hb d_Tk_identifier_22 (by decide) ?_
        exact W.zret (v := 0) hx hb hr rfl (fun t ht hW => ⟨0, rfl, (by unfold f_Tk_identifier; rw [if_neg c_1, if_neg c_2, if_neg c_3]), ht⟩) (fun q h => by cases h) d_Tk_identifier_23
def f_Tk_asksForStrict (tk : TK) (i : Int32) : Int32 := (if i < 0 then 0 else (if nI (tkn tk) ≤ i then 0 else (if (tkK tk (i : Int32).toNatClampNeg) = 3 then (if (tkW tk (i : Int32).toNatClampNeg) = 1 then 1 else 0) else 0)))
theorem f_Tk_asksForStrict_b {tk : TK} {i : Int32} : f_Tk_asksForStrict tk i = 0 ∨ f_Tk_asksForStrict tk i = 1 := by
  unfold f_Tk_asksForStrict
  repeat' split
  all_goals first | exact Or.inl rfl | exact Or.inr rfl | exact Or.inl rfl
set_option maxRecDepth 100000 in
set_option maxHeartbeats 4000000 in
theorem m_Tk_asksForStrict (l : Launch) (dC : Nat → ClassId) (dI : Nat → Nat → Nat) (cI cZ : ClassId) (h a1 a2 a3 a4 : Nat) (tk : TK) (htk : okTk tk) (i : Int32) : cRd l y_Tk_asksForStrict c_Tk_asksForStrict 2 .boolean 0 0 (dC, dI) (ty2 cI cZ) [.ref h, .int i] (wTk cI h a1 a2 a3 a4 tk) (f_Tk_asksForStrict tk i) := by
  refine Met.ofW (cc := c_Tk_asksForStrict) (maxL := 2) (ret := some .boolean) (by decide) rfl ?_
  intro p e s m args below meth c s₁ B hml hv
  obtain ⟨rfl, hP, hK⟩ := hv
  have hx := B.exec
  have hb := B.bytes
  have hr := B.returns
  have hts0 := atoms_spec (ws := wy y_Tk_asksForStrict c_Tk_asksForStrict 2 (some .boolean)) B.pre
  have hts := htsL hts0
  have hown : s.vm.findClass R_Tk = some m.cls := findClass_of_methodNamed B.named
  have hlocks := B.notSynchronized
  have hl := lv_entry ([.ref h, .int i]) (n := 2) (Nat.le_of_ble_eq_true rfl)
  rw [lg_entry_eq]
  generalize (lg_sl ([.ref h, .int i]) ++ List.replicate (2 - (lg_sl ([.ref h, .int i])).length) Slot.unset).toArray = ls at hl ⊢
  have hl : lv_has ls 2 [(0, .ref h), (1, .int i)] := hl
  refine lv_iload_n hx hb d_Tk_asksForStrict_0 rfl (lv_at hl 1 rfl) ?_
  refine lv_if_lt (tgt := 36) hx hb d_Tk_asksForStrict_1 (by decide) (fun c_1 => ?_) (fun c_1 => ?_)
  · refine lv_iconst (v := 0) hx hb d_Tk_asksForStrict_36 (by decide) ?_
    exact W.zret (v := 0) hx hb hr rfl (fun t ht hW => ⟨0, rfl, (by unfold f_Tk_asksForStrict; rw [if_pos c_1]), ht⟩) (fun q h => by cases h) d_Tk_asksForStrict_37
  · refine lv_iload_n hx hb d_Tk_asksForStrict_4 rfl (lv_at hl 1 rfl) ?_
    refine lv_aload_n hx hb d_Tk_asksForStrict_5 rfl (lv_at hl 0 rfl) ?_
    refine va_get (D := (dC, dI)) (ci := 3) (v := .int (nI (tkn tk))) (C := R_Tk) (T := T_Tk) (N := 5) hx hb hts u_Tk hown hK hP 0 rfl rfl 4 (by decide) (hts _ L_119) (fun _ h9 => h9) rfl d_Tk_asksForStrict_6 ?_
    refine lv_icmp_ge (tgt := 36) hx hb d_Tk_asksForStrict_9 (by decide) (fun c_2 => ?_) (fun c_2 => ?_)
    · refine lv_iconst (v := 0) hx hb d_Tk_asksForStrict_36 (by decide) ?_
      exact W.zret (v := 0) hx hb hr rfl (fun t ht hW => ⟨0, rfl, (by unfold f_Tk_asksForStrict; rw [if_neg c_1, if_pos c_2]), ht⟩) (fun q h => by cases h) d_Tk_asksForStrict_37
    · refine lv_aload_n hx hb d_Tk_asksForStrict_12 rfl (lv_at hl 0 rfl) ?_
      refine va_get (D := (dC, dI)) (ci := 3) (v := .ref a1) (C := R_Tk) (T := T_Tk) (N := 5) hx hb hts u_Tk hown hK hP 0 rfl rfl 0 (by decide) (hts _ L_115) (fun _ h9 => h9) rfl d_Tk_asksForStrict_13 ?_
      refine lv_iload_n hx hb d_Tk_asksForStrict_16 rfl (lv_at hl 1 rfl) ?_
      refine va_iald (D := (dC, dI)) hx hb hK hP 1 0 rfl rfl (ix_in c_1 c_2 htk.1 htk.2.1) d_Tk_asksForStrict_17 ?_
      refine lv_iconst (v := 3) hx hb d_Tk_asksForStrict_18 (by decide) ?_
      refine lv_icmp_ne (tgt := 36) hx hb d_Tk_asksForStrict_19 (by decide) (fun c_3 => ?_) (fun c_3 => ?_)
      · refine lv_iconst (v := 0) hx hb d_Tk_asksForStrict_36 (by decide) ?_
        exact W.zret (v := 0) hx hb hr rfl (fun t ht hW => ⟨0, rfl, (by unfold f_Tk_asksForStrict; rw [if_neg c_1, if_neg c_2, if_neg c_3]), ht⟩) (fun q h => by cases h) d_Tk_asksForStrict_37
      · refine lv_aload_n hx hb d_Tk_asksForStrict_22 rfl (lv_at hl 0 rfl) ?_
        refine va_get (D := (dC, dI)) (ci := 3) (v := .ref a2) (C := R_Tk) (T := T_Tk) (N := 5) hx hb hts u_Tk hown hK hP 0 rfl rfl 1 (by decide) (hts _ L_116) (fun _ h9 => h9) rfl d_Tk_asksForStrict_23 ?_
        refine lv_iload_n hx hb d_Tk_asksForStrict_26 rfl (lv_at hl 1 rfl) ?_
        refine va_iald (D := (dC, dI)) hx hb hK hP 2 0 rfl rfl (ix_in c_1 c_2 htk.1 htk.2.1) d_Tk_asksForStrict_27 ?_
        refine lv_iconst (v := 1) hx hb d_Tk_asksForStrict_28 (by decide) ?_
        refine lv_icmp_ne (tgt := 36) hx hb d_Tk_asksForStrict_29 (by decide) (fun c_4 => ?_) (fun c_4 => ?_)
        · refine lv_iconst (v := 0) hx hb d_Tk_asksForStrict_36 (by decide) ?_
          exact W.zret (v := 0) hx hb hr rfl (fun t ht hW => ⟨0, rfl, (by unfold f_Tk_asksForStrict; rw [if_neg c_1, if_neg c_2, if_pos c_3, if_neg c_4]), ht⟩) (fun q h => by cases h) d_Tk_asksForStrict_37
        · refine lv_iconst (v := 1) hx hb d_Tk_asksForStrict_32 (by decide) ?_
          refine lv_goto (tgt := 37) hx hb d_Tk_asksForStrict_33 (by decide) ?_
          exact W.zret (v := 1) hx hb hr rfl (fun t ht hW => ⟨1, rfl, (by unfold f_Tk_asksForStrict; rw [if_neg c_1, if_neg c_2, if_pos c_3, if_pos c_4]), ht⟩) (fun q h => by cases h) d_Tk_asksForStrict_37
def f_Tk_propertyName (tk : TK) (i : Int32) : Int32 := (if (f_Tk_kind tk i) = 1 then 1 else (if (f_Tk_kind tk i) = 2 then 1 else (if (f_Tk_kind tk i) = 3 then 1 else 0)))
theorem f_Tk_propertyName_b {tk : TK} {i : Int32} : f_Tk_propertyName tk i = 0 ∨ f_Tk_propertyName tk i = 1 := by
  unfold f_Tk_propertyName
  repeat' split
  all_goals first | exact Or.inl rfl | exact Or.inr rfl | exact f_Tk_kind_b
set_option maxRecDepth 100000 in
set_option maxHeartbeats 4000000 in
theorem m_Tk_propertyName (l : Launch) (dC : Nat → ClassId) (dI : Nat → Nat → Nat) (cI cZ : ClassId) (h a1 a2 a3 a4 : Nat) (tk : TK) (htk : okTk tk) (i : Int32) : cRd l y_Tk_propertyName c_Tk_propertyName 3 .boolean 1 21 (dC, dI) (ty2 cI cZ) [.ref h, .int i] (wTk cI h a1 a2 a3 a4 tk) (f_Tk_propertyName tk i) := by
  refine Met.ofW (cc := c_Tk_propertyName) (maxL := 3) (ret := some .boolean) (by decide) rfl ?_
  intro p e s m args below meth c s₁ B hml hv
  obtain ⟨rfl, hP, hK⟩ := hv
  have hx := B.exec
  have hb := B.bytes
  have hr := B.returns
  have hts0 := atoms_spec (ws := wy y_Tk_propertyName c_Tk_propertyName 3 (some .boolean)) B.pre
  have hts := htsL hts0
  have hown : s.vm.findClass R_Tk = some m.cls := findClass_of_methodNamed B.named
  have hlocks := B.notSynchronized
  have hl := lv_entry ([.ref h, .int i]) (n := 3) (Nat.le_of_ble_eq_true rfl)
  rw [lg_entry_eq]
  generalize (lg_sl ([.ref h, .int i]) ++ List.replicate (3 - (lg_sl ([.ref h, .int i])).length) Slot.unset).toArray = ls at hl ⊢
  have hl : lv_has ls 3 [(0, .ref h), (1, .int i)] := hl
  refine lv_aload_n hx hb d_Tk_propertyName_0 rfl (lv_at hl 0 rfl) ?_
  refine lv_iload_n hx hb d_Tk_propertyName_1 rfl (lv_at hl 1 rfl) ?_
  refine rd_V (v := (f_Tk_kind tk i)) (As := [.int i]) (rest := []) ⟨hx, hb, hml, hown, hts0⟩ (m_Tk_kind l dC dI cI cZ h a1 a2 a3 a4 tk htk i) hP hK [0, 1, 2, 3, 4] rfl [0, 1] rfl 0 3 rfl rfl L_622 L_436 L_437 L_84 L_438 ⟨rfl, k_Tk_kind⟩ ⟨Nat.le_of_ble_eq_true rfl, Nat.le_of_ble_eq_true rfl⟩ hl.1 ⟨Nat.zero_le _, Nat.zero_le _⟩ (Nat.le_of_ble_eq_true rfl) d_Tk_propertyName_2 rfl ?_
  refine lv_istore_n (lv' := [(2, .int (f_Tk_kind tk i)), (0, .ref h), (1, .int i)]) hx hb d_Tk_propertyName_5 rfl hl (by decide) rfl (fun ls hl => ?_)
  refine lv_iload_n hx hb d_Tk_propertyName_6 rfl (lv_at hl 0 rfl) ?_
  refine lv_iconst (v := 1) hx hb d_Tk_propertyName_7 (by decide) ?_
  refine lv_icmp_eq (tgt := 21) hx hb d_Tk_propertyName_8 (by decide) (fun c_1 => ?_) (fun c_1 => ?_)
  · refine lv_iconst (v := 1) hx hb d_Tk_propertyName_21 (by decide) ?_
    refine lv_goto (tgt := 26) hx hb d_Tk_propertyName_22 (by decide) ?_
    exact W.zret (v := 1) hx hb hr rfl (fun t ht hW => ⟨1, rfl, (by unfold f_Tk_propertyName; rw [if_pos c_1]), ht⟩) (fun q h => by cases h) d_Tk_propertyName_26
  · refine lv_iload_n hx hb d_Tk_propertyName_11 rfl (lv_at hl 0 rfl) ?_
    refine lv_iconst (v := 2) hx hb d_Tk_propertyName_12 (by decide) ?_
    refine lv_icmp_eq (tgt := 21) hx hb d_Tk_propertyName_13 (by decide) (fun c_2 => ?_) (fun c_2 => ?_)
    · refine lv_iconst (v := 1) hx hb d_Tk_propertyName_21 (by decide) ?_
      refine lv_goto (tgt := 26) hx hb d_Tk_propertyName_22 (by decide) ?_
      exact W.zret (v := 1) hx hb hr rfl (fun t ht hW => ⟨1, rfl, (by unfold f_Tk_propertyName; rw [if_neg c_1, if_pos c_2]), ht⟩) (fun q h => by cases h) d_Tk_propertyName_26
    · refine lv_iload_n hx hb d_Tk_propertyName_16 rfl (lv_at hl 0 rfl) ?_
      refine lv_iconst (v := 3) hx hb d_Tk_propertyName_17 (by decide) ?_
      refine lv_icmp_ne (tgt := 25) hx hb d_Tk_propertyName_18 (by decide) (fun c_3 => ?_) (fun c_3 => ?_)
      · refine lv_iconst (v := 0) hx hb d_Tk_propertyName_25 (by decide) ?_
        exact W.zret (v := 0) hx hb hr rfl (fun t ht hW => ⟨0, rfl, (by unfold f_Tk_propertyName; rw [if_neg c_1, if_neg c_2, if_neg c_3]), ht⟩) (fun q h => by cases h) d_Tk_propertyName_26
      · refine lv_iconst (v := 1) hx hb d_Tk_propertyName_21 (by decide) ?_
        refine lv_goto (tgt := 26) hx hb d_Tk_propertyName_22 (by decide) ?_
        exact W.zret (v := 1) hx hb hr rfl (fun t ht hW => ⟨1, rfl, (by unfold f_Tk_propertyName; rw [if_neg c_1, if_neg c_2, if_pos c_3]), ht⟩) (fun q h => by cases h) d_Tk_propertyName_26
