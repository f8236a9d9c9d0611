def f_Pa_prefixOperator (st : ST) : Int32 := (if (f_Tk_keyword (sTk st) (sAt st)) = 6 then 0 else (if (f_Tk_keyword (sTk st) (sAt st)) = 21 then 2 else (if (f_Tk_keyword (sTk st) (sAt st)) = 23 then 1 else (if (f_Tk_sign (sTk st) (sAt st)) = 19 then 5 else (if (f_Tk_sign (sTk st) (sAt st)) = 20 then 6 else (if (f_Tk_sign (sTk st) (sAt st)) = 71 then 8 else (if (f_Tk_sign (sTk st) (sAt st)) = 72 then 7 else (if (f_Tk_sign (sTk st) (sAt st)) = 73 then 3 else (if (f_Tk_sign (sTk st) (sAt st)) = 74 then 4 else (-1))))))))))
set_option maxRecDepth 100000 in
set_option maxHeartbeats 4000000 in
theorem m_Pa_prefixOperator (l : Launch) (dC : Nat → ClassId) (dI : Nat → Nat → Nat) (cI cZ : ClassId) (hp hc h a1 a2 a3 a4 ht b1 b2 b3 b4 hq n1 n2 : Nat) (st : ST) (hst : okSt st)  : cRd l y_Pa_prefixOperator c_Pa_prefixOperator 1 .int 1 22 (dC, dI) (ty2 cI cZ) [.ref hp] (wP cI cZ hp hc h a1 a2 a3 a4 ht b1 b2 b3 b4 hq n1 n2 st) (f_Pa_prefixOperator st) := by
  refine Met.ofW (cc := c_Pa_prefixOperator) (maxL := 1) (ret := some .int) (by decide) rfl ?_
  intro p e s m args below meth c s₁ B hml hv
  obtain ⟨rfl, hP, hK⟩ := hv
  have hx := B.exec
  have hb := B.bytes
  have hr := B.returns
  have hts0 := atoms_spec (ws := wy y_Pa_prefixOperator c_Pa_prefixOperator 1 (some .int)) B.pre
  have hts := htsL hts0
  have hown : s.vm.findClass R_Pa = some m.cls := findClass_of_methodNamed B.named
  have hlocks := B.notSynchronized
  have hl := lv_entry ([.ref hp]) (n := 1) (Nat.le_of_ble_eq_true rfl)
  rw [lg_entry_eq]
  generalize (lg_sl ([.ref hp]) ++ List.replicate (1 - (lg_sl ([.ref hp])).length) Slot.unset).toArray = ls at hl ⊢
  have hl : lv_has ls 1 [(0, .ref hp)] := hl
  refine lv_aload_n hx hb d_Pa_prefixOperator_0 rfl (lv_at hl 0 rfl) ?_
  refine va_get (D := (dC, dI)) (ci := 2) (v := .ref h) (C := R_Pa) (T := T_Pa) (N := 7) hx hb hts u_Pa hown hK hP 0 rfl rfl 3 (by decide) (hts _ L_212) (fun x9 h9 => u_same (hts _ L_213) x9 h9) rfl d_Pa_prefixOperator_1 ?_
  refine lv_aload_n hx hb d_Pa_prefixOperator_4 rfl (lv_at hl 0 rfl) ?_
  refine va_get (D := (dC, dI)) (ci := 2) (v := .int (sAt st)) (C := R_Pa) (T := T_Pa) (N := 7) hx hb hts u_Pa hown hK hP 0 rfl rfl 4 (by decide) (hts _ L_215) (fun x9 h9 => u_same (hts _ L_216) x9 h9) rfl d_Pa_prefixOperator_5 ?_
  refine rd_V (v := (f_Tk_keyword (sTk st) (sAt st))) (As := [.int (sAt st)]) (rest := []) ⟨hx, hb, hml, hown, hts0⟩ (m_Tk_keyword l dC dI cI cZ h a1 a2 a3 a4 (sTk st) hst.1 (sAt st)) hP hK [2, 3, 4, 5, 6] rfl [0, 1] rfl 0 3 rfl rfl L_564 L_446 L_447 L_84 L_448 ⟨rfl, k_Tk_keyword⟩ ⟨Nat.le_of_ble_eq_true rfl, Nat.le_of_ble_eq_true rfl⟩ hl.1 ⟨Nat.zero_le _, Nat.zero_le _⟩ (Nat.le_of_ble_eq_true rfl) d_Pa_prefixOperator_8 rfl ?_
  refine sw_look hx hb [(6, 44), (21, 48), (23, 46)] 50 d_Pa_prefixOperator_11 (by decide +kernel) (by decide) (by decide +kernel) ?_
  refine ⟨fun c_1 => ?_, fun c_1 => ?_⟩
  · refine lv_iconst (v := 0) hx hb d_Pa_prefixOperator_44 (by decide) ?_
    exact W.iret (v := 0) hx hb hr (fun t ht hW => ⟨0, rfl, (by unfold f_Pa_prefixOperator; rw [if_pos c_1]), ht⟩) (fun q h => by cases h) d_Pa_prefixOperator_45
  · refine ⟨fun c_2 => ?_, fun c_2 => ?_⟩
    · refine lv_iconst (v := 2) hx hb d_Pa_prefixOperator_48 (by decide) ?_
      exact W.iret (v := 2) hx hb hr (fun t ht hW => ⟨2, rfl, (by unfold f_Pa_prefixOperator; rw [if_neg c_1, if_pos c_2]), ht⟩) (fun q h => by cases h) d_Pa_prefixOperator_49
    · refine ⟨fun c_3 => ?_, fun c_3 => ?_⟩
      · refine lv_iconst (v := 1) hx hb d_Pa_prefixOperator_46 (by decide) ?_
        exact W.iret (v := 1) hx hb hr (fun t ht hW => ⟨1, rfl, (by unfold f_Pa_prefixOperator; rw [if_neg c_1, if_neg c_2, if_pos c_3]), ht⟩) (fun q h => by cases h) d_Pa_prefixOperator_47
      · refine lv_aload_n hx hb d_Pa_prefixOperator_50 rfl (lv_at hl 0 rfl) ?_
        refine va_get (D := (dC, dI)) (ci := 2) (v := .ref h) (C := R_Pa) (T := T_Pa) (N := 7) hx hb hts u_Pa hown hK hP 0 rfl rfl 3 (by decide) (hts _ L_212) (fun x9 h9 => u_same (hts _ L_213) x9 h9) rfl d_Pa_prefixOperator_51 ?_
        refine lv_aload_n hx hb d_Pa_prefixOperator_54 rfl (lv_at hl 0 rfl) ?_
        refine va_get (D := (dC, dI)) (ci := 2) (v := .int (sAt st)) (C := R_Pa) (T := T_Pa) (N := 7) hx hb hts u_Pa hown hK hP 0 rfl rfl 4 (by decide) (hts _ L_215) (fun x9 h9 => u_same (hts _ L_216) x9 h9) rfl d_Pa_prefixOperator_55 ?_
        refine rd_V (v := (f_Tk_sign (sTk st) (sAt st))) (As := [.int (sAt st)]) (rest := []) ⟨hx, hb, hml, hown, hts0⟩ (m_Tk_sign l dC dI cI cZ h a1 a2 a3 a4 (sTk st) hst.1 (sAt st)) hP hK [2, 3, 4, 5, 6] rfl [0, 1] rfl 0 3 rfl rfl L_577 L_503 L_504 L_84 L_505 ⟨rfl, k_Tk_sign⟩ ⟨Nat.le_of_ble_eq_true rfl, Nat.le_of_ble_eq_true rfl⟩ hl.1 ⟨Nat.zero_le _, Nat.zero_le _⟩ (Nat.le_of_ble_eq_true rfl) d_Pa_prefixOperator_58 rfl ?_
        refine sw_look hx hb [(19, 124), (20, 126), (71, 132), (72, 129), (73, 120), (74, 122)] 135 d_Pa_prefixOperator_61 (by decide +kernel) (by decide) (by decide +kernel) ?_
        refine ⟨fun c_4 => ?_, fun c_4 => ?_⟩
        · refine lv_iconst (v := 5) hx hb d_Pa_prefixOperator_124 (by decide) ?_
          exact W.iret (v := 5) hx hb hr (fun t ht hW => ⟨5, rfl, (by unfold f_Pa_prefixOperator; rw [if_neg c_1, if_neg c_2, if_neg c_3, if_pos c_4]), ht⟩) (fun q h => by cases h) d_Pa_prefixOperator_125
        · refine ⟨fun c_5 => ?_, fun c_5 => ?_⟩
          · refine lv_bipush (v := 6) hx hb d_Pa_prefixOperator_126 (by decide) ?_
            exact W.iret (v := 6) hx hb hr (fun t ht hW => ⟨6, rfl, (by unfold f_Pa_prefixOperator; rw [if_neg c_1, if_neg c_2, if_neg c_3, if_neg c_4, if_pos c_5]), ht⟩) (fun q h => by cases h) d_Pa_prefixOperator_128
          · refine ⟨fun c_6 => ?_, fun c_6 => ?_⟩
            · refine lv_bipush (v := 8) hx hb d_Pa_prefixOperator_132 (by decide) ?_
              exact W.iret (v := 8) hx hb hr (fun t ht hW => ⟨8, rfl, (by unfold f_Pa_prefixOperator; rw [if_neg c_1, if_neg c_2, if_neg c_3, if_neg c_4, if_neg c_5, if_pos c_6]), ht⟩) (fun q h => by cases h) d_Pa_prefixOperator_134
            · refine ⟨fun c_7 => ?_, fun c_7 => ?_⟩
              · refine lv_bipush (v := 7) hx hb d_Pa_prefixOperator_129 (by decide) ?_
                exact W.iret (v := 7) hx hb hr (fun t ht hW => ⟨7, rfl, (by unfold f_Pa_prefixOperator; rw [if_neg c_1, if_neg c_2, if_neg c_3, if_neg c_4, if_neg c_5, if_neg c_6, if_pos c_7]), ht⟩) (fun q h => by cases h) d_Pa_prefixOperator_131
              · refine ⟨fun c_8 => ?_, fun c_8 => ?_⟩
                · refine lv_iconst (v := 3) hx hb d_Pa_prefixOperator_120 (by decide) ?_
                  exact W.iret (v := 3) hx hb hr (fun t ht hW => ⟨3, rfl, (by unfold f_Pa_prefixOperator; rw [if_neg c_1, if_neg c_2, if_neg c_3, if_neg c_4, if_neg c_5, if_neg c_6, if_neg c_7, if_pos c_8]), ht⟩) (fun q h => by cases h) d_Pa_prefixOperator_121
                · refine ⟨fun c_9 => ?_, fun c_9 => ?_⟩
                  · refine lv_iconst (v := 4) hx hb d_Pa_prefixOperator_122 (by decide) ?_
                    exact W.iret (v := 4) hx hb hr (fun t ht hW => ⟨4, rfl, (by unfold f_Pa_prefixOperator; rw [if_neg c_1, if_neg c_2, if_neg c_3, if_neg c_4, if_neg c_5, if_neg c_6, if_neg c_7, if_neg c_8, if_pos c_9]), ht⟩) (fun q h => by cases h) d_Pa_prefixOperator_123
                  · refine lv_iconst (v := (-1)) hx hb d_Pa_prefixOperator_135 (by decide) ?_
                    exact W.iret (v := (-1)) hx hb hr (fun t ht hW => ⟨(-1), rfl, (by unfold f_Pa_prefixOperator; rw [if_neg c_1, if_neg c_2, if_neg c_3, if_neg c_4, if_neg c_5, if_neg c_6, if_neg c_7, if_neg c_8, if_neg c_9]), ht⟩) (fun q h => by cases h) d_Pa_prefixOperator_136
def f_Pa_wordKind (st : ST) : Int32 := (if (f_Tk_keyword (sTk st) (sAt st)) = 18 then 27 else (if (f_Tk_keyword (sTk st) (sAt st)) = 26 then 34 else (if (f_Tk_keyword (sTk st) (sAt st)) = 27 then 32 else (if (f_Tk_keyword (sTk st) (sAt st)) = 28 then 33 else 59))))
set_option maxRecDepth 100000 in
set_option maxHeartbeats 4000000 in
theorem m_Pa_wordKind (l : Launch) (dC : Nat → ClassId) (dI : Nat → Nat → Nat) (cI cZ : ClassId) (hp hc h a1 a2 a3 a4 ht b1 b2 b3 b4 hq n1 n2 : Nat) (st : ST) (hst : okSt st)  : cRd l y_Pa_wordKind c_Pa_wordKind 1 .int 1 22 (dC, dI) (ty2 cI cZ) [.ref hp] (wP cI cZ hp hc h a1 a2 a3 a4 ht b1 b2 b3 b4 hq n1 n2 st) (f_Pa_wordKind st) := by
  refine Met.ofW (cc := c_Pa_wordKind) (maxL := 1) (ret := some .int) (by decide) rfl ?_
  intro p e s m args below meth c s₁ B hml hv
  obtain ⟨rfl, hP, hK⟩ := hv
  have hx := B.exec
  have hb := B.bytes
  have hr := B.returns
  have hts0 := atoms_spec (ws := wy y_Pa_wordKind c_Pa_wordKind 1 (some .int)) B.pre
  have hts := htsL hts0
  have hown : s.vm.findClass R_Pa = some m.cls := findClass_of_methodNamed B.named
  have hlocks := B.notSynchronized
  have hl := lv_entry ([.ref hp]) (n := 1) (Nat.le_of_ble_eq_true rfl)
  rw [lg_entry_eq]
  generalize (lg_sl ([.ref hp]) ++ List.replicate (1 - (lg_sl ([.ref hp])).length) Slot.unset).toArray = ls at hl ⊢
  have hl : lv_has ls 1 [(0, .ref hp)] := hl
  refine lv_aload_n hx hb d_Pa_wordKind_0 rfl (lv_at hl 0 rfl) ?_
  refine va_get (D := (dC, dI)) (ci := 2) (v := .ref h) (C := R_Pa) (T := T_Pa) (N := 7) hx hb hts u_Pa hown hK hP 0 rfl rfl 3 (by decide) (hts _ L_212) (fun x9 h9 => u_same (hts _ L_213) x9 h9) rfl d_Pa_wordKind_1 ?_
  refine lv_aload_n hx hb d_Pa_wordKind_4 rfl (lv_at hl 0 rfl) ?_
  refine va_get (D := (dC, dI)) (ci := 2) (v := .int (sAt st)) (C := R_Pa) (T := T_Pa) (N := 7) hx hb hts u_Pa hown hK hP 0 rfl rfl 4 (by decide) (hts _ L_215) (fun x9 h9 => u_same (hts _ L_216) x9 h9) rfl d_Pa_wordKind_5 ?_
  refine rd_V (v := (f_Tk_keyword (sTk st) (sAt st))) (As := [.int (sAt st)]) (rest := []) ⟨hx, hb, hml, hown, hts0⟩ (m_Tk_keyword l dC dI cI cZ h a1 a2 a3 a4 (sTk st) hst.1 (sAt st)) hP hK [2, 3, 4, 5, 6] rfl [0, 1] rfl 0 3 rfl rfl L_564 L_446 L_447 L_84 L_448 ⟨rfl, k_Tk_keyword⟩ ⟨Nat.le_of_ble_eq_true rfl, Nat.le_of_ble_eq_true rfl⟩ hl.1 ⟨Nat.zero_le _, Nat.zero_le _⟩ (Nat.le_of_ble_eq_true rfl) d_Pa_wordKind_8 rfl ?_
  refine sw_look hx hb [(18, 52), (26, 61), (27, 55), (28, 58)] 64 d_Pa_wordKind_11 (by decide +kernel) (by decide) (by decide +kernel) ?_
  refine ⟨fun c_1 => ?_, fun c_1 => ?_⟩
  · refine lv_bipush (v := 27) hx hb d_Pa_wordKind_52 (by decide) ?_
    exact W.iret (v := 27) hx hb hr (fun t ht hW => ⟨27, rfl, (by unfold f_Pa_wordKind; rw [if_pos c_1]), ht⟩) (fun q h => by cases h) d_Pa_wordKind_54
  · refine ⟨fun c_2 => ?_, fun c_2 => ?_⟩
    · refine lv_bipush (v := 34) hx hb d_Pa_wordKind_61 (by decide) ?_
      exact W.iret (v := 34) hx hb hr (fun t ht hW => ⟨34, rfl, (by unfold f_Pa_wordKind; rw [if_neg c_1, if_pos c_2]), ht⟩) (fun q h => by cases h) d_Pa_wordKind_63
    · refine ⟨fun c_3 => ?_, fun c_3 => ?_⟩
      · refine lv_bipush (v := 32) hx hb d_Pa_wordKind_55 (by decide) ?_
        exact W.iret (v := 32) hx hb hr (fun t ht hW => ⟨32, rfl, (by unfold f_Pa_wordKind; rw [if_neg c_1, if_neg c_2, if_pos c_3]), ht⟩) (fun q h => by cases h) d_Pa_wordKind_57
      · refine ⟨fun c_4 => ?_, fun c_4 => ?_⟩
        · refine lv_bipush (v := 33) hx hb d_Pa_wordKind_58 (by decide) ?_
          exact W.iret (v := 33) hx hb hr (fun t ht hW => ⟨33, rfl, (by unfold f_Pa_wordKind; rw [if_neg c_1, if_neg c_2, if_neg c_3, if_pos c_4]), ht⟩) (fun q h => by cases h) d_Pa_wordKind_60
        · refine lv_bipush (v := 59) hx hb d_Pa_wordKind_64 (by decide) ?_
          exact W.iret (v := 59) hx hb hr (fun t ht hW => ⟨59, rfl, (by unfold f_Pa_wordKind; rw [if_neg c_1, if_neg c_2, if_neg c_3, if_neg c_4]), ht⟩) (fun q h => by cases h) d_Pa_wordKind_66
def f_Pa_leafKind (st : ST) : Int32 := (if (f_Tk_kind (sTk st) (sAt st)) = 1 then (if (f_Cu_atIdentifier st) = 0 then (f_Pa_wordKind st) else 28) else (if (f_Tk_kind (sTk st) (sAt st)) = 2 then 29 else (if (f_Tk_kind (sTk st) (sAt st)) = 3 then 30 else (if (f_Tk_kind (sTk st) (sAt st)) = 5 then 31 else 59))))
set_option maxRecDepth 100000 in
set_option maxHeartbeats 4000000 in
theorem m_Pa_leafKind (l : Launch) (dC : Nat → ClassId) (dI : Nat → Nat → Nat) (cI cZ : ClassId) (hp hc h a1 a2 a3 a4 ht b1 b2 b3 b4 hq n1 n2 : Nat) (st : ST) (hst : okSt st)  : cRd l y_Pa_leafKind c_Pa_leafKind 1 .int 2 43 (dC, dI) (ty2 cI cZ) [.ref hp] (wP cI cZ hp hc h a1 a2 a3 a4 ht b1 b2 b3 b4 hq n1 n2 st) (f_Pa_leafKind st) := by
  refine Met.ofW (cc := c_Pa_leafKind) (maxL := 1) (ret := some .int) (by decide) rfl ?_
  intro p e s m args below meth c s₁ B hml hv
  obtain ⟨rfl, hP, hK⟩ := hv
  have hx := B.exec
  have hb := B.bytes
  have hr := B.returns
  have hts0 := atoms_spec (ws := wy y_Pa_leafKind c_Pa_leafKind 1 (some .int)) B.pre
  have hts := htsL hts0
  have hown : s.vm.findClass R_Pa = some m.cls := findClass_of_methodNamed B.named
  have hlocks := B.notSynchronized
  have hl := lv_entry ([.ref hp]) (n := 1) (Nat.le_of_ble_eq_true rfl)
  rw [lg_entry_eq]
  generalize (lg_sl ([.ref hp]) ++ List.replicate (1 - (lg_sl ([.ref hp])).length) Slot.unset).toArray = ls at hl ⊢
  have hl : lv_has ls 1 [(0, .ref hp)] := hl
  refine lv_aload_n hx hb d_Pa_leafKind_0 rfl (lv_at hl 0 rfl) ?_
  refine va_get (D := (dC, dI)) (ci := 2) (v := .ref h) (C := R_Pa) (T := T_Pa) (N := 7) hx hb hts u_Pa hown hK hP 0 rfl rfl 3 (by decide) (hts _ L_212) (fun x9 h9 => u_same (hts _ L_213) x9 h9) rfl d_Pa_leafKind_1 ?_
  refine lv_aload_n hx hb d_Pa_leafKind_4 rfl (lv_at hl 0 rfl) ?_
  refine va_get (D := (dC, dI)) (ci := 2) (v := .int (sAt st)) (C := R_Pa) (T := T_Pa) (N := 7) hx hb hts u_Pa hown hK hP 0 rfl rfl 4 (by decide) (hts _ L_215) (fun x9 h9 => u_same (hts _ L_216) x9 h9) rfl d_Pa_leafKind_5 ?_
  refine rd_V (v := (f_Tk_kind (sTk st) (sAt st))) (As := [.int (sAt st)]) (rest := []) ⟨hx, hb, hml, hown, hts0⟩ (m_Tk_kind l dC dI cI cZ h a1 a2 a3 a4 (sTk st) hst.1 (sAt st)) hP hK [2, 3, 4, 5, 6] rfl [0, 1] rfl 0 3 rfl rfl L_617 L_436 L_437 L_84 L_438 ⟨rfl, k_Tk_kind⟩ ⟨Nat.le_of_ble_eq_true rfl, Nat.le_of_ble_eq_true rfl⟩ hl.1 ⟨Nat.zero_le _, Nat.zero_le _⟩ (Nat.le_of_ble_eq_true rfl) d_Pa_leafKind_8 rfl ?_
  refine sw_tab hx hb [(1, 44), (2, 61), (3, 64), (5, 67)] 70 d_Pa_leafKind_11 (by decide +kernel) (by decide) (by decide +kernel) ?_
  refine ⟨fun c_1 => ?_, fun c_1 => ?_⟩
  · refine lv_aload_n hx hb d_Pa_leafKind_44 rfl (lv_at hl 0 rfl) ?_
    refine rd_U (xm := ⟨"SyntaxTree$Parser", "atIdentifier", "()Z"⟩) (owner := R_Cu) (v := (f_Cu_atIdentifier st)) (As := []) (rest := []) ⟨hx, hb, hml, hown, hts0⟩ (m_Cu_atIdentifier l dC dI cI cZ hp hc h a1 a2 a3 a4 ht b1 b2 b3 b4 hq n1 n2 st hst ) hP hK [0, 1, 2, 3, 4, 5, 6, 7, 8, 9, 10, 11, 12, 13, 14] rfl [0, 1] rfl 0 2 rfl rfl L_651 L_652 L_654 L_655 L_86 L_656 rfl k_Cu_atIdentifier ⟨Nat.le_of_ble_eq_true rfl, Nat.le_of_ble_eq_true rfl⟩ hl.1 ⟨Nat.zero_le _, Nat.zero_le _⟩ (Nat.le_of_ble_eq_true rfl) d_Pa_leafKind_45 rfl ?_
    refine lv_if_eq (tgt := 56) hx hb d_Pa_leafKind_48 (by decide) (fun c_2 => ?_) (fun c_2 => ?_)
    · refine lv_aload_n hx hb d_Pa_leafKind_56 rfl (lv_at hl 0 rfl) ?_
      refine rd_V (v := (f_Pa_wordKind st)) (As := []) (rest := []) ⟨hx, hb, hml, hown, hts0⟩ (m_Pa_wordKind l dC dI cI cZ hp hc h a1 a2 a3 a4 ht b1 b2 b3 b4 hq n1 n2 st hst ) hP hK [0, 1, 2, 3, 4, 5, 6, 7, 8, 9, 10, 11, 12, 13, 14] rfl [0, 1] rfl 0 2 rfl rfl L_657 L_659 L_26 L_87 L_660 ⟨rfl, k_Pa_wordKind⟩ ⟨Nat.le_of_ble_eq_true rfl, Nat.le_of_ble_eq_true rfl⟩ hl.1 ⟨Nat.zero_le _, Nat.zero_le _⟩ (Nat.le_of_ble_eq_true rfl) d_Pa_leafKind_57 rfl ?_
      exact W.iret (v := (f_Pa_wordKind st)) hx hb hr (fun t ht hW => ⟨(f_Pa_wordKind st), rfl, (by unfold f_Pa_leafKind; rw [if_pos c_1, if_pos c_2]), ht⟩) (fun q h => by cases h) d_Pa_leafKind_60
    · refine lv_bipush (v := 28) hx hb d_Pa_leafKind_51 (by decide) ?_
      refine lv_goto (tgt := 60) hx hb d_Pa_leafKind_53 (by decide) ?_
      exact W.iret (v := 28) hx hb hr (fun t ht hW => ⟨28, rfl, (by unfold f_Pa_leafKind; rw [if_pos c_1, if_neg c_2]), ht⟩) (fun q h => by cases h) d_Pa_leafKind_60
  · refine ⟨fun c_3 => ?_, fun c_3 => ?_⟩
    · refine lv_bipush (v := 29) hx hb d_Pa_leafKind_61 (by decide) ?_
      exact W.iret (v := 29) hx hb hr (fun t ht hW => ⟨29, rfl, (by unfold f_Pa_leafKind; rw [if_neg c_1, if_pos c_3]), ht⟩) (fun q h => by cases h) d_Pa_leafKind_63
    · refine ⟨fun c_4 => ?_, fun c_4 => ?_⟩
      · refine lv_bipush (v := 30) hx hb d_Pa_leafKind_64 (by decide) ?_
        exact W.iret (v := 30) hx hb hr (fun t ht hW => ⟨30, rfl, (by unfold f_Pa_leafKind; rw [if_neg c_1, if_neg c_3, if_pos c_4]), ht⟩) (fun q h => by cases h) d_Pa_leafKind_66
      · refine ⟨fun c_5 => ?_, fun c_5 => ?_⟩
        · refine lv_bipush (v := 31) hx hb d_Pa_leafKind_67 (by decide) ?_
          exact W.iret (v := 31) hx hb hr (fun t ht hW => ⟨31, rfl, (by unfold f_Pa_leafKind; rw [if_neg c_1, if_neg c_3, if_neg c_4, if_pos c_5]), ht⟩) (fun q h => by cases h) d_Pa_leafKind_69
        · refine lv_bipush (v := 59) hx hb d_Pa_leafKind_70 (by decide) ?_
          exact W.iret (v := 59) hx hb hr (fun t ht hW => ⟨59, rfl, (by unfold f_Pa_leafKind; rw [if_neg c_1, if_neg c_3, if_neg c_4, if_neg c_5]), ht⟩) (fun q h => by cases h) d_Pa_leafKind_72
def f_Pa_propertyKind (st : ST) : Int32 := (if (f_Tk_kind (sTk st) (sAt st)) = 1 then (if (f_Tk_propertyName (sTk st) ((sAt st) + 1)) = 0 then 47 else (if (f_Tk_name (sTk st) (sAt st)) = 2 then 48 else (if (f_Tk_name (sTk st) (sAt st)) = 3 then 49 else 47))) else 47)
set_option maxRecDepth 100000 in
set_option maxHeartbeats 4000000 in
theorem m_Pa_propertyKind (l : Launch) (dC : Nat → ClassId) (dI : Nat → Nat → Nat) (cI cZ : ClassId) (hp hc h a1 a2 a3 a4 ht b1 b2 b3 b4 hq n1 n2 : Nat) (st : ST) (hst : okSt st)  : cRd l y_Pa_propertyKind c_Pa_propertyKind 2 .int 2 43 (dC, dI) (ty2 cI cZ) [.ref hp] (wP cI cZ hp hc h a1 a2 a3 a4 ht b1 b2 b3 b4 hq n1 n2 st) (f_Pa_propertyKind st) := by
  refine Met.ofW (cc := c_Pa_propertyKind) (maxL := 2) (ret := some .int) (by decide) rfl ?_
  intro p e s m args below meth c s₁ B hml hv
  obtain ⟨rfl, hP, hK⟩ := hv
  have hx := B.exec
  have hb := B.bytes
  have hr := B.returns
  have hts0 := atoms_spec (ws := wy y_Pa_propertyKind c_Pa_propertyKind 2 (some .int)) B.pre
  have hts := htsL hts0
  have hown : s.vm.findClass R_Pa = some m.cls := findClass_of_methodNamed B.named
  have hlocks := B.notSynchronized
  have hl := lv_entry ([.ref hp]) (n := 2) (Nat.le_of_ble_eq_true rfl)
  rw [lg_entry_eq]
  generalize (lg_sl ([.ref hp]) ++ List.replicate (2 - (lg_sl ([.ref hp])).length) Slot.unset).toArray = ls at hl ⊢
  have hl : lv_has ls 2 [(0, .ref hp)] := hl
  refine lv_aload_n hx hb d_Pa_propertyKind_0 rfl (lv_at hl 0 rfl) ?_
  refine va_get (D := (dC, dI)) (ci := 2) (v := .ref h) (C := R_Pa) (T := T_Pa) (N := 7) hx hb hts u_Pa hown hK hP 0 rfl rfl 3 (by decide) (hts _ L_212) (fun x9 h9 => u_same (hts _ L_213) x9 h9) rfl d_Pa_propertyKind_1 ?_
  refine lv_aload_n hx hb d_Pa_propertyKind_4 rfl (lv_at hl 0 rfl) ?_
  refine va_get (D := (dC, dI)) (ci := 2) (v := .int (sAt st)) (C := R_Pa) (T := T_Pa) (N := 7) hx hb hts u_Pa hown hK hP 0 rfl rfl 4 (by decide) (hts _ L_215) (fun x9 h9 => u_same (hts _ L_216) x9 h9) rfl d_Pa_propertyKind_5 ?_
  refine rd_V (v := (f_Tk_kind (sTk st) (sAt st))) (As := [.int (sAt st)]) (rest := []) ⟨hx, hb, hml, hown, hts0⟩ (m_Tk_kind l dC dI cI cZ h a1 a2 a3 a4 (sTk st) hst.1 (sAt st)) hP hK [2, 3, 4, 5, 6] rfl [0, 1] rfl 0 3 rfl rfl L_617 L_436 L_437 L_84 L_438 ⟨rfl, k_Tk_kind⟩ ⟨Nat.le_of_ble_eq_true rfl, Nat.le_of_ble_eq_true rfl⟩ hl.1 ⟨Nat.zero_le _, Nat.zero_le _⟩ (Nat.le_of_ble_eq_true rfl) d_Pa_propertyKind_8 rfl ?_
  refine lv_iconst (v := 1) hx hb d_Pa_propertyKind_11 (by decide) ?_
  refine lv_icmp_ne (tgt := 35) hx hb d_Pa_propertyKind_12 (by decide) (fun c_1 => ?_) (fun c_1 => ?_)
  · refine lv_iconst (v := 0) hx hb d_Pa_propertyKind_35 (by decide) ?_
    refine lv_istore_n (lv' := [(1, .int 0), (0, .ref hp)]) hx hb d_Pa_propertyKind_36 rfl hl (by decide) rfl (fun ls hl => ?_)
    refine lv_iload_n hx hb d_Pa_propertyKind_37 rfl (lv_at hl 0 rfl) ?_
    refine lv_if_eq (tgt := 59) hx hb d_Pa_propertyKind_38 (by decide) (fun _ => ?_) (fun q9 => absurd q9 (by decide))
    refine lv_iload_n hx hb d_Pa_propertyKind_59 rfl (lv_at hl 0 rfl) ?_
    refine lv_if_eq (tgt := 81) hx hb d_Pa_propertyKind_60 (by decide) (fun _ => ?_) (fun q9 => absurd q9 (by decide))
    refine lv_bipush (v := 47) hx hb d_Pa_propertyKind_81 (by decide) ?_
    exact W.iret (v := 47) hx hb hr (fun t ht hW => ⟨47, rfl, (by unfold f_Pa_propertyKind; rw [if_neg c_1]), ht⟩) (fun q h => by cases h) d_Pa_propertyKind_83
  · refine lv_aload_n hx hb d_Pa_propertyKind_15 rfl (lv_at hl 0 rfl) ?_
    refine va_get (D := (dC, dI)) (ci := 2) (v := .ref h) (C := R_Pa) (T := T_Pa) (N := 7) hx hb hts u_Pa hown hK hP 0 rfl rfl 3 (by decide) (hts _ L_212) (fun x9 h9 => u_same (hts _ L_213) x9 h9) rfl d_Pa_propertyKind_16 ?_
    refine lv_aload_n hx hb d_Pa_propertyKind_19 rfl (lv_at hl 0 rfl) ?_
    refine va_get (D := (dC, dI)) (ci := 2) (v := .int (sAt st)) (C := R_Pa) (T := T_Pa) (N := 7) hx hb hts u_Pa hown hK hP 0 rfl rfl 4 (by decide) (hts _ L_215) (fun x9 h9 => u_same (hts _ L_216) x9 h9) rfl d_Pa_propertyKind_20 ?_
    refine lv_iconst (v := 1) hx hb d_Pa_propertyKind_23 (by decide) ?_
    refine lv_iadd hx hb d_Pa_propertyKind_24 ?_
    refine rd_V (v := (f_Tk_propertyName (sTk st) ((sAt st) + 1))) (As := [.int ((sAt st) + 1)]) (rest := []) ⟨hx, hb, hml, hown, hts0⟩ (m_Tk_propertyName l dC dI cI cZ h a1 a2 a3 a4 (sTk st) hst.1 ((sAt st) + 1)) hP hK [2, 3, 4, 5, 6] rfl [0, 1] rfl 0 3 rfl rfl L_618 L_619 L_620 L_84 L_621 ⟨rfl, k_Tk_propertyName⟩ ⟨Nat.le_of_ble_eq_true rfl, Nat.le_of_ble_eq_true rfl⟩ hl.1 ⟨Nat.zero_le _, Nat.zero_le _⟩ (Nat.le_of_ble_eq_true rfl) d_Pa_propertyKind_25 rfl ?_
    refine lv_if_eq (tgt := 35) hx hb d_Pa_propertyKind_28 (by decide) (fun c_2 => ?_) (fun c_2 => ?_)
    · refine lv_iconst (v := 0) hx hb d_Pa_propertyKind_35 (by decide) ?_
      refine lv_istore_n (lv' := [(1, .int 0), (0, .ref hp)]) hx hb d_Pa_propertyKind_36 rfl hl (by decide) rfl (fun ls hl => ?_)
      refine lv_iload_n hx hb d_Pa_propertyKind_37 rfl (lv_at hl 0 rfl) ?_
      refine lv_if_eq (tgt := 59) hx hb d_Pa_propertyKind_38 (by decide) (fun _ => ?_) (fun q9 => absurd q9 (by decide))
      refine lv_iload_n hx hb d_Pa_propertyKind_59 rfl (lv_at hl 0 rfl) ?_
      refine lv_if_eq (tgt := 81) hx hb d_Pa_propertyKind_60 (by decide) (fun _ => ?_) (fun q9 => absurd q9 (by decide))
      refine lv_bipush (v := 47) hx hb d_Pa_propertyKind_81 (by decide) ?_
      exact W.iret (v := 47) hx hb hr (fun t ht hW => ⟨47, rfl, (by unfold f_Pa_propertyKind; rw [if_pos c_1, if_pos c_2]), ht⟩) (fun q h => by cases h) d_Pa_propertyKind_83
    · refine lv_iconst (v := 1) hx hb d_Pa_propertyKind_31 (by decide) ?_
      refine lv_goto (tgt := 36) hx hb d_Pa_propertyKind_32 (by decide) ?_
      refine lv_istore_n (lv' := [(1, .int 1), (0, .ref hp)]) hx hb d_Pa_propertyKind_36 rfl hl (by decide) rfl (fun ls hl => ?_)
      refine lv_iload_n hx hb d_Pa_propertyKind_37 rfl (lv_at hl 0 rfl) ?_
      refine lv_if_eq (tgt := 59) hx hb d_Pa_propertyKind_38 (by decide) (fun q9 => absurd q9 (by decide)) (fun _ => ?_)
      refine lv_aload_n hx hb d_Pa_propertyKind_41 rfl (lv_at hl 1 rfl) ?_
      refine va_get (D := (dC, dI)) (ci := 2) (v := .ref h) (C := R_Pa) (T := T_Pa) (N := 7) hx hb hts u_Pa hown hK hP 0 rfl rfl 3 (by decide) (hts _ L_212) (fun x9 h9 => u_same (hts _ L_213) x9 h9) rfl d_Pa_propertyKind_42 ?_
      refine lv_aload_n hx hb d_Pa_propertyKind_45 rfl (lv_at hl 1 rfl) ?_
      refine va_get (D := (dC, dI)) (ci := 2) (v := .int (sAt st)) (C := R_Pa) (T := T_Pa) (N := 7) hx hb hts u_Pa hown hK hP 0 rfl rfl 4 (by decide) (hts _ L_215) (fun x9 h9 => u_same (hts _ L_216) x9 h9) rfl d_Pa_propertyKind_46 ?_
      refine rd_V (v := (f_Tk_name (sTk st) (sAt st))) (As := [.int (sAt st)]) (rest := []) ⟨hx, hb, hml, hown, hts0⟩ (m_Tk_name l dC dI cI cZ h a1 a2 a3 a4 (sTk st) hst.1 (sAt st)) hP hK [2, 3, 4, 5, 6] rfl [0, 1] rfl 0 3 rfl rfl L_623 L_478 L_479 L_84 L_480 ⟨rfl, k_Tk_name⟩ ⟨Nat.le_of_ble_eq_true rfl, Nat.le_of_ble_eq_true rfl⟩ hl.1 ⟨Nat.zero_le _, Nat.zero_le _⟩ (Nat.le_of_ble_eq_true rfl) d_Pa_propertyKind_49 rfl ?_
      refine lv_iconst (v := 2) hx hb d_Pa_propertyKind_52 (by decide) ?_
      refine lv_icmp_ne (tgt := 59) hx hb d_Pa_propertyKind_53 (by decide) (fun c_3 => ?_) (fun c_3 => ?_)
      · refine lv_iload_n hx hb d_Pa_propertyKind_59 rfl (lv_at hl 0 rfl) ?_
        refine lv_if_eq (tgt := 81) hx hb d_Pa_propertyKind_60 (by decide) (fun q9 => absurd q9 (by decide)) (fun _ => ?_)
        refine lv_aload_n hx hb d_Pa_propertyKind_63 rfl (lv_at hl 1 rfl) ?_
        refine va_get (D := (dC, dI)) (ci := 2) (v := .ref h) (C := R_Pa) (T := T_Pa) (N := 7) hx hb hts u_Pa hown hK hP 0 rfl rfl 3 (by decide) (hts _ L_212) (fun x9 h9 => u_same (hts _ L_213) x9 h9) rfl d_Pa_propertyKind_64 ?_
        refine lv_aload_n hx hb d_Pa_propertyKind_67 rfl (lv_at hl 1 rfl) ?_
        refine va_get (D := (dC, dI)) (ci := 2) (v := .int (sAt st)) (C := R_Pa) (T := T_Pa) (N := 7) hx hb hts u_Pa hown hK hP 0 rfl rfl 4 (by decide) (hts _ L_215) (fun x9 h9 => u_same (hts _ L_216) x9 h9) rfl d_Pa_propertyKind_68 ?_
        refine rd_V (v := (f_Tk_name (sTk st) (sAt st))) (As := [.int (sAt st)]) (rest := []) ⟨hx, hb, hml, hown, hts0⟩ (m_Tk_name l dC dI cI cZ h a1 a2 a3 a4 (sTk st) hst.1 (sAt st)) hP hK [2, 3, 4, 5, 6] rfl [0, 1] rfl 0 3 rfl rfl L_623 L_478 L_479 L_84 L_480 ⟨rfl, k_Tk_name⟩ ⟨Nat.le_of_ble_eq_true rfl, Nat.le_of_ble_eq_true rfl⟩ hl.1 ⟨Nat.zero_le _, Nat.zero_le _⟩ (Nat.le_of_ble_eq_true rfl) d_Pa_propertyKind_71 rfl ?_
        refine lv_iconst (v := 3) hx hb d_Pa_propertyKind_74 (by decide) ?_
        refine lv_icmp_ne (tgt := 81) hx hb d_Pa_propertyKind_75 (by decide) (fun c_4 => ?_) (fun c_4 => ?_)
        · refine lv_bipush (v := 47) hx hb d_Pa_propertyKind_81 (by decide) ?_
          exact W.iret (v := 47) hx hb hr (fun t ht hW => ⟨47, rfl, (by unfold f_Pa_propertyKind; rw [if_pos c_1, if_neg c_2, if_neg c_3, if_neg c_4]), ht⟩) (fun q h => by cases h) d_Pa_propertyKind_83
        · refine lv_bipush (v := 49) hx hb d_Pa_propertyKind_78 (by decide) ?_
          exact W.iret (v := 49) hx hb hr (fun t ht hW => ⟨49, rfl, (by unfold f_Pa_propertyKind; rw [if_pos c_1, if_neg c_2, if_neg c_3, if_pos c_4]), ht⟩) (fun q h => by cases h) d_Pa_propertyKind_80
      · refine lv_bipush (v := 48) hx hb d_Pa_propertyKind_56 (by decide) ?_
        exact W.iret (v := 48) hx hb hr (fun t ht hW => ⟨48, rfl, (by unfold f_Pa_propertyKind; rw [if_pos c_1, if_neg c_2, if_pos c_3]), ht⟩) (fun q h => by cases h) d_Pa_propertyKind_58
def f_Pa_mayBeBound (st : ST) (i : Int32) : Int32 := (if (f_Tk_identifier (sTk st) i 1) = 0 then 0 else (if (f_Tk_evalOrArguments (f_Tk_name (sTk st) i)) = 0 then 1 else 0))
theorem f_Pa_mayBeBound_b {st : ST} {i : Int32} : f_Pa_mayBeBound st i = 0 ∨ f_Pa_mayBeBound st i = 1 := by
  unfold f_Pa_mayBeBound
  repeat' split
  all_goals first | exact Or.inl rfl | exact Or.inr rfl | exact f_Tk_evalOrArguments_b | exact f_Tk_identifier_b | exact f_Tk_name_b
set_option maxRecDepth 100000 in
set_option maxHeartbeats 4000000 in
theorem m_Pa_mayBeBound (l : Launch) (dC : Nat → ClassId) (dI : Nat → Nat → Nat) (cI cZ : ClassId) (hp hc h a1 a2 a3 a4 ht b1 b2 b3 b4 hq n1 n2 : Nat) (st : ST) (hst : okSt st) (i : Int32) : cRd l y_Pa_mayBeBound c_Pa_mayBeBound 2 .boolean 1 23 (dC, dI) (ty2 cI cZ) [.ref hp, .int i] (wP cI cZ hp hc h a1 a2 a3 a4 ht b1 b2 b3 b4 hq n1 n2 st) (f_Pa_mayBeBound st i) := by
  refine Met.ofW (cc := c_Pa_mayBeBound) (maxL := 2) (ret := some .boolean) (by decide) rfl ?_
  intro p e s m args below meth c s₁ B hml hv
  obtain ⟨rfl, hP, hK⟩ := hv
  have hx := B.exec
  have hb := B.bytes
  have hr := B.returns
  have hts0 := atoms_spec (ws := wy y_Pa_mayBeBound c_Pa_mayBeBound 2 (some .boolean)) B.pre
  have hts := htsL hts0
  have hown : s.vm.findClass R_Pa = some m.cls := findClass_of_methodNamed B.named
  have hlocks := B.notSynchronized
  have hl := lv_entry ([.ref hp, .int i]) (n := 2) (Nat.le_of_ble_eq_true rfl)
  rw [lg_entry_eq]
  generalize (lg_sl ([.ref hp, .int i]) ++ List.replicate (2 - (lg_sl ([.ref hp, .int i])).length) Slot.unset).toArray = ls at hl ⊢
  have hl : lv_has ls 2 [(0, .ref hp), (1, .int i)] := hl
  refine lv_aload_n hx hb d_Pa_mayBeBound_0 rfl (lv_at hl 0 rfl) ?_
  refine va_get (D := (dC, dI)) (ci := 2) (v := .ref h) (C := R_Pa) (T := T_Pa) (N := 7) hx hb hts u_Pa hown hK hP 0 rfl rfl 3 (by decide) (hts _ L_212) (fun x9 h9 => u_same (hts _ L_213) x9 h9) rfl d_Pa_mayBeBound_1 ?_
  refine lv_iload_n hx hb d_Pa_mayBeBound_4 rfl (lv_at hl 1 rfl) ?_
  refine lv_iconst (v := 1) hx hb d_Pa_mayBeBound_5 (by decide) ?_
  refine rd_V (v := (f_Tk_identifier (sTk st) i 1)) (As := [.int i, .int 1]) (rest := []) ⟨hx, hb, hml, hown, hts0⟩ (m_Tk_identifier l dC dI cI cZ h a1 a2 a3 a4 (sTk st) hst.1 i 1) hP hK [2, 3, 4, 5, 6] rfl [0, 1] rfl 0 3 rfl rfl L_865 L_485 L_486 L_84 L_487 ⟨rfl, k_Tk_identifier⟩ ⟨Nat.le_of_ble_eq_true rfl, Nat.le_of_ble_eq_true rfl⟩ hl.1 ⟨Nat.zero_le _, Nat.zero_le _⟩ (Nat.le_of_ble_eq_true rfl) d_Pa_mayBeBound_6 rfl ?_
  refine lv_if_eq (tgt := 30) hx hb d_Pa_mayBeBound_9 (by decide) (fun c_1 => ?_) (fun c_1 => ?_)
  · refine lv_iconst (v := 0) hx hb d_Pa_mayBeBound_30 (by decide) ?_
    exact W.zret (v := 0) hx hb hr rfl (fun t ht hW => ⟨0, rfl, (by unfold f_Pa_mayBeBound; rw [if_pos c_1]), ht⟩) (fun q h => by cases h) d_Pa_mayBeBound_31
  · refine lv_aload_n hx hb d_Pa_mayBeBound_12 rfl (lv_at hl 0 rfl) ?_
    refine va_get (D := (dC, dI)) (ci := 2) (v := .ref h) (C := R_Pa) (T := T_Pa) (N := 7) hx hb hts u_Pa hown hK hP 0 rfl rfl 3 (by decide) (hts _ L_212) (fun x9 h9 => u_same (hts _ L_213) x9 h9) rfl d_Pa_mayBeBound_13 ?_
    refine lv_iload_n hx hb d_Pa_mayBeBound_16 rfl (lv_at hl 1 rfl) ?_
    refine rd_V (v := (f_Tk_name (sTk st) i)) (As := [.int i]) (rest := []) ⟨hx, hb, hml, hown, hts0⟩ (m_Tk_name l dC dI cI cZ h a1 a2 a3 a4 (sTk st) hst.1 i) hP hK [2, 3, 4, 5, 6] rfl [0, 1] rfl 0 3 rfl rfl L_623 L_478 L_479 L_84 L_480 ⟨rfl, k_Tk_name⟩ ⟨Nat.le_of_ble_eq_true rfl, Nat.le_of_ble_eq_true rfl⟩ hl.1 ⟨Nat.zero_le _, Nat.zero_le _⟩ (Nat.le_of_ble_eq_true rfl) d_Pa_mayBeBound_17 rfl ?_
    refine rd_S (v := (f_Tk_evalOrArguments (f_Tk_name (sTk st) i))) (As := [.int (f_Tk_name (sTk st) i)]) (rest := []) ⟨hx, hb, hml, hown, hts0⟩ (m_Tk_evalOrArguments l dC dI cI cZ  (f_Tk_name (sTk st) i)) hP hK [] rfl [0, 1] rfl L_590 L_482 L_84 L_483 k_Tk_evalOrArguments ⟨Nat.le_of_ble_eq_true rfl, Nat.le_of_ble_eq_true rfl⟩ hl.1 ⟨Nat.zero_le _, Nat.zero_le _⟩ (Nat.le_of_ble_eq_true rfl) d_Pa_mayBeBound_20 rfl ?_
    refine lv_if_ne (tgt := 30) hx hb d_Pa_mayBeBound_23 (by decide) (fun c_2 => ?_) (fun c_2 => ?_)
    · refine lv_iconst (v := 0) hx hb d_Pa_mayBeBound_30 (by decide) ?_
      exact W.zret (v := 0) hx hb hr rfl (fun t ht hW => ⟨0, rfl, (by unfold f_Pa_mayBeBound; rw [if_neg c_1, if_neg c_2]), ht⟩) (fun q h => by cases h) d_Pa_mayBeBound_31
    · refine lv_iconst (v := 1) hx hb d_Pa_mayBeBound_26 (by decide) ?_
      refine lv_goto (tgt := 31) hx hb d_Pa_mayBeBound_27 (by decide) ?_
      exact W.zret (v := 1) hx hb hr rfl (fun t ht hW => ⟨1, rfl, (by unfold f_Pa_mayBeBound; rw [if_neg c_1, if_pos c_2]), ht⟩) (fun q h => by cases h) d_Pa_mayBeBound_31
def f_Pa_atClauseEnd (st : ST) : Int32 := (if (f_Cu_atWord st 1) = 0 then (if (f_Cu_atWord st 5) = 0 then (if (f_Cu_atSign st 65) = 0 then 0 else 1) else 1) else 1)
theorem f_Pa_atClauseEnd_b {st : ST} : f_Pa_atClauseEnd st = 0 ∨ f_Pa_atClauseEnd st = 1 := by
  unfold f_Pa_atClauseEnd
  repeat' split
  all_goals first | exact Or.inl rfl | exact Or.inr rfl | exact f_Cu_atSign_b | exact f_Cu_atWord_b
set_option maxRecDepth 100000 in
set_option maxHeartbeats 4000000 in
theorem m_Pa_atClauseEnd (l : Launch) (dC : Nat → ClassId) (dI : Nat → Nat → Nat) (cI cZ : ClassId) (hp hc h a1 a2 a3 a4 ht b1 b2 b3 b4 hq n1 n2 : Nat) (st : ST) (hst : okSt st)  : cRd l y_Pa_atClauseEnd c_Pa_atClauseEnd 1 .boolean 2 43 (dC, dI) (ty2 cI cZ) [.ref hp] (wP cI cZ hp hc h a1 a2 a3 a4 ht b1 b2 b3 b4 hq n1 n2 st) (f_Pa_atClauseEnd st) := by
  refine Met.ofW (cc := c_Pa_atClauseEnd) (maxL := 1) (ret := some .boolean) (by decide) rfl ?_
  intro p e s m args below meth c s₁ B hml hv
  obtain ⟨rfl, hP, hK⟩ := hv
  have hx := B.exec
  have hb := B.bytes
  have hr := B.returns
  have hts0 := atoms_spec (ws := wy y_Pa_atClauseEnd c_Pa_atClauseEnd 1 (some .boolean)) B.pre
  have hts := htsL hts0
  have hown : s.vm.findClass R_Pa = some m.cls := findClass_of_methodNamed B.named
  have hlocks := B.notSynchronized
  have hl := lv_entry ([.ref hp]) (n := 1) (Nat.le_of_ble_eq_true rfl)
  rw [lg_entry_eq]
  generalize (lg_sl ([.ref hp]) ++ List.replicate (1 - (lg_sl ([.ref hp])).length) Slot.unset).toArray = ls at hl ⊢
  have hl : lv_has ls 1 [(0, .ref hp)] := hl
  refine lv_aload_n hx hb d_Pa_atClauseEnd_0 rfl (lv_at hl 0 rfl) ?_
  refine lv_iconst (v := 1) hx hb d_Pa_atClauseEnd_1 (by decide) ?_
  refine rd_U (xm := ⟨"SyntaxTree$Parser", "atWord", "(I)Z"⟩) (owner := R_Cu) (v := (f_Cu_atWord st 1)) (As := [.int 1]) (rest := []) ⟨hx, hb, hml, hown, hts0⟩ (m_Cu_atWord l dC dI cI cZ hp hc h a1 a2 a3 a4 ht b1 b2 b3 b4 hq n1 n2 st hst 1) hP hK [0, 1, 2, 3, 4, 5, 6, 7, 8, 9, 10, 11, 12, 13, 14] rfl [0, 1] rfl 0 2 rfl rfl L_439 L_440 L_442 L_443 L_86 L_444 rfl k_Cu_atWord ⟨Nat.le_of_ble_eq_true rfl, Nat.le_of_ble_eq_true rfl⟩ hl.1 ⟨Nat.zero_le _, Nat.zero_le _⟩ (Nat.le_of_ble_eq_true rfl) d_Pa_atClauseEnd_2 rfl ?_
  refine lv_if_ne (tgt := 25) hx hb d_Pa_atClauseEnd_5 (by decide) (fun c_1 => ?_) (fun c_1 => ?_)
  · refine lv_iconst (v := 1) hx hb d_Pa_atClauseEnd_25 (by decide) ?_
    refine lv_goto (tgt := 30) hx hb d_Pa_atClauseEnd_26 (by decide) ?_
    exact W.zret (v := 1) hx hb hr rfl (fun t ht hW => ⟨1, rfl, (by unfold f_Pa_atClauseEnd; rw [if_neg c_1]), ht⟩) (fun q h => by cases h) d_Pa_atClauseEnd_30
  · refine lv_aload_n hx hb d_Pa_atClauseEnd_8 rfl (lv_at hl 0 rfl) ?_
    refine lv_iconst (v := 5) hx hb d_Pa_atClauseEnd_9 (by decide) ?_
    refine rd_U (xm := ⟨"SyntaxTree$Parser", "atWord", "(I)Z"⟩) (owner := R_Cu) (v := (f_Cu_atWord st 5)) (As := [.int 5]) (rest := []) ⟨hx, hb, hml, hown, hts0⟩ (m_Cu_atWord l dC dI cI cZ hp hc h a1 a2 a3 a4 ht b1 b2 b3 b4 hq n1 n2 st hst 5) hP hK [0, 1, 2, 3, 4, 5, 6, 7, 8, 9, 10, 11, 12, 13, 14] rfl [0, 1] rfl 0 2 rfl rfl L_439 L_440 L_442 L_443 L_86 L_444 rfl k_Cu_atWord ⟨Nat.le_of_ble_eq_true rfl, Nat.le_of_ble_eq_true rfl⟩ hl.1 ⟨Nat.zero_le _, Nat.zero_le _⟩ (Nat.le_of_ble_eq_true rfl) d_Pa_atClauseEnd_10 rfl ?_
    refine lv_if_ne (tgt := 25) hx hb d_Pa_atClauseEnd_13 (by decide) (fun c_2 => ?_) (fun c_2 => ?_)
    · refine lv_iconst (v := 1) hx hb d_Pa_atClauseEnd_25 (by decide) ?_
      refine lv_goto (tgt := 30) hx hb d_Pa_atClauseEnd_26 (by decide) ?_
      exact W.zret (v := 1) hx hb hr rfl (fun t ht hW => ⟨1, rfl, (by unfold f_Pa_atClauseEnd; rw [if_pos c_1, if_neg c_2]), ht⟩) (fun q h => by cases h) d_Pa_atClauseEnd_30
    · refine lv_aload_n hx hb d_Pa_atClauseEnd_16 rfl (lv_at hl 0 rfl) ?_
      refine lv_bipush (v := 65) hx hb d_Pa_atClauseEnd_17 (by decide) ?_
      refine rd_U (xm := ⟨"SyntaxTree$Parser", "atSign", "(I)Z"⟩) (owner := R_Cu) (v := (f_Cu_atSign st 65)) (As := [.int 65]) (rest := []) ⟨hx, hb, hml, hown, hts0⟩ (m_Cu_atSign l dC dI cI cZ hp hc h a1 a2 a3 a4 ht b1 b2 b3 b4 hq n1 n2 st hst 65) hP hK [0, 1, 2, 3, 4, 5, 6, 7, 8, 9, 10, 11, 12, 13, 14] rfl [0, 1] rfl 0 2 rfl rfl L_496 L_497 L_499 L_500 L_86 L_501 rfl k_Cu_atSign ⟨Nat.le_of_ble_eq_true rfl, Nat.le_of_ble_eq_true rfl⟩ hl.1 ⟨Nat.zero_le _, Nat.zero_le _⟩ (Nat.le_of_ble_eq_true rfl) d_Pa_atClauseEnd_19 rfl ?_
      refine lv_if_eq (tgt := 29) hx hb d_Pa_atClauseEnd_22 (by decide) (fun c_3 => ?_) (fun c_3 => ?_)
      · refine lv_iconst (v := 0) hx hb d_Pa_atClauseEnd_29 (by decide) ?_
        exact W.zret (v := 0) hx hb hr rfl (fun t ht hW => ⟨0, rfl, (by unfold f_Pa_atClauseEnd; rw [if_pos c_1, if_pos c_2, if_pos c_3]), ht⟩) (fun q h => by cases h) d_Pa_atClauseEnd_30
      · refine lv_iconst (v := 1) hx hb d_Pa_atClauseEnd_25 (by decide) ?_
        refine lv_goto (tgt := 30) hx hb d_Pa_atClauseEnd_26 (by decide) ?_
        exact W.zret (v := 1) hx hb hr rfl (fun t ht hW => ⟨1, rfl, (by unfold f_Pa_atClauseEnd; rw [if_pos c_1, if_pos c_2, if_neg c_3]), ht⟩) (fun q h => by cases h) d_Pa_atClauseEnd_30
def f_Pa_kindsClash (st : ST) (earlier : Int32) (later : Int32) : Int32 := (if earlier = 47 then (if later = 47 then (coS st) else (if earlier = later then 1 else 1)) else (if earlier = later then 1 else (if later = 47 then 1 else 0)))
theorem f_Pa_kindsClash_b {st : ST} {earlier : Int32} {later : Int32} (hS : coS st = 0 ∨ coS st = 1) : f_Pa_kindsClash st earlier later = 0 ∨ f_Pa_kindsClash st earlier later = 1 := by
  unfold f_Pa_kindsClash
  repeat' split
  all_goals first | exact Or.inl rfl | exact Or.inr rfl | exact Or.inl rfl | exact hS
set_option maxRecDepth 100000 in
set_option maxHeartbeats 4000000 in
theorem m_Pa_kindsClash (l : Launch) (dC : Nat → ClassId) (dI : Nat → Nat → Nat) (cI cZ : ClassId) (hp hc h a1 a2 a3 a4 ht b1 b2 b3 b4 hq n1 n2 : Nat) (st : ST) (hst : okSt st) (earlier : Int32) (later : Int32) : cRd l y_Pa_kindsClash c_Pa_kindsClash 3 .boolean 0 0 (dC, dI) (ty2 cI cZ) [.ref hp, .int earlier, .int later] (wP cI cZ hp hc h a1 a2 a3 a4 ht b1 b2 b3 b4 hq n1 n2 st) (f_Pa_kindsClash st earlier later) := by
  refine Met.ofW (cc := c_Pa_kindsClash) (maxL := 3) (ret := some .boolean) (by decide) rfl ?_
  intro p e s m args below meth c s₁ B hml hv
  obtain ⟨rfl, hP, hK⟩ := hv
  have hx := B.exec
  have hb := B.bytes
  have hr := B.returns
  have hts0 := atoms_spec (ws := wy y_Pa_kindsClash c_Pa_kindsClash 3 (some .boolean)) B.pre
  have hts := htsL hts0
  have hown : s.vm.findClass R_Pa = some m.cls := findClass_of_methodNamed B.named
  have hlocks := B.notSynchronized
  have hl := lv_entry ([.ref hp, .int earlier, .int later]) (n := 3) (Nat.le_of_ble_eq_true rfl)
  rw [lg_entry_eq]
  generalize (lg_sl ([.ref hp, .int earlier, .int later]) ++ List.replicate (3 - (lg_sl ([.ref hp, .int earlier, .int later])).length) Slot.unset).toArray = ls at hl ⊢
  have hl : lv_has ls 3 [(0, .ref hp), (1, .int earlier), (2, .int later)] := hl
  refine lv_iload_n hx hb d_Pa_kindsClash_0 rfl (lv_at hl 1 rfl) ?_
  refine lv_bipush (v := 47) hx hb d_Pa_kindsClash_1 (by decide) ?_
  refine lv_icmp_ne (tgt := 20) hx hb d_Pa_kindsClash_3 (by decide) (fun c_1 => ?_) (fun c_1 => ?_)
  · refine lv_iload_n hx hb d_Pa_kindsClash_20 rfl (lv_at hl 1 rfl) ?_
    refine lv_iload_n hx hb d_Pa_kindsClash_21 rfl (lv_at hl 2 rfl) ?_
    refine lv_icmp_eq (tgt := 37) hx hb d_Pa_kindsClash_22 (by decide) (fun c_2 => ?_) (fun c_2 => ?_)
    · refine lv_iconst (v := 1) hx hb d_Pa_kindsClash_37 (by decide) ?_
      refine lv_goto (tgt := 42) hx hb d_Pa_kindsClash_38 (by decide) ?_
      exact W.zret (v := 1) hx hb hr rfl (fun t ht hW => ⟨1, rfl, (by unfold f_Pa_kindsClash; rw [if_neg c_1, if_pos c_2]), ht⟩) (fun q h => by cases h) d_Pa_kindsClash_42
    · refine lv_iload_n hx hb d_Pa_kindsClash_25 rfl (lv_at hl 1 rfl) ?_
      refine lv_bipush (v := 47) hx hb d_Pa_kindsClash_26 (by decide) ?_
      refine lv_icmp_eq (tgt := 37) hx hb d_Pa_kindsClash_28 (by decide) (fun q9 => absurd q9 c_1) (fun _ => ?_)
      refine lv_iload_n hx hb d_Pa_kindsClash_31 rfl (lv_at hl 2 rfl) ?_
      refine lv_bipush (v := 47) hx hb d_Pa_kindsClash_32 (by decide) ?_
      refine lv_icmp_ne (tgt := 41) hx hb d_Pa_kindsClash_34 (by decide) (fun c_3 => ?_) (fun c_3 => ?_)
      · refine lv_iconst (v := 0) hx hb d_Pa_kindsClash_41 (by decide) ?_
        exact W.zret (v := 0) hx hb hr rfl (fun t ht hW => ⟨0, rfl, (by unfold f_Pa_kindsClash; rw [if_neg c_1, if_neg c_2, if_neg c_3]), ht⟩) (fun q h => by cases h) d_Pa_kindsClash_42
      · refine lv_iconst (v := 1) hx hb d_Pa_kindsClash_37 (by decide) ?_
        refine lv_goto (tgt := 42) hx hb d_Pa_kindsClash_38 (by decide) ?_
        exact W.zret (v := 1) hx hb hr rfl (fun t ht hW => ⟨1, rfl, (by unfold f_Pa_kindsClash; rw [if_neg c_1, if_neg c_2, if_pos c_3]), ht⟩) (fun q h => by cases h) d_Pa_kindsClash_42
  · refine lv_iload_n hx hb d_Pa_kindsClash_6 rfl (lv_at hl 2 rfl) ?_
    refine lv_bipush (v := 47) hx hb d_Pa_kindsClash_7 (by decide) ?_
    refine lv_icmp_ne (tgt := 20) hx hb d_Pa_kindsClash_9 (by decide) (fun c_4 => ?_) (fun c_4 => ?_)
    · refine lv_iload_n hx hb d_Pa_kindsClash_20 rfl (lv_at hl 1 rfl) ?_
      refine lv_iload_n hx hb d_Pa_kindsClash_21 rfl (lv_at hl 2 rfl) ?_
      refine lv_icmp_eq (tgt := 37) hx hb d_Pa_kindsClash_22 (by decide) (fun c_5 => ?_) (fun c_5 => ?_)
      · refine lv_iconst (v := 1) hx hb d_Pa_kindsClash_37 (by decide) ?_
        refine lv_goto (tgt := 42) hx hb d_Pa_kindsClash_38 (by decide) ?_
        exact W.zret (v := 1) hx hb hr rfl (fun t ht hW => ⟨1, rfl, (by unfold f_Pa_kindsClash; rw [if_pos c_1, if_neg c_4, if_pos c_5]), ht⟩) (fun q h => by cases h) d_Pa_kindsClash_42
      · refine lv_iload_n hx hb d_Pa_kindsClash_25 rfl (lv_at hl 1 rfl) ?_
        refine lv_bipush (v := 47) hx hb d_Pa_kindsClash_26 (by decide) ?_
        refine lv_icmp_eq (tgt := 37) hx hb d_Pa_kindsClash_28 (by decide) (fun _ => ?_) (fun q9 => absurd c_1 q9)
        refine lv_iconst (v := 1) hx hb d_Pa_kindsClash_37 (by decide) ?_
        refine lv_goto (tgt := 42) hx hb d_Pa_kindsClash_38 (by decide) ?_
        exact W.zret (v := 1) hx hb hr rfl (fun t ht hW => ⟨1, rfl, (by unfold f_Pa_kindsClash; rw [if_pos c_1, if_neg c_4, if_neg c_5]), ht⟩) (fun q h => by cases h) d_Pa_kindsClash_42
    · refine lv_aload_n hx hb d_Pa_kindsClash_12 rfl (lv_at hl 0 rfl) ?_
      refine va_get (D := (dC, dI)) (ci := 2) (v := .ref hc) (C := R_Pa) (T := T_Pa) (N := 7) hx hb hts u_Pa hown hK hP 0 rfl rfl 6 (by decide) (hts _ L_221) (fun x9 h9 => u_same (hts _ L_222) x9 h9) rfl d_Pa_kindsClash_13 ?_
      refine va_get (D := (dC, dI)) (ci := 0) (v := .int (coS st)) (C := R_Co) (T := T_Co) (N := 5) hx hb hts u_Co hown hK hP 1 rfl rfl 2 (by decide) (hts _ L_174) (fun _ h9 => h9) rfl d_Pa_kindsClash_16 ?_
      exact W.zret (v := (coS st)) hx hb hr (nB hst.2.2.2) (fun t ht hW => ⟨(coS st), rfl, (by unfold f_Pa_kindsClash; rw [if_pos c_1, if_pos c_4]), ht⟩) (fun q h => by cases h) d_Pa_kindsClash_19
def f_Pa_assignable (st : ST) (k : Int32) : Int32 := (if (f_Tr_kind (sTr st) k) = 28 then (if (coS st) = 0 then 1 else (if (f_Tk_evalOrArguments (f_Tr_value (sTr st) k)) = 0 then 1 else 0)) else (if (f_Tr_kind (sTr st) k) = 36 then 1 else (if (f_Tr_kind (sTr st) k) = 37 then 1 else 0)))
theorem f_Pa_assignable_b {st : ST} {k : Int32} : f_Pa_assignable st k = 0 ∨ f_Pa_assignable st k = 1 := by
  unfold f_Pa_assignable
  repeat' split
  all_goals first | exact Or.inl rfl | exact Or.inr rfl | exact f_Tk_evalOrArguments_b | exact f_Tr_kind_b | exact f_Tr_value_b
set_option maxRecDepth 100000 in
set_option maxHeartbeats 4000000 in
theorem m_Pa_assignable (l : Launch) (dC : Nat → ClassId) (dI : Nat → Nat → Nat) (cI cZ : ClassId) (hp hc h a1 a2 a3 a4 ht b1 b2 b3 b4 hq n1 n2 : Nat) (st : ST) (hst : okSt st) (k : Int32) : cRd l y_Pa_assignable c_Pa_assignable 3 .boolean 1 21 (dC, dI) (ty2 cI cZ) [.ref hp, .int k] (wP cI cZ hp hc h a1 a2 a3 a4 ht b1 b2 b3 b4 hq n1 n2 st) (f_Pa_assignable st k) := by
  refine Met.ofW (cc := c_Pa_assignable) (maxL := 3) (ret := some .boolean) (by decide) rfl ?_
  intro p e s m args below meth c s₁ B hml hv
  obtain ⟨rfl, hP, hK⟩ := hv
  have hx := B.exec
  have hb := B.bytes
  have hr := B.returns
  have hts0 := atoms_spec (ws := wy y_Pa_assignable c_Pa_assignable 3 (some .boolean)) B.pre
  have hts := htsL hts0
  have hown : s.vm.findClass R_Pa = some m.cls := findClass_of_methodNamed B.named
  have hlocks := B.notSynchronized
  have hl := lv_entry ([.ref hp, .int k]) (n := 3) (Nat.le_of_ble_eq_true rfl)
  rw [lg_entry_eq]
  generalize (lg_sl ([.ref hp, .int k]) ++ List.replicate (3 - (lg_sl ([.ref hp, .int k])).length) Slot.unset).toArray = ls at hl ⊢
  have hl : lv_has ls 3 [(0, .ref hp), (1, .int k)] := hl
  refine lv_aload_n hx hb d_Pa_assignable_0 rfl (lv_at hl 0 rfl) ?_
  refine va_get (D := (dC, dI)) (ci := 2) (v := .ref ht) (C := R_Pa) (T := T_Pa) (N := 7) hx hb hts u_Pa hown hK hP 0 rfl rfl 0 (by decide) (hts _ L_208) (fun _ h9 => h9) rfl d_Pa_assignable_1 ?_
  refine lv_iload_n hx hb d_Pa_assignable_4 rfl (lv_at hl 1 rfl) ?_
  refine rd_V (v := (f_Tr_kind (sTr st) k)) (As := [.int k]) (rest := []) ⟨hx, hb, hml, hown, hts0⟩ (m_Tr_kind l dC dI cI cZ ht b1 b2 b3 b4 (sTr st) hst.2.1 k) hP hK [7, 8, 9, 10, 11] rfl [0, 1] rfl 0 4 rfl rfl L_528 L_529 L_530 L_85 L_531 ⟨rfl, k_Tr_kind⟩ ⟨Nat.le_of_ble_eq_true rfl, Nat.le_of_ble_eq_true rfl⟩ hl.1 ⟨Nat.zero_le _, Nat.zero_le _⟩ (Nat.le_of_ble_eq_true rfl) d_Pa_assignable_5 rfl ?_
  refine lv_istore_n (lv' := [(2, .int (f_Tr_kind (sTr st) k)), (0, .ref hp), (1, .int k)]) hx hb d_Pa_assignable_8 rfl hl (by decide) rfl (fun ls hl => ?_)
  refine lv_iload_n hx hb d_Pa_assignable_9 rfl (lv_at hl 0 rfl) ?_
  refine lv_bipush (v := 28) hx hb d_Pa_assignable_10 (by decide) ?_
  refine lv_icmp_ne (tgt := 45) hx hb d_Pa_assignable_12 (by decide) (fun c_1 => ?_) (fun c_1 => ?_)
  · refine lv_iload_n hx hb d_Pa_assignable_45 rfl (lv_at hl 0 rfl) ?_
    refine lv_bipush (v := 36) hx hb d_Pa_assignable_46 (by decide) ?_
    refine lv_icmp_eq (tgt := 57) hx hb d_Pa_assignable_48 (by decide) (fun c_2 => ?_) (fun c_2 => ?_)
    · refine lv_iconst (v := 1) hx hb d_Pa_assignable_57 (by decide) ?_
      refine lv_goto (tgt := 62) hx hb d_Pa_assignable_58 (by decide) ?_
      exact W.zret (v := 1) hx hb hr rfl (fun t ht hW => ⟨1, rfl, (by unfold f_Pa_assignable; rw [if_neg c_1, if_pos c_2]), ht⟩) (fun q h => by cases h) d_Pa_assignable_62
    · refine lv_iload_n hx hb d_Pa_assignable_51 rfl (lv_at hl 0 rfl) ?_
      refine lv_bipush (v := 37) hx hb d_Pa_assignable_52 (by decide) ?_
      refine lv_icmp_ne (tgt := 61) hx hb d_Pa_assignable_54 (by decide) (fun c_3 => ?_) (fun c_3 => ?_)
      · refine lv_iconst (v := 0) hx hb d_Pa_assignable_61 (by decide) ?_
        exact W.zret (v := 0) hx hb hr rfl (fun t ht hW => ⟨0, rfl, (by unfold f_Pa_assignable; rw [if_neg c_1, if_neg c_2, if_neg c_3]), ht⟩) (fun q h => by cases h) d_Pa_assignable_62
      · refine lv_iconst (v := 1) hx hb d_Pa_assignable_57 (by decide) ?_
        refine lv_goto (tgt := 62) hx hb d_Pa_assignable_58 (by decide) ?_
        exact W.zret (v := 1) hx hb hr rfl (fun t ht hW => ⟨1, rfl, (by unfold f_Pa_assignable; rw [if_neg c_1, if_neg c_2, if_pos c_3]), ht⟩) (fun q h => by cases h) d_Pa_assignable_62
  · refine lv_aload_n hx hb d_Pa_assignable_15 rfl (lv_at hl 1 rfl) ?_
    refine va_get (D := (dC, dI)) (ci := 2) (v := .ref hc) (C := R_Pa) (T := T_Pa) (N := 7) hx hb hts u_Pa hown hK hP 0 rfl rfl 6 (by decide) (hts _ L_221) (fun x9 h9 => u_same (hts _ L_222) x9 h9) rfl d_Pa_assignable_16 ?_
    refine va_get (D := (dC, dI)) (ci := 0) (v := .int (coS st)) (C := R_Co) (T := T_Co) (N := 5) hx hb hts u_Co hown hK hP 1 rfl rfl 2 (by decide) (hts _ L_174) (fun _ h9 => h9) rfl d_Pa_assignable_19 ?_
    refine lv_if_eq (tgt := 39) hx hb d_Pa_assignable_22 (by decide) (fun c_4 => ?_) (fun c_4 => ?_)
    · refine lv_iconst (v := 1) hx hb d_Pa_assignable_39 (by decide) ?_
      refine lv_goto (tgt := 44) hx hb d_Pa_assignable_40 (by decide) ?_
      exact W.zret (v := 1) hx hb hr rfl (fun t ht hW => ⟨1, rfl, (by unfold f_Pa_assignable; rw [if_pos c_1, if_pos c_4]), ht⟩) (fun q h => by cases h) d_Pa_assignable_44
    · refine lv_aload_n hx hb d_Pa_assignable_25 rfl (lv_at hl 1 rfl) ?_
      refine va_get (D := (dC, dI)) (ci := 2) (v := .ref ht) (C := R_Pa) (T := T_Pa) (N := 7) hx hb hts u_Pa hown hK hP 0 rfl rfl 0 (by decide) (hts _ L_208) (fun _ h9 => h9) rfl d_Pa_assignable_26 ?_
      refine lv_iload_n hx hb d_Pa_assignable_29 rfl (lv_at hl 2 rfl) ?_
      refine rd_V (v := (f_Tr_value (sTr st) k)) (As := [.int k]) (rest := []) ⟨hx, hb, hml, hown, hts0⟩ (m_Tr_value l dC dI cI cZ ht b1 b2 b3 b4 (sTr st) hst.2.1 k) hP hK [7, 8, 9, 10, 11] rfl [0, 1] rfl 0 4 rfl rfl L_532 L_533 L_534 L_85 L_535 ⟨rfl, k_Tr_value⟩ ⟨Nat.le_of_ble_eq_true rfl, Nat.le_of_ble_eq_true rfl⟩ hl.1 ⟨Nat.zero_le _, Nat.zero_le _⟩ (Nat.le_of_ble_eq_true rfl) d_Pa_assignable_30 rfl ?_
      refine rd_S (v := (f_Tk_evalOrArguments (f_Tr_value (sTr st) k))) (As := [.int (f_Tr_value (sTr st) k)]) (rest := []) ⟨hx, hb, hml, hown, hts0⟩ (m_Tk_evalOrArguments l dC dI cI cZ  (f_Tr_value (sTr st) k)) hP hK [] rfl [0, 1] rfl L_590 L_482 L_84 L_483 k_Tk_evalOrArguments ⟨Nat.le_of_ble_eq_true rfl, Nat.le_of_ble_eq_true rfl⟩ hl.1 ⟨Nat.zero_le _, Nat.zero_le _⟩ (Nat.le_of_ble_eq_true rfl) d_Pa_assignable_33 rfl ?_
      refine lv_if_ne (tgt := 43) hx hb d_Pa_assignable_36 (by decide) (fun c_5 => ?_) (fun c_5 => ?_)
      · refine lv_iconst (v := 0) hx hb d_Pa_assignable_43 (by decide) ?_
        exact W.zret (v := 0) hx hb hr rfl (fun t ht hW => ⟨0, rfl, (by unfold f_Pa_assignable; rw [if_pos c_1, if_neg c_4, if_neg c_5]), ht⟩) (fun q h => by cases h) d_Pa_assignable_44
      · refine lv_iconst (v := 1) hx hb d_Pa_assignable_39 (by decide) ?_
        refine lv_goto (tgt := 44) hx hb d_Pa_assignable_40 (by decide) ?_
        exact W.zret (v := 1) hx hb hr rfl (fun t ht hW => ⟨1, rfl, (by unfold f_Pa_assignable; rw [if_pos c_1, if_neg c_4, if_pos c_5]), ht⟩) (fun q h => by cases h) d_Pa_assignable_44
