def f_Cu_atEnd (st : ST) : Int32 := (if (f_Tk_kind (sTk st) (sAt st)) = 0 then 1 else 0)
theorem f_Cu_atEnd_b {st : ST} : f_Cu_atEnd st = 0 ∨ f_Cu_atEnd st = 1 := by
  unfold f_Cu_atEnd
  repeat' split
  all_goals first | exact Or.inl rfl | exact Or.inr rfl | exact f_Tk_kind_b
set_option maxRecDepth 100000 in
set_option maxHeartbeats 4000000 in
theorem m_Cu_atEnd (l : Launch) (dC : Nat → ClassId) (dI : Nat → Nat → Nat) (cI cZ : ClassId) (hp hc h a1 a2 a3 a4 ht b1 b2 b3 b4 hq n1 n2 : Nat) (st : ST) (hst : okSt st)  : cRd l y_Cu_atEnd c_Cu_atEnd 1 .boolean 1 21 (dC, dI) (ty2 cI cZ) [.ref hp] (wP cI cZ hp hc h a1 a2 a3 a4 ht b1 b2 b3 b4 hq n1 n2 st) (f_Cu_atEnd st) := by
  refine Met.ofW (cc := c_Cu_atEnd) (maxL := 1) (ret := some .boolean) (by decide) rfl ?_
  intro p e s m args below meth c s₁ B hml hv
  obtain ⟨rfl, hP, hK⟩ := hv
  have hx := B.exec
  have hb := B.bytes
  have hr := B.returns
  have hts0 := atoms_spec (ws := wy y_Cu_atEnd c_Cu_atEnd 1 (some .boolean)) B.pre
  have hts := htsL hts0
  have hown : s.vm.findClass R_Cu = some m.cls := findClass_of_methodNamed B.named
  have hlocks := B.notSynchronized
  have hl := lv_entry ([.ref hp]) (n := 1) (Nat.le_of_ble_eq_true rfl)
  rw [lg_entry_eq]
  generalize (lg_sl ([.ref hp]) ++ List.replicate (1 - (lg_sl ([.ref hp])).length) Slot.unset).toArray = ls at hl ⊢
  have hl : lv_has ls 1 [(0, .ref hp)] := hl
  refine lv_aload_n hx hb d_Cu_atEnd_0 rfl (lv_at hl 0 rfl) ?_
  refine va_get (D := (dC, dI)) (ci := 2) (v := .ref h) (C := R_Pa) (T := T_Pa) (N := 7) hx hb hts u_Pa hown hK hP 0 rfl rfl 3 (by decide) (hts _ L_211) (fun _ h9 => h9) rfl d_Cu_atEnd_1 ?_
  refine lv_aload_n hx hb d_Cu_atEnd_4 rfl (lv_at hl 0 rfl) ?_
  refine va_get (D := (dC, dI)) (ci := 2) (v := .int (sAt st)) (C := R_Pa) (T := T_Pa) (N := 7) hx hb hts u_Pa hown hK hP 0 rfl rfl 4 (by decide) (hts _ L_214) (fun _ h9 => h9) rfl d_Cu_atEnd_5 ?_
  refine rd_V (v := (f_Tk_kind (sTk st) (sAt st))) (As := [.int (sAt st)]) (rest := []) ⟨hx, hb, hml, hown, hts0⟩ (m_Tk_kind l dC dI cI cZ h a1 a2 a3 a4 (sTk st) hst.1 (sAt st)) hP hK [2, 3, 4, 5, 6] rfl [0, 1] rfl 0 3 rfl rfl L_435 L_436 L_437 L_84 L_438 ⟨rfl, k_Tk_kind⟩ ⟨Nat.le_of_ble_eq_true rfl, Nat.le_of_ble_eq_true rfl⟩ hl.1 ⟨Nat.zero_le _, Nat.zero_le _⟩ (Nat.le_of_ble_eq_true rfl) d_Cu_atEnd_8 rfl ?_
  refine lv_if_ne (tgt := 18) hx hb d_Cu_atEnd_11 (by decide) (fun c_1 => ?_) (fun c_1 => ?_)
  · refine lv_iconst (v := 0) hx hb d_Cu_atEnd_18 (by decide) ?_
    exact W.zret (v := 0) hx hb hr rfl (fun t ht hW => ⟨0, rfl, (by unfold f_Cu_atEnd; rw [if_neg c_1]), ht⟩) (fun q h => by cases h) d_Cu_atEnd_19
  · refine lv_iconst (v := 1) hx hb d_Cu_atEnd_14 (by decide) ?_
    refine lv_goto (tgt := 19) hx hb d_Cu_atEnd_15 (by decide) ?_
    exact W.zret (v := 1) hx hb hr rfl (fun t ht hW => ⟨1, rfl, (by unfold f_Cu_atEnd; rw [if_pos c_1]), ht⟩) (fun q h => by cases h) d_Cu_atEnd_19
def f_Cu_atSign (st : ST) (sign : Int32) : Int32 := (if (f_Tk_sign (sTk st) (sAt st)) = sign then 1 else 0)
theorem f_Cu_atSign_b {st : ST} {sign : Int32} : f_Cu_atSign st sign = 0 ∨ f_Cu_atSign st sign = 1 := by
  unfold f_Cu_atSign
  repeat' split
  all_goals first | exact Or.inl rfl | exact Or.inr rfl | exact f_Tk_sign_b
set_option maxRecDepth 100000 in
set_option maxHeartbeats 4000000 in
theorem m_Cu_atSign (l : Launch) (dC : Nat → ClassId) (dI : Nat → Nat → Nat) (cI cZ : ClassId) (hp hc h a1 a2 a3 a4 ht b1 b2 b3 b4 hq n1 n2 : Nat) (st : ST) (hst : okSt st) (sign : Int32) : cRd l y_Cu_atSign c_Cu_atSign 2 .boolean 1 21 (dC, dI) (ty2 cI cZ) [.ref hp, .int sign] (wP cI cZ hp hc h a1 a2 a3 a4 ht b1 b2 b3 b4 hq n1 n2 st) (f_Cu_atSign st sign) := by
  refine Met.ofW (cc := c_Cu_atSign) (maxL := 2) (ret := some .boolean) (by decide) rfl ?_
  intro p e s m args below meth c s₁ B hml hv
  obtain ⟨rfl, hP, hK⟩ := hv
  have hx := B.exec
  have hb := B.bytes
  have hr := B.returns
  have hts0 := atoms_spec (ws := wy y_Cu_atSign c_Cu_atSign 2 (some .boolean)) B.pre
  have hts := htsL hts0
  have hown : s.vm.findClass R_Cu = some m.cls := findClass_of_methodNamed B.named
  have hlocks := B.notSynchronized
  have hl := lv_entry ([.ref hp, .int sign]) (n := 2) (Nat.le_of_ble_eq_true rfl)
  rw [lg_entry_eq]
  generalize (lg_sl ([.ref hp, .int sign]) ++ List.replicate (2 - (lg_sl ([.ref hp, .int sign])).length) Slot.unset).toArray = ls at hl ⊢
  have hl : lv_has ls 2 [(0, .ref hp), (1, .int sign)] := hl
  refine lv_aload_n hx hb d_Cu_atSign_0 rfl (lv_at hl 0 rfl) ?_
  refine va_get (D := (dC, dI)) (ci := 2) (v := .ref h) (C := R_Pa) (T := T_Pa) (N := 7) hx hb hts u_Pa hown hK hP 0 rfl rfl 3 (by decide) (hts _ L_211) (fun _ h9 => h9) rfl d_Cu_atSign_1 ?_
  refine lv_aload_n hx hb d_Cu_atSign_4 rfl (lv_at hl 0 rfl) ?_
  refine va_get (D := (dC, dI)) (ci := 2) (v := .int (sAt st)) (C := R_Pa) (T := T_Pa) (N := 7) hx hb hts u_Pa hown hK hP 0 rfl rfl 4 (by decide) (hts _ L_214) (fun _ h9 => h9) rfl d_Cu_atSign_5 ?_
  refine rd_V (v := (f_Tk_sign (sTk st) (sAt st))) (As := [.int (sAt st)]) (rest := []) ⟨hx, hb, hml, hown, hts0⟩ (m_Tk_sign l dC dI cI cZ h a1 a2 a3 a4 (sTk st) hst.1 (sAt st)) hP hK [2, 3, 4, 5, 6] rfl [0, 1] rfl 0 3 rfl rfl L_502 L_503 L_504 L_84 L_505 ⟨rfl, k_Tk_sign⟩ ⟨Nat.le_of_ble_eq_true rfl, Nat.le_of_ble_eq_true rfl⟩ hl.1 ⟨Nat.zero_le _, Nat.zero_le _⟩ (Nat.le_of_ble_eq_true rfl) d_Cu_atSign_8 rfl ?_
  refine lv_iload_n hx hb d_Cu_atSign_11 rfl (lv_at hl 1 rfl) ?_
  refine lv_icmp_ne (tgt := 19) hx hb d_Cu_atSign_12 (by decide) (fun c_1 => ?_) (fun c_1 => ?_)
  · refine lv_iconst (v := 0) hx hb d_Cu_atSign_19 (by decide) ?_
    exact W.zret (v := 0) hx hb hr rfl (fun t ht hW => ⟨0, rfl, (by unfold f_Cu_atSign; rw [if_neg c_1]), ht⟩) (fun q h => by cases h) d_Cu_atSign_20
  · refine lv_iconst (v := 1) hx hb d_Cu_atSign_15 (by decide) ?_
    refine lv_goto (tgt := 20) hx hb d_Cu_atSign_16 (by decide) ?_
    exact W.zret (v := 1) hx hb hr rfl (fun t ht hW => ⟨1, rfl, (by unfold f_Cu_atSign; rw [if_pos c_1]), ht⟩) (fun q h => by cases h) d_Cu_atSign_20
def f_Cu_atWord (st : ST) (word : Int32) : Int32 := (if (f_Tk_keyword (sTk st) (sAt st)) = word then 1 else 0)
theorem f_Cu_atWord_b {st : ST} {word : Int32} : f_Cu_atWord st word = 0 ∨ f_Cu_atWord st word = 1 := by
  unfold f_Cu_atWord
  repeat' split
  all_goals first | exact Or.inl rfl | exact Or.inr rfl | exact f_Tk_keyword_b
set_option maxRecDepth 100000 in
set_option maxHeartbeats 4000000 in
theorem m_Cu_atWord (l : Launch) (dC : Nat → ClassId) (dI : Nat → Nat → Nat) (cI cZ : ClassId) (hp hc h a1 a2 a3 a4 ht b1 b2 b3 b4 hq n1 n2 : Nat) (st : ST) (hst : okSt st) (word : Int32) : cRd l y_Cu_atWord c_Cu_atWord 2 .boolean 1 22 (dC, dI) (ty2 cI cZ) [.ref hp, .int word] (wP cI cZ hp hc h a1 a2 a3 a4 ht b1 b2 b3 b4 hq n1 n2 st) (f_Cu_atWord st word) := by
  refine Met.ofW (cc := c_Cu_atWord) (maxL := 2) (ret := some .boolean) (by decide) rfl ?_
  intro p e s m args below meth c s₁ B hml hv
  obtain ⟨rfl, hP, hK⟩ := hv
  have hx := B.exec
  have hb := B.bytes
  have hr := B.returns
  have hts0 := atoms_spec (ws := wy y_Cu_atWord c_Cu_atWord 2 (some .boolean)) B.pre
  have hts := htsL hts0
  have hown : s.vm.findClass R_Cu = some m.cls := findClass_of_methodNamed B.named
  have hlocks := B.notSynchronized
  have hl := lv_entry ([.ref hp, .int word]) (n := 2) (Nat.le_of_ble_eq_true rfl)
  rw [lg_entry_eq]
  generalize (lg_sl ([.ref hp, .int word]) ++ List.replicate (2 - (lg_sl ([.ref hp, .int word])).length) Slot.unset).toArray = ls at hl ⊢
  have hl : lv_has ls 2 [(0, .ref hp), (1, .int word)] := hl
  refine lv_aload_n hx hb d_Cu_atWord_0 rfl (lv_at hl 0 rfl) ?_
  refine va_get (D := (dC, dI)) (ci := 2) (v := .ref h) (C := R_Pa) (T := T_Pa) (N := 7) hx hb hts u_Pa hown hK hP 0 rfl rfl 3 (by decide) (hts _ L_211) (fun _ h9 => h9) rfl d_Cu_atWord_1 ?_
  refine lv_aload_n hx hb d_Cu_atWord_4 rfl (lv_at hl 0 rfl) ?_
  refine va_get (D := (dC, dI)) (ci := 2) (v := .int (sAt st)) (C := R_Pa) (T := T_Pa) (N := 7) hx hb hts u_Pa hown hK hP 0 rfl rfl 4 (by decide) (hts _ L_214) (fun _ h9 => h9) rfl d_Cu_atWord_5 ?_
  refine rd_V (v := (f_Tk_keyword (sTk st) (sAt st))) (As := [.int (sAt st)]) (rest := []) ⟨hx, hb, hml, hown, hts0⟩ (m_Tk_keyword l dC dI cI cZ h a1 a2 a3 a4 (sTk st) hst.1 (sAt st)) hP hK [2, 3, 4, 5, 6] rfl [0, 1] rfl 0 3 rfl rfl L_445 L_446 L_447 L_84 L_448 ⟨rfl, k_Tk_keyword⟩ ⟨Nat.le_of_ble_eq_true rfl, Nat.le_of_ble_eq_true rfl⟩ hl.1 ⟨Nat.zero_le _, Nat.zero_le _⟩ (Nat.le_of_ble_eq_true rfl) d_Cu_atWord_8 rfl ?_
  refine lv_iload_n hx hb d_Cu_atWord_11 rfl (lv_at hl 1 rfl) ?_
  refine lv_icmp_ne (tgt := 19) hx hb d_Cu_atWord_12 (by decide) (fun c_1 => ?_) (fun c_1 => ?_)
  · refine lv_iconst (v := 0) hx hb d_Cu_atWord_19 (by decide) ?_
    exact W.zret (v := 0) hx hb hr rfl (fun t ht hW => ⟨0, rfl, (by unfold f_Cu_atWord; rw [if_neg c_1]), ht⟩) (fun q h => by cases h) d_Cu_atWord_20
  · refine lv_iconst (v := 1) hx hb d_Cu_atWord_15 (by decide) ?_
    refine lv_goto (tgt := 20) hx hb d_Cu_atWord_16 (by decide) ?_
    exact W.zret (v := 1) hx hb hr rfl (fun t ht hW => ⟨1, rfl, (by unfold f_Cu_atWord; rw [if_pos c_1]), ht⟩) (fun q h => by cases h) d_Cu_atWord_20
def f_Cu_atIdentifier (st : ST) : Int32 := (f_Tk_identifier (sTk st) (sAt st) (coS st))
theorem f_Cu_atIdentifier_b {st : ST} (hS : coS st = 0 ∨ coS st = 1) : f_Cu_atIdentifier st = 0 ∨ f_Cu_atIdentifier st = 1 := by
  unfold f_Cu_atIdentifier
  repeat' split
  all_goals first | exact Or.inl rfl | exact Or.inr rfl | exact f_Tk_identifier_b | exact hS
set_option maxRecDepth 100000 in
set_option maxHeartbeats 4000000 in
theorem m_Cu_atIdentifier (l : Launch) (dC : Nat → ClassId) (dI : Nat → Nat → Nat) (cI cZ : ClassId) (hp hc h a1 a2 a3 a4 ht b1 b2 b3 b4 hq n1 n2 : Nat) (st : ST) (hst : okSt st)  : cRd l y_Cu_atIdentifier c_Cu_atIdentifier 1 .boolean 1 23 (dC, dI) (ty2 cI cZ) [.ref hp] (wP cI cZ hp hc h a1 a2 a3 a4 ht b1 b2 b3 b4 hq n1 n2 st) (f_Cu_atIdentifier st) := by
  refine Met.ofW (cc := c_Cu_atIdentifier) (maxL := 1) (ret := some .boolean) (by decide) rfl ?_
  intro p e s m args below meth c s₁ B hml hv
  obtain ⟨rfl, hP, hK⟩ := hv
  have hx := B.exec
  have hb := B.bytes
  have hr := B.returns
  have hts0 := atoms_spec (ws := wy y_Cu_atIdentifier c_Cu_atIdentifier 1 (some .boolean)) B.pre
  have hts := htsL hts0
  have hown : s.vm.findClass R_Cu = some m.cls := findClass_of_methodNamed B.named
  have hlocks := B.notSynchronized
  have hl := lv_entry ([.ref hp]) (n := 1) (Nat.le_of_ble_eq_true rfl)
  rw [lg_entry_eq]
  generalize (lg_sl ([.ref hp]) ++ List.replicate (1 - (lg_sl ([.ref hp])).length) Slot.unset).toArray = ls at hl ⊢
  have hl : lv_has ls 1 [(0, .ref hp)] := hl
  refine lv_aload_n hx hb d_Cu_atIdentifier_0 rfl (lv_at hl 0 rfl) ?_
  refine va_get (D := (dC, dI)) (ci := 2) (v := .ref h) (C := R_Pa) (T := T_Pa) (N := 7) hx hb hts u_Pa hown hK hP 0 rfl rfl 3 (by decide) (hts _ L_211) (fun _ h9 => h9) rfl d_Cu_atIdentifier_1 ?_
  refine lv_aload_n hx hb d_Cu_atIdentifier_4 rfl (lv_at hl 0 rfl) ?_
  refine va_get (D := (dC, dI)) (ci := 2) (v := .int (sAt st)) (C := R_Pa) (T := T_Pa) (N := 7) hx hb hts u_Pa hown hK hP 0 rfl rfl 4 (by decide) (hts _ L_214) (fun _ h9 => h9) rfl d_Cu_atIdentifier_5 ?_
  refine lv_aload_n hx hb d_Cu_atIdentifier_8 rfl (lv_at hl 0 rfl) ?_
  refine va_get (D := (dC, dI)) (ci := 2) (v := .ref hc) (C := R_Pa) (T := T_Pa) (N := 7) hx hb hts u_Pa hown hK hP 0 rfl rfl 6 (by decide) (hts _ L_220) (fun _ h9 => h9) rfl d_Cu_atIdentifier_9 ?_
  refine va_get (D := (dC, dI)) (ci := 0) (v := .int (coS st)) (C := R_Co) (T := T_Co) (N := 5) hx hb hts u_Co hown hK hP 1 rfl rfl 2 (by decide) (hts _ L_175) (fun _ h9 => h9) rfl d_Cu_atIdentifier_12 ?_
  refine rd_V (v := (f_Tk_identifier (sTk st) (sAt st) (coS st))) (As := [.int (sAt st), .int (coS st)]) (rest := []) ⟨hx, hb, hml, hown, hts0⟩ (m_Tk_identifier l dC dI cI cZ h a1 a2 a3 a4 (sTk st) hst.1 (sAt st) (coS st)) hP hK [2, 3, 4, 5, 6] rfl [0, 1] rfl 0 3 rfl rfl L_484 L_485 L_486 L_84 L_487 ⟨rfl, k_Tk_identifier⟩ ⟨Nat.le_of_ble_eq_true rfl, Nat.le_of_ble_eq_true rfl⟩ hl.1 ⟨Nat.zero_le _, Nat.zero_le _⟩ (Nat.le_of_ble_eq_true rfl) d_Cu_atIdentifier_15 rfl ?_
  exact W.zret (v := (f_Tk_identifier (sTk st) (sAt st) (coS st))) hx hb hr (nB f_Tk_identifier_b) (fun t ht hW => ⟨(f_Tk_identifier (sTk st) (sAt st) (coS st)), rfl, rfl, ht⟩) (fun q h => by cases h) d_Cu_atIdentifier_18
def f_Cu_statementEnds (st : ST) : Int32 := (if (f_Tk_kind (sTk st) (sAt st)) = 0 then (if (f_Tk_sign (sTk st) (sAt st)) = 67 then 1 else (if (f_Tk_sign (sTk st) (sAt st)) = 65 then 1 else 1)) else (if (f_Tk_sign (sTk st) (sAt st)) = 67 then 1 else (if (f_Tk_sign (sTk st) (sAt st)) = 65 then 1 else (if (f_Tk_line (sTk st) (sAt st)) = 0 then 0 else 1))))
theorem f_Cu_statementEnds_b {st : ST} : f_Cu_statementEnds st = 0 ∨ f_Cu_statementEnds st = 1 := by
  unfold f_Cu_statementEnds
  repeat' split
  all_goals first | exact Or.inl rfl | exact Or.inr rfl | exact f_Tk_kind_b | exact f_Tk_line_b | exact f_Tk_sign_b
set_option maxRecDepth 100000 in
set_option maxHeartbeats 4000000 in
theorem m_Cu_statementEnds (l : Launch) (dC : Nat → ClassId) (dI : Nat → Nat → Nat) (cI cZ : ClassId) (hp hc h a1 a2 a3 a4 ht b1 b2 b3 b4 hq n1 n2 : Nat) (st : ST) (hst : okSt st)  : cRd l y_Cu_statementEnds c_Cu_statementEnds 3 .boolean 1 21 (dC, dI) (ty2 cI cZ) [.ref hp] (wP cI cZ hp hc h a1 a2 a3 a4 ht b1 b2 b3 b4 hq n1 n2 st) (f_Cu_statementEnds st) := by
  refine Met.ofW (cc := c_Cu_statementEnds) (maxL := 3) (ret := some .boolean) (by decide) rfl ?_
  intro p e s m args below meth c s₁ B hml hv
  obtain ⟨rfl, hP, hK⟩ := hv
  have hx := B.exec
  have hb := B.bytes
  have hr := B.returns
  have hts0 := atoms_spec (ws := wy y_Cu_statementEnds c_Cu_statementEnds 3 (some .boolean)) B.pre
  have hts := htsL hts0
  have hown : s.vm.findClass R_Cu = some m.cls := findClass_of_methodNamed B.named
  have hlocks := B.notSynchronized
  have hl := lv_entry ([.ref hp]) (n := 3) (Nat.le_of_ble_eq_true rfl)
  rw [lg_entry_eq]
  generalize (lg_sl ([.ref hp]) ++ List.replicate (3 - (lg_sl ([.ref hp])).length) Slot.unset).toArray = ls at hl ⊢
  have hl : lv_has ls 3 [(0, .ref hp)] := hl
  refine lv_aload_n hx hb d_Cu_statementEnds_0 rfl (lv_at hl 0 rfl) ?_
  refine va_get (D := (dC, dI)) (ci := 2) (v := .ref h) (C := R_Pa) (T := T_Pa) (N := 7) hx hb hts u_Pa hown hK hP 0 rfl rfl 3 (by decide) (hts _ L_211) (fun _ h9 => h9) rfl d_Cu_statementEnds_1 ?_
  refine lv_aload_n hx hb d_Cu_statementEnds_4 rfl (lv_at hl 0 rfl) ?_
  refine va_get (D := (dC, dI)) (ci := 2) (v := .int (sAt st)) (C := R_Pa) (T := T_Pa) (N := 7) hx hb hts u_Pa hown hK hP 0 rfl rfl 4 (by decide) (hts _ L_214) (fun _ h9 => h9) rfl d_Cu_statementEnds_5 ?_
  refine rd_V (v := (f_Tk_sign (sTk st) (sAt st))) (As := [.int (sAt st)]) (rest := []) ⟨hx, hb, hml, hown, hts0⟩ (m_Tk_sign l dC dI cI cZ h a1 a2 a3 a4 (sTk st) hst.1 (sAt st)) hP hK [2, 3, 4, 5, 6] rfl [0, 1] rfl 0 3 rfl rfl L_502 L_503 L_504 L_84 L_505 ⟨rfl, k_Tk_sign⟩ ⟨Nat.le_of_ble_eq_true rfl, Nat.le_of_ble_eq_true rfl⟩ hl.1 ⟨Nat.zero_le _, Nat.zero_le _⟩ (Nat.le_of_ble_eq_true rfl) d_Cu_statementEnds_8 rfl ?_
  refine lv_istore_n (lv' := [(1, .int (f_Tk_sign (sTk st) (sAt st))), (0, .ref hp)]) hx hb d_Cu_statementEnds_11 rfl hl (by decide) rfl (fun ls hl => ?_)
  refine lv_aload_n hx hb d_Cu_statementEnds_12 rfl (lv_at hl 1 rfl) ?_
  refine va_get (D := (dC, dI)) (ci := 2) (v := .ref h) (C := R_Pa) (T := T_Pa) (N := 7) hx hb hts u_Pa hown hK hP 0 rfl rfl 3 (by decide) (hts _ L_211) (fun _ h9 => h9) rfl d_Cu_statementEnds_13 ?_
  refine lv_aload_n hx hb d_Cu_statementEnds_16 rfl (lv_at hl 1 rfl) ?_
  refine va_get (D := (dC, dI)) (ci := 2) (v := .int (sAt st)) (C := R_Pa) (T := T_Pa) (N := 7) hx hb hts u_Pa hown hK hP 0 rfl rfl 4 (by decide) (hts _ L_214) (fun _ h9 => h9) rfl d_Cu_statementEnds_17 ?_
  refine rd_V (v := (f_Tk_kind (sTk st) (sAt st))) (As := [.int (sAt st)]) (rest := []) ⟨hx, hb, hml, hown, hts0⟩ (m_Tk_kind l dC dI cI cZ h a1 a2 a3 a4 (sTk st) hst.1 (sAt st)) hP hK [2, 3, 4, 5, 6] rfl [0, 1] rfl 0 3 rfl rfl L_435 L_436 L_437 L_84 L_438 ⟨rfl, k_Tk_kind⟩ ⟨Nat.le_of_ble_eq_true rfl, Nat.le_of_ble_eq_true rfl⟩ hl.1 ⟨Nat.zero_le _, Nat.zero_le _⟩ (Nat.le_of_ble_eq_true rfl) d_Cu_statementEnds_20 rfl ?_
  refine lv_if_ne (tgt := 30) hx hb d_Cu_statementEnds_23 (by decide) (fun c_1 => ?_) (fun c_1 => ?_)
  · refine lv_iconst (v := 0) hx hb d_Cu_statementEnds_30 (by decide) ?_
    refine lv_istore_n (lv' := [(2, .int 0), (1, .int (f_Tk_sign (sTk st) (sAt st))), (0, .ref hp)]) hx hb d_Cu_statementEnds_31 rfl hl (by decide) rfl (fun ls hl => ?_)
    refine lv_iload_n hx hb d_Cu_statementEnds_32 rfl (lv_at hl 1 rfl) ?_
    refine lv_bipush (v := 67) hx hb d_Cu_statementEnds_33 (by decide) ?_
    refine lv_icmp_eq (tgt := 62) hx hb d_Cu_statementEnds_35 (by decide) (fun c_2 => ?_) (fun c_2 => ?_)
    · refine lv_iconst (v := 1) hx hb d_Cu_statementEnds_62 (by decide) ?_
      refine lv_goto (tgt := 67) hx hb d_Cu_statementEnds_63 (by decide) ?_
      exact W.zret (v := 1) hx hb hr rfl (fun t ht hW => ⟨1, rfl, (by unfold f_Cu_statementEnds; rw [if_neg c_1, if_pos c_2]), ht⟩) (fun q h => by cases h) d_Cu_statementEnds_67
    · refine lv_iload_n hx hb d_Cu_statementEnds_38 rfl (lv_at hl 1 rfl) ?_
      refine lv_bipush (v := 65) hx hb d_Cu_statementEnds_39 (by decide) ?_
      refine lv_icmp_eq (tgt := 62) hx hb d_Cu_statementEnds_41 (by decide) (fun c_3 => ?_) (fun c_3 => ?_)
      · refine lv_iconst (v := 1) hx hb d_Cu_statementEnds_62 (by decide) ?_
        refine lv_goto (tgt := 67) hx hb d_Cu_statementEnds_63 (by decide) ?_
        exact W.zret (v := 1) hx hb hr rfl (fun t ht hW => ⟨1, rfl, (by unfold f_Cu_statementEnds; rw [if_neg c_1, if_neg c_2, if_pos c_3]), ht⟩) (fun q h => by cases h) d_Cu_statementEnds_67
      · refine lv_iload_n hx hb d_Cu_statementEnds_44 rfl (lv_at hl 0 rfl) ?_
        refine lv_if_ne (tgt := 62) hx hb d_Cu_statementEnds_45 (by decide) (fun q9 => absurd q9 (by decide)) (fun _ => ?_)
        refine lv_aload_n hx hb d_Cu_statementEnds_48 rfl (lv_at hl 2 rfl) ?_
        refine va_get (D := (dC, dI)) (ci := 2) (v := .ref h) (C := R_Pa) (T := T_Pa) (N := 7) hx hb hts u_Pa hown hK hP 0 rfl rfl 3 (by decide) (hts _ L_211) (fun _ h9 => h9) rfl d_Cu_statementEnds_49 ?_
        refine lv_aload_n hx hb d_Cu_statementEnds_52 rfl (lv_at hl 2 rfl) ?_
        refine va_get (D := (dC, dI)) (ci := 2) (v := .int (sAt st)) (C := R_Pa) (T := T_Pa) (N := 7) hx hb hts u_Pa hown hK hP 0 rfl rfl 4 (by decide) (hts _ L_214) (fun _ h9 => h9) rfl d_Cu_statementEnds_53 ?_
        refine rd_V (v := (f_Tk_line (sTk st) (sAt st))) (As := [.int (sAt st)]) (rest := []) ⟨hx, hb, hml, hown, hts0⟩ (m_Tk_line l dC dI cI cZ h a1 a2 a3 a4 (sTk st) hst.1 (sAt st)) hP hK [2, 3, 4, 5, 6] rfl [0, 1] rfl 0 3 rfl rfl L_722 L_679 L_680 L_84 L_681 ⟨rfl, k_Tk_line⟩ ⟨Nat.le_of_ble_eq_true rfl, Nat.le_of_ble_eq_true rfl⟩ hl.1 ⟨Nat.zero_le _, Nat.zero_le _⟩ (Nat.le_of_ble_eq_true rfl) d_Cu_statementEnds_56 rfl ?_
        refine lv_if_eq (tgt := 66) hx hb d_Cu_statementEnds_59 (by decide) (fun c_4 => ?_) (fun c_4 => ?_)
        · refine lv_iconst (v := 0) hx hb d_Cu_statementEnds_66 (by decide) ?_
          exact W.zret (v := 0) hx hb hr rfl (fun t ht hW => ⟨0, rfl, (by unfold f_Cu_statementEnds; rw [if_neg c_1, if_neg c_2, if_neg c_3, if_pos c_4]), ht⟩) (fun q h => by cases h) d_Cu_statementEnds_67
        · refine lv_iconst (v := 1) hx hb d_Cu_statementEnds_62 (by decide) ?_
          refine lv_goto (tgt := 67) hx hb d_Cu_statementEnds_63 (by decide) ?_
          exact W.zret (v := 1) hx hb hr rfl (fun t ht hW => ⟨1, rfl, (by unfold f_Cu_statementEnds; rw [if_neg c_1, if_neg c_2, if_neg c_3, if_neg c_4]), ht⟩) (fun q h => by cases h) d_Cu_statementEnds_67
  · refine lv_iconst (v := 1) hx hb d_Cu_statementEnds_26 (by decide) ?_
    refine lv_goto (tgt := 31) hx hb d_Cu_statementEnds_27 (by decide) ?_
    refine lv_istore_n (lv' := [(2, .int 1), (1, .int (f_Tk_sign (sTk st) (sAt st))), (0, .ref hp)]) hx hb d_Cu_statementEnds_31 rfl hl (by decide) rfl (fun ls hl => ?_)
    refine lv_iload_n hx hb d_Cu_statementEnds_32 rfl (lv_at hl 1 rfl) ?_
    refine lv_bipush (v := 67) hx hb d_Cu_statementEnds_33 (by decide) ?_
    refine lv_icmp_eq (tgt := 62) hx hb d_Cu_statementEnds_35 (by decide) (fun c_5 => ?_) (fun c_5 => ?_)
    · refine lv_iconst (v := 1) hx hb d_Cu_statementEnds_62 (by decide) ?_
      refine lv_goto (tgt := 67) hx hb d_Cu_statementEnds_63 (by decide) ?_
      exact W.zret (v := 1) hx hb hr rfl (fun t ht hW => ⟨1, rfl, (by unfold f_Cu_statementEnds; rw [if_pos c_1, if_pos c_5]), ht⟩) (fun q h => by cases h) d_Cu_statementEnds_67
    · refine lv_iload_n hx hb d_Cu_statementEnds_38 rfl (lv_at hl 1 rfl) ?_
      refine lv_bipush (v := 65) hx hb d_Cu_statementEnds_39 (by decide) ?_
      refine lv_icmp_eq (tgt := 62) hx hb d_Cu_statementEnds_41 (by decide) (fun c_6 => ?_) (fun c_6 => ?_)
      · refine lv_iconst (v := 1) hx hb d_Cu_statementEnds_62 (by decide) ?_
        refine lv_goto (tgt := 67) hx hb d_Cu_statementEnds_63 (by decide) ?_
        exact W.zret (v := 1) hx hb hr rfl (fun t ht hW => ⟨1, rfl, (by unfold f_Cu_statementEnds; rw [if_pos c_1, if_neg c_5, if_pos c_6]), ht⟩) (fun q h => by cases h) d_Cu_statementEnds_67
      · refine lv_iload_n hx hb d_Cu_statementEnds_44 rfl (lv_at hl 0 rfl) ?_
        refine lv_if_ne (tgt := 62) hx hb d_Cu_statementEnds_45 (by decide) (fun _ => ?_) (fun q9 => absurd q9 (by decide))
        refine lv_iconst (v := 1) hx hb d_Cu_statementEnds_62 (by decide) ?_
        refine lv_goto (tgt := 67) hx hb d_Cu_statementEnds_63 (by decide) ?_
        exact W.zret (v := 1) hx hb hr rfl (fun t ht hW => ⟨1, rfl, (by unfold f_Cu_statementEnds; rw [if_pos c_1, if_neg c_5, if_neg c_6]), ht⟩) (fun q h => by cases h) d_Cu_statementEnds_67
def f_Cu_wasTextAlone (st : ST) (first : Int32) : Int32 := (if (sAt st) = (first + 1) then (if (sAt st) = (first + 2) then (if (f_Tk_sign (sTk st) (first + 1)) = 67 then (if (f_Tk_kind (sTk st) first) = 3 then 1 else 0) else (if (f_Tk_kind (sTk st) first) = 3 then 1 else 0)) else (if (f_Tk_kind (sTk st) first) = 3 then 1 else 0)) else (if (sAt st) = (first + 2) then (if (f_Tk_sign (sTk st) (first + 1)) = 67 then (if (f_Tk_kind (sTk st) first) = 3 then 1 else 0) else (if (f_Tk_kind (sTk st) first) = 3 then 0 else 0)) else (if (f_Tk_kind (sTk st) first) = 3 then 0 else 0)))
theorem f_Cu_wasTextAlone_b {st : ST} {first : Int32} : f_Cu_wasTextAlone st first = 0 ∨ f_Cu_wasTextAlone st first = 1 := by
  unfold f_Cu_wasTextAlone
  repeat' split
  all_goals first | exact Or.inl rfl | exact Or.inr rfl | exact f_Tk_kind_b | exact f_Tk_sign_b
set_option maxRecDepth 100000 in
set_option maxHeartbeats 4000000 in
theorem m_Cu_wasTextAlone (l : Launch) (dC : Nat → ClassId) (dI : Nat → Nat → Nat) (cI cZ : ClassId) (hp hc h a1 a2 a3 a4 ht b1 b2 b3 b4 hq n1 n2 : Nat) (st : ST) (hst : okSt st) (first : Int32) : cRd l y_Cu_wasTextAlone c_Cu_wasTextAlone 4 .boolean 1 21 (dC, dI) (ty2 cI cZ) [.ref hp, .int first] (wP cI cZ hp hc h a1 a2 a3 a4 ht b1 b2 b3 b4 hq n1 n2 st) (f_Cu_wasTextAlone st first) := by
  refine Met.ofW (cc := c_Cu_wasTextAlone) (maxL := 4) (ret := some .boolean) (by decide) rfl ?_
  intro p e s m args below meth c s₁ B hml hv
  obtain ⟨rfl, hP, hK⟩ := hv
  have hx := B.exec
  have hb := B.bytes
  have hr := B.returns
  have hts0 := atoms_spec (ws := wy y_Cu_wasTextAlone c_Cu_wasTextAlone 4 (some .boolean)) B.pre
  have hts := htsL hts0
  have hown : s.vm.findClass R_Cu = some m.cls := findClass_of_methodNamed B.named
  have hlocks := B.notSynchronized
  have hl := lv_entry ([.ref hp, .int first]) (n := 4) (Nat.le_of_ble_eq_true rfl)
  rw [lg_entry_eq]
  generalize (lg_sl ([.ref hp, .int first]) ++ List.replicate (4 - (lg_sl ([.ref hp, .int first])).length) Slot.unset).toArray = ls at hl ⊢
  have hl : lv_has ls 4 [(0, .ref hp), (1, .int first)] := hl
  refine lv_aload_n hx hb d_Cu_wasTextAlone_0 rfl (lv_at hl 0 rfl) ?_
  refine va_get (D := (dC, dI)) (ci := 2) (v := .int (sAt st)) (C := R_Pa) (T := T_Pa) (N := 7) hx hb hts u_Pa hown hK hP 0 rfl rfl 4 (by decide) (hts _ L_214) (fun _ h9 => h9) rfl d_Cu_wasTextAlone_1 ?_
  refine lv_iload_n hx hb d_Cu_wasTextAlone_4 rfl (lv_at hl 1 rfl) ?_
  refine lv_iconst (v := 1) hx hb d_Cu_wasTextAlone_5 (by decide) ?_
  refine lv_iadd hx hb d_Cu_wasTextAlone_6 ?_
  refine lv_icmp_ne (tgt := 14) hx hb d_Cu_wasTextAlone_7 (by decide) (fun c_1 => ?_) (fun c_1 => ?_)
  · refine lv_iconst (v := 0) hx hb d_Cu_wasTextAlone_14 (by decide) ?_
    refine lv_istore_n (lv' := [(2, .int 0), (0, .ref hp), (1, .int first)]) hx hb d_Cu_wasTextAlone_15 rfl hl (by decide) rfl (fun ls hl => ?_)
    refine lv_aload_n hx hb d_Cu_wasTextAlone_16 rfl (lv_at hl 1 rfl) ?_
    refine va_get (D := (dC, dI)) (ci := 2) (v := .int (sAt st)) (C := R_Pa) (T := T_Pa) (N := 7) hx hb hts u_Pa hown hK hP 0 rfl rfl 4 (by decide) (hts _ L_214) (fun _ h9 => h9) rfl d_Cu_wasTextAlone_17 ?_
    refine lv_iload_n hx hb d_Cu_wasTextAlone_20 rfl (lv_at hl 2 rfl) ?_
    refine lv_iconst (v := 2) hx hb d_Cu_wasTextAlone_21 (by decide) ?_
    refine lv_iadd hx hb d_Cu_wasTextAlone_22 ?_
    refine lv_icmp_ne (tgt := 45) hx hb d_Cu_wasTextAlone_23 (by decide) (fun c_2 => ?_) (fun c_2 => ?_)
    · refine lv_iconst (v := 0) hx hb d_Cu_wasTextAlone_45 (by decide) ?_
      refine lv_istore_n (lv' := [(3, .int 0), (2, .int 0), (0, .ref hp), (1, .int first)]) hx hb d_Cu_wasTextAlone_46 rfl hl (by decide) rfl (fun ls hl => ?_)
      refine lv_aload_n hx hb d_Cu_wasTextAlone_47 rfl (lv_at hl 2 rfl) ?_
      refine va_get (D := (dC, dI)) (ci := 2) (v := .ref h) (C := R_Pa) (T := T_Pa) (N := 7) hx hb hts u_Pa hown hK hP 0 rfl rfl 3 (by decide) (hts _ L_211) (fun _ h9 => h9) rfl d_Cu_wasTextAlone_48 ?_
      refine lv_iload_n hx hb d_Cu_wasTextAlone_51 rfl (lv_at hl 3 rfl) ?_
      refine rd_V (v := (f_Tk_kind (sTk st) first)) (As := [.int first]) (rest := []) ⟨hx, hb, hml, hown, hts0⟩ (m_Tk_kind l dC dI cI cZ h a1 a2 a3 a4 (sTk st) hst.1 first) hP hK [2, 3, 4, 5, 6] rfl [0, 1] rfl 0 3 rfl rfl L_435 L_436 L_437 L_84 L_438 ⟨rfl, k_Tk_kind⟩ ⟨Nat.le_of_ble_eq_true rfl, Nat.le_of_ble_eq_true rfl⟩ hl.1 ⟨Nat.zero_le _, Nat.zero_le _⟩ (Nat.le_of_ble_eq_true rfl) d_Cu_wasTextAlone_52 rfl ?_
      refine lv_iconst (v := 3) hx hb d_Cu_wasTextAlone_55 (by decide) ?_
      refine lv_icmp_ne (tgt := 71) hx hb d_Cu_wasTextAlone_56 (by decide) (fun c_3 => ?_) (fun c_3 => ?_)
      · refine lv_iconst (v := 0) hx hb d_Cu_wasTextAlone_71 (by decide) ?_
        exact W.zret (v := 0) hx hb hr rfl (fun t ht hW => ⟨0, rfl, (by unfold f_Cu_wasTextAlone; rw [if_neg c_1, if_neg c_2, if_neg c_3]), ht⟩) (fun q h => by cases h) d_Cu_wasTextAlone_72
      · refine lv_iload_n hx hb d_Cu_wasTextAlone_59 rfl (lv_at hl 1 rfl) ?_
        refine lv_if_ne (tgt := 67) hx hb d_Cu_wasTextAlone_60 (by decide) (fun q9 => absurd q9 (by decide)) (fun _ => ?_)
        refine lv_iload_n hx hb d_Cu_wasTextAlone_63 rfl (lv_at hl 0 rfl) ?_
        refine lv_if_eq (tgt := 71) hx hb d_Cu_wasTextAlone_64 (by decide) (fun _ => ?_) (fun q9 => absurd q9 (by decide))
        refine lv_iconst (v := 0) hx hb d_Cu_wasTextAlone_71 (by decide) ?_
        exact W.zret (v := 0) hx hb hr rfl (fun t ht hW => ⟨0, rfl, (by unfold f_Cu_wasTextAlone; rw [if_neg c_1, if_neg c_2, if_pos c_3]), ht⟩) (fun q h => by cases h) d_Cu_wasTextAlone_72
    · refine lv_aload_n hx hb d_Cu_wasTextAlone_26 rfl (lv_at hl 1 rfl) ?_
      refine va_get (D := (dC, dI)) (ci := 2) (v := .ref h) (C := R_Pa) (T := T_Pa) (N := 7) hx hb hts u_Pa hown hK hP 0 rfl rfl 3 (by decide) (hts _ L_211) (fun _ h9 => h9) rfl d_Cu_wasTextAlone_27 ?_
      refine lv_iload_n hx hb d_Cu_wasTextAlone_30 rfl (lv_at hl 2 rfl) ?_
      refine lv_iconst (v := 1) hx hb d_Cu_wasTextAlone_31 (by decide) ?_
      refine lv_iadd hx hb d_Cu_wasTextAlone_32 ?_
      refine rd_V (v := (f_Tk_sign (sTk st) (first + 1))) (As := [.int (first + 1)]) (rest := []) ⟨hx, hb, hml, hown, hts0⟩ (m_Tk_sign l dC dI cI cZ h a1 a2 a3 a4 (sTk st) hst.1 (first + 1)) hP hK [2, 3, 4, 5, 6] rfl [0, 1] rfl 0 3 rfl rfl L_502 L_503 L_504 L_84 L_505 ⟨rfl, k_Tk_sign⟩ ⟨Nat.le_of_ble_eq_true rfl, Nat.le_of_ble_eq_true rfl⟩ hl.1 ⟨Nat.zero_le _, Nat.zero_le _⟩ (Nat.le_of_ble_eq_true rfl) d_Cu_wasTextAlone_33 rfl ?_
      refine lv_bipush (v := 67) hx hb d_Cu_wasTextAlone_36 (by decide) ?_
      refine lv_icmp_ne (tgt := 45) hx hb d_Cu_wasTextAlone_38 (by decide) (fun c_4 => ?_) (fun c_4 => ?_)
      · refine lv_iconst (v := 0) hx hb d_Cu_wasTextAlone_45 (by decide) ?_
        refine lv_istore_n (lv' := [(3, .int 0), (2, .int 0), (0, .ref hp), (1, .int first)]) hx hb d_Cu_wasTextAlone_46 rfl hl (by decide) rfl (fun ls hl => ?_)
        refine lv_aload_n hx hb d_Cu_wasTextAlone_47 rfl (lv_at hl 2 rfl) ?_
        refine va_get (D := (dC, dI)) (ci := 2) (v := .ref h) (C := R_Pa) (T := T_Pa) (N := 7) hx hb hts u_Pa hown hK hP 0 rfl rfl 3 (by decide) (hts _ L_211) (fun _ h9 => h9) rfl d_Cu_wasTextAlone_48 ?_
        refine lv_iload_n hx hb d_Cu_wasTextAlone_51 rfl (lv_at hl 3 rfl) ?_
        refine rd_V (v := (f_Tk_kind (sTk st) first)) (As := [.int first]) (rest := []) ⟨hx, hb, hml, hown, hts0⟩ (m_Tk_kind l dC dI cI cZ h a1 a2 a3 a4 (sTk st) hst.1 first) hP hK [2, 3, 4, 5, 6] rfl [0, 1] rfl 0 3 rfl rfl L_435 L_436 L_437 L_84 L_438 ⟨rfl, k_Tk_kind⟩ ⟨Nat.le_of_ble_eq_true rfl, Nat.le_of_ble_eq_true rfl⟩ hl.1 ⟨Nat.zero_le _, Nat.zero_le _⟩ (Nat.le_of_ble_eq_true rfl) d_Cu_wasTextAlone_52 rfl ?_
        refine lv_iconst (v := 3) hx hb d_Cu_wasTextAlone_55 (by decide) ?_
        refine lv_icmp_ne (tgt := 71) hx hb d_Cu_wasTextAlone_56 (by decide) (fun c_5 => ?_) (fun c_5 => ?_)
        · refine lv_iconst (v := 0) hx hb d_Cu_wasTextAlone_71 (by decide) ?_
          exact W.zret (v := 0) hx hb hr rfl (fun t ht hW => ⟨0, rfl, (by unfold f_Cu_wasTextAlone; rw [if_neg c_1, if_pos c_2, if_neg c_4, if_neg c_5]), ht⟩) (fun q h => by cases h) d_Cu_wasTextAlone_72
        · refine lv_iload_n hx hb d_Cu_wasTextAlone_59 rfl (lv_at hl 1 rfl) ?_
          refine lv_if_ne (tgt := 67) hx hb d_Cu_wasTextAlone_60 (by decide) (fun q9 => absurd q9 (by decide)) (fun _ => ?_)
          refine lv_iload_n hx hb d_Cu_wasTextAlone_63 rfl (lv_at hl 0 rfl) ?_
          refine lv_if_eq (tgt := 71) hx hb d_Cu_wasTextAlone_64 (by decide) (fun _ => ?_) (fun q9 => absurd q9 (by decide))
          refine lv_iconst (v := 0) hx hb d_Cu_wasTextAlone_71 (by decide) ?_
          exact W.zret (v := 0) hx hb hr rfl (fun t ht hW => ⟨0, rfl, (by unfold f_Cu_wasTextAlone; rw [if_neg c_1, if_pos c_2, if_neg c_4, if_pos c_5]), ht⟩) (fun q h => by cases h) d_Cu_wasTextAlone_72
      · refine lv_iconst (v := 1) hx hb d_Cu_wasTextAlone_41 (by decide) ?_
        refine lv_goto (tgt := 46) hx hb d_Cu_wasTextAlone_42 (by decide) ?_
        refine lv_istore_n (lv' := [(3, .int 1), (2, .int 0), (0, .ref hp), (1, .int first)]) hx hb d_Cu_wasTextAlone_46 rfl hl (by decide) rfl (fun ls hl => ?_)
        refine lv_aload_n hx hb d_Cu_wasTextAlone_47 rfl (lv_at hl 2 rfl) ?_
        refine va_get (D := (dC, dI)) (ci := 2) (v := .ref h) (C := R_Pa) (T := T_Pa) (N := 7) hx hb hts u_Pa hown hK hP 0 rfl rfl 3 (by decide) (hts _ L_211) (fun _ h9 => h9) rfl d_Cu_wasTextAlone_48 ?_
        refine lv_iload_n hx hb d_Cu_wasTextAlone_51 rfl (lv_at hl 3 rfl) ?_
        refine rd_V (v := (f_Tk_kind (sTk st) first)) (As := [.int first]) (rest := []) ⟨hx, hb, hml, hown, hts0⟩ (m_Tk_kind l dC dI cI cZ h a1 a2 a3 a4 (sTk st) hst.1 first) hP hK [2, 3, 4, 5, 6] rfl [0, 1] rfl 0 3 rfl rfl L_435 L_436 L_437 L_84 L_438 ⟨rfl, k_Tk_kind⟩ ⟨Nat.le_of_ble_eq_true rfl, Nat.le_of_ble_eq_true rfl⟩ hl.1 ⟨Nat.zero_le _, Nat.zero_le _⟩ (Nat.le_of_ble_eq_true rfl) d_Cu_wasTextAlone_52 rfl ?_
        refine lv_iconst (v := 3) hx hb d_Cu_wasTextAlone_55 (by decide) ?_
        refine lv_icmp_ne (tgt := 71) hx hb d_Cu_wasTextAlone_56 (by decide) (fun c_6 => ?_) (fun c_6 => ?_)
        · refine lv_iconst (v := 0) hx hb d_Cu_wasTextAlone_71 (by decide) ?_
          exact W.zret (v := 0) hx hb hr rfl (fun t ht hW => ⟨0, rfl, (by unfold f_Cu_wasTextAlone; rw [if_neg c_1, if_pos c_2, if_pos c_4, if_neg c_6]), ht⟩) (fun q h => by cases h) d_Cu_wasTextAlone_72
        · refine lv_iload_n hx hb d_Cu_wasTextAlone_59 rfl (lv_at hl 1 rfl) ?_
          refine lv_if_ne (tgt := 67) hx hb d_Cu_wasTextAlone_60 (by decide) (fun q9 => absurd q9 (by decide)) (fun _ => ?_)
          refine lv_iload_n hx hb d_Cu_wasTextAlone_63 rfl (lv_at hl 0 rfl) ?_
          refine lv_if_eq (tgt := 71) hx hb d_Cu_wasTextAlone_64 (by decide) (fun q9 => absurd q9 (by decide)) (fun _ => ?_)
          refine lv_iconst (v := 1) hx hb d_Cu_wasTextAlone_67 (by decide) ?_
          refine lv_goto (tgt := 72) hx hb d_Cu_wasTextAlone_68 (by decide) ?_
          exact W.zret (v := 1) hx hb hr rfl (fun t ht hW => ⟨1, rfl, (by unfold f_Cu_wasTextAlone; rw [if_neg c_1, if_pos c_2, if_pos c_4, if_pos c_6]), ht⟩) (fun q h => by cases h) d_Cu_wasTextAlone_72
  · refine lv_iconst (v := 1) hx hb d_Cu_wasTextAlone_10 (by decide) ?_
    refine lv_goto (tgt := 15) hx hb d_Cu_wasTextAlone_11 (by decide) ?_
    refine lv_istore_n (lv' := [(2, .int 1), (0, .ref hp), (1, .int first)]) hx hb d_Cu_wasTextAlone_15 rfl hl (by decide) rfl (fun ls hl => ?_)
    refine lv_aload_n hx hb d_Cu_wasTextAlone_16 rfl (lv_at hl 1 rfl) ?_
    refine va_get (D := (dC, dI)) (ci := 2) (v := .int (sAt st)) (C := R_Pa) (T := T_Pa) (N := 7) hx hb hts u_Pa hown hK hP 0 rfl rfl 4 (by decide) (hts _ L_214) (fun _ h9 => h9) rfl d_Cu_wasTextAlone_17 ?_
    refine lv_iload_n hx hb d_Cu_wasTextAlone_20 rfl (lv_at hl 2 rfl) ?_
    refine lv_iconst (v := 2) hx hb d_Cu_wasTextAlone_21 (by decide) ?_
    refine lv_iadd hx hb d_Cu_wasTextAlone_22 ?_
    refine lv_icmp_ne (tgt := 45) hx hb d_Cu_wasTextAlone_23 (by decide) (fun c_7 => ?_) (fun c_7 => ?_)
    · refine lv_iconst (v := 0) hx hb d_Cu_wasTextAlone_45 (by decide) ?_
      refine lv_istore_n (lv' := [(3, .int 0), (2, .int 1), (0, .ref hp), (1, .int first)]) hx hb d_Cu_wasTextAlone_46 rfl hl (by decide) rfl (fun ls hl => ?_)
      refine lv_aload_n hx hb d_Cu_wasTextAlone_47 rfl (lv_at hl 2 rfl) ?_
      refine va_get (D := (dC, dI)) (ci := 2) (v := .ref h) (C := R_Pa) (T := T_Pa) (N := 7) hx hb hts u_Pa hown hK hP 0 rfl rfl 3 (by decide) (hts _ L_211) (fun _ h9 => h9) rfl d_Cu_wasTextAlone_48 ?_
      refine lv_iload_n hx hb d_Cu_wasTextAlone_51 rfl (lv_at hl 3 rfl) ?_
      refine rd_V (v := (f_Tk_kind (sTk st) first)) (As := [.int first]) (rest := []) ⟨hx, hb, hml, hown, hts0⟩ (m_Tk_kind l dC dI cI cZ h a1 a2 a3 a4 (sTk st) hst.1 first) hP hK [2, 3, 4, 5, 6] rfl [0, 1] rfl 0 3 rfl rfl L_435 L_436 L_437 L_84 L_438 ⟨rfl, k_Tk_kind⟩ ⟨Nat.le_of_ble_eq_true rfl, Nat.le_of_ble_eq_true rfl⟩ hl.1 ⟨Nat.zero_le _, Nat.zero_le _⟩ (Nat.le_of_ble_eq_true rfl) d_Cu_wasTextAlone_52 rfl ?_
      refine lv_iconst (v := 3) hx hb d_Cu_wasTextAlone_55 (by decide) ?_
      refine lv_icmp_ne (tgt := 71) hx hb d_Cu_wasTextAlone_56 (by decide) (fun c_8 => ?_) (fun c_8 => ?_)
      · refine lv_iconst (v := 0) hx hb d_Cu_wasTextAlone_71 (by decide) ?_
        exact W.zret (v := 0) hx hb hr rfl (fun t ht hW => ⟨0, rfl, (by unfold f_Cu_wasTextAlone; rw [if_pos c_1, if_neg c_7, if_neg c_8]), ht⟩) (fun q h => by cases h) d_Cu_wasTextAlone_72
      · refine lv_iload_n hx hb d_Cu_wasTextAlone_59 rfl (lv_at hl 1 rfl) ?_
        refine lv_if_ne (tgt := 67) hx hb d_Cu_wasTextAlone_60 (by decide) (fun _ => ?_) (fun q9 => absurd q9 (by decide))
        refine lv_iconst (v := 1) hx hb d_Cu_wasTextAlone_67 (by decide) ?_
        refine lv_goto (tgt := 72) hx hb d_Cu_wasTextAlone_68 (by decide) ?_
        exact W.zret (v := 1) hx hb hr rfl (fun t ht hW => ⟨1, rfl, (by unfold f_Cu_wasTextAlone; rw [if_pos c_1, if_neg c_7, if_pos c_8]), ht⟩) (fun q h => by cases h) d_Cu_wasTextAlone_72
    · refine lv_aload_n hx hb d_Cu_wasTextAlone_26 rfl (lv_at hl 1 rfl) ?_
      refine va_get (D := (dC, dI)) (ci := 2) (v := .ref h) (C := R_Pa) (T := T_Pa) (N := 7) hx hb hts u_Pa hown hK hP 0 rfl rfl 3 (by decide) (hts _ L_211) (fun _ h9 => h9) rfl d_Cu_wasTextAlone_27 ?_
      refine lv_iload_n hx hb d_Cu_wasTextAlone_30 rfl (lv_at hl 2 rfl) ?_
      refine lv_iconst (v := 1) hx hb d_Cu_wasTextAlone_31 (by decide) ?_
      refine lv_iadd hx hb d_Cu_wasTextAlone_32 ?_
      refine rd_V (v := (f_Tk_sign (sTk st) (first + 1))) (As := [.int (first + 1)]) (rest := []) ⟨hx, hb, hml, hown, hts0⟩ (m_Tk_sign l dC dI cI cZ h a1 a2 a3 a4 (sTk st) hst.1 (first + 1)) hP hK [2, 3, 4, 5, 6] rfl [0, 1] rfl 0 3 rfl rfl L_502 L_503 L_504 L_84 L_505 ⟨rfl, k_Tk_sign⟩ ⟨Nat.le_of_ble_eq_true rfl, Nat.le_of_ble_eq_true rfl⟩ hl.1 ⟨Nat.zero_le _, Nat.zero_le _⟩ (Nat.le_of_ble_eq_true rfl) d_Cu_wasTextAlone_33 rfl ?_
      refine lv_bipush (v := 67) hx hb d_Cu_wasTextAlone_36 (by decide) ?_
      refine lv_icmp_ne (tgt := 45) hx hb d_Cu_wasTextAlone_38 (by decide) (fun c_9 => ?_) (fun c_9 => ?_)
      · refine lv_iconst (v := 0) hx hb d_Cu_wasTextAlone_45 (by decide) ?_
        refine lv_istore_n (lv' := [(3, .int 0), (2, .int 1), (0, .ref hp), (1, .int first)]) hx hb d_Cu_wasTextAlone_46 rfl hl (by decide) rfl (fun ls hl => ?_)
        refine lv_aload_n hx hb d_Cu_wasTextAlone_47 rfl (lv_at hl 2 rfl) ?_
        refine va_get (D := (dC, dI)) (ci := 2) (v := .ref h) (C := R_Pa) (T := T_Pa) (N := 7) hx hb hts u_Pa hown hK hP 0 rfl rfl 3 (by decide) (hts _ L_211) (fun _ h9 => h9) rfl d_Cu_wasTextAlone_48 ?_
        refine lv_iload_n hx hb d_Cu_wasTextAlone_51 rfl (lv_at hl 3 rfl) ?_
        refine rd_V (v := (f_Tk_kind (sTk st) first)) (As := [.int first]) (rest := []) ⟨hx, hb, hml, hown, hts0⟩ (m_Tk_kind l dC dI cI cZ h a1 a2 a3 a4 (sTk st) hst.1 first) hP hK [2, 3, 4, 5, 6] rfl [0, 1] rfl 0 3 rfl rfl L_435 L_436 L_437 L_84 L_438 ⟨rfl, k_Tk_kind⟩ ⟨Nat.le_of_ble_eq_true rfl, Nat.le_of_ble_eq_true rfl⟩ hl.1 ⟨Nat.zero_le _, Nat.zero_le _⟩ (Nat.le_of_ble_eq_true rfl) d_Cu_wasTextAlone_52 rfl ?_
        refine lv_iconst (v := 3) hx hb d_Cu_wasTextAlone_55 (by decide) ?_
        refine lv_icmp_ne (tgt := 71) hx hb d_Cu_wasTextAlone_56 (by decide) (fun c_10 => ?_) (fun c_10 => ?_)
        · refine lv_iconst (v := 0) hx hb d_Cu_wasTextAlone_71 (by decide) ?_
          exact W.zret (v := 0) hx hb hr rfl (fun t ht hW => ⟨0, rfl, (by unfold f_Cu_wasTextAlone; rw [if_pos c_1, if_pos c_7, if_neg c_9, if_neg c_10]), ht⟩) (fun q h => by cases h) d_Cu_wasTextAlone_72
        · refine lv_iload_n hx hb d_Cu_wasTextAlone_59 rfl (lv_at hl 1 rfl) ?_
          refine lv_if_ne (tgt := 67) hx hb d_Cu_wasTextAlone_60 (by decide) (fun _ => ?_) (fun q9 => absurd q9 (by decide))
          refine lv_iconst (v := 1) hx hb d_Cu_wasTextAlone_67 (by decide) ?_
          refine lv_goto (tgt := 72) hx hb d_Cu_wasTextAlone_68 (by decide) ?_
          exact W.zret (v := 1) hx hb hr rfl (fun t ht hW => ⟨1, rfl, (by unfold f_Cu_wasTextAlone; rw [if_pos c_1, if_pos c_7, if_neg c_9, if_pos c_10]), ht⟩) (fun q h => by cases h) d_Cu_wasTextAlone_72
      · refine lv_iconst (v := 1) hx hb d_Cu_wasTextAlone_41 (by decide) ?_
        refine lv_goto (tgt := 46) hx hb d_Cu_wasTextAlone_42 (by decide) ?_
        refine lv_istore_n (lv' := [(3, .int 1), (2, .int 1), (0, .ref hp), (1, .int first)]) hx hb d_Cu_wasTextAlone_46 rfl hl (by decide) rfl (fun ls hl => ?_)
        refine lv_aload_n hx hb d_Cu_wasTextAlone_47 rfl (lv_at hl 2 rfl) ?_
        refine va_get (D := (dC, dI)) (ci := 2) (v := .ref h) (C := R_Pa) (T := T_Pa) (N := 7) hx hb hts u_Pa hown hK hP 0 rfl rfl 3 (by decide) (hts _ L_211) (fun _ h9 => h9) rfl d_Cu_wasTextAlone_48 ?_
        refine lv_iload_n hx hb d_Cu_wasTextAlone_51 rfl (lv_at hl 3 rfl) ?_
        refine rd_V (v := (f_Tk_kind (sTk st) first)) (As := [.int first]) (rest := []) ⟨hx, hb, hml, hown, hts0⟩ (m_Tk_kind l dC dI cI cZ h a1 a2 a3 a4 (sTk st) hst.1 first) hP hK [2, 3, 4, 5, 6] rfl [0, 1] rfl 0 3 rfl rfl L_435 L_436 L_437 L_84 L_438 ⟨rfl, k_Tk_kind⟩ ⟨Nat.le_of_ble_eq_true rfl, Nat.le_of_ble_eq_true rfl⟩ hl.1 ⟨Nat.zero_le _, Nat.zero_le _⟩ (Nat.le_of_ble_eq_true rfl) d_Cu_wasTextAlone_52 rfl ?_
        refine lv_iconst (v := 3) hx hb d_Cu_wasTextAlone_55 (by decide) ?_
        refine lv_icmp_ne (tgt := 71) hx hb d_Cu_wasTextAlone_56 (by decide) (fun c_11 => ?_) (fun c_11 => ?_)
        · refine lv_iconst (v := 0) hx hb d_Cu_wasTextAlone_71 (by decide) ?_
          exact W.zret (v := 0) hx hb hr rfl (fun t ht hW => ⟨0, rfl, (by unfold f_Cu_wasTextAlone; rw [if_pos c_1, if_pos c_7, if_pos c_9, if_neg c_11]), ht⟩) (fun q h => by cases h) d_Cu_wasTextAlone_72
        · refine lv_iload_n hx hb d_Cu_wasTextAlone_59 rfl (lv_at hl 1 rfl) ?_
          refine lv_if_ne (tgt := 67) hx hb d_Cu_wasTextAlone_60 (by decide) (fun _ => ?_) (fun q9 => absurd q9 (by decide))
          refine lv_iconst (v := 1) hx hb d_Cu_wasTextAlone_67 (by decide) ?_
          refine lv_goto (tgt := 72) hx hb d_Cu_wasTextAlone_68 (by decide) ?_
          exact W.zret (v := 1) hx hb hr rfl (fun t ht hW => ⟨1, rfl, (by unfold f_Cu_wasTextAlone; rw [if_pos c_1, if_pos c_7, if_pos c_9, if_pos c_11]), ht⟩) (fun q h => by cases h) d_Cu_wasTextAlone_72
def f_Cu_binaryOperator (st : ST) (inn : Int32) : Int32 := (if (f_Cu_atWord st 14) = 0 then (if inn = 0 then (if (f_Tk_sign (sTk st) (sAt st)) < 1 then 0 else (if 23 < (f_Tk_sign (sTk st) (sAt st)) then 0 else (f_Tk_sign (sTk st) (sAt st)))) else (if (f_Cu_atWord st 13) = 0 then (if (f_Tk_sign (sTk st) (sAt st)) < 1 then 0 else (if 23 < (f_Tk_sign (sTk st) (sAt st)) then 0 else (f_Tk_sign (sTk st) (sAt st)))) else 15)) else 14)
set_option maxRecDepth 100000 in
set_option maxHeartbeats 4000000 in
theorem m_Cu_binaryOperator (l : Launch) (dC : Nat → ClassId) (dI : Nat → Nat → Nat) (cI cZ : ClassId) (hp hc h a1 a2 a3 a4 ht b1 b2 b3 b4 hq n1 n2 : Nat) (st : ST) (hst : okSt st) (inn : Int32) : cRd l y_Cu_binaryOperator c_Cu_binaryOperator 3 .int 2 43 (dC, dI) (ty2 cI cZ) [.ref hp, .int inn] (wP cI cZ hp hc h a1 a2 a3 a4 ht b1 b2 b3 b4 hq n1 n2 st) (f_Cu_binaryOperator st inn) := by
  refine Met.ofW (cc := c_Cu_binaryOperator) (maxL := 3) (ret := some .int) (by decide) rfl ?_
  intro p e s m args below meth c s₁ B hml hv
  obtain ⟨rfl, hP, hK⟩ := hv
  have hx := B.exec
  have hb := B.bytes
  have hr := B.returns
  have hts0 := atoms_spec (ws := wy y_Cu_binaryOperator c_Cu_binaryOperator 3 (some .int)) B.pre
  have hts := htsL hts0
  have hown : s.vm.findClass R_Cu = some m.cls := findClass_of_methodNamed B.named
  have hlocks := B.notSynchronized
  have hl := lv_entry ([.ref hp, .int inn]) (n := 3) (Nat.le_of_ble_eq_true rfl)
  rw [lg_entry_eq]
  generalize (lg_sl ([.ref hp, .int inn]) ++ List.replicate (3 - (lg_sl ([.ref hp, .int inn])).length) Slot.unset).toArray = ls at hl ⊢
  have hl : lv_has ls 3 [(0, .ref hp), (1, .int inn)] := hl
  refine lv_aload_n hx hb d_Cu_binaryOperator_0 rfl (lv_at hl 0 rfl) ?_
  refine lv_bipush (v := 14) hx hb d_Cu_binaryOperator_1 (by decide) ?_
  refine rd_U (xm := y_Cu_atWord) (owner := R_Cu) (v := (f_Cu_atWord st 14)) (As := [.int 14]) (rest := []) ⟨hx, hb, hml, hown, hts0⟩ (m_Cu_atWord l dC dI cI cZ hp hc h a1 a2 a3 a4 ht b1 b2 b3 b4 hq n1 n2 st hst 14) hP hK [0, 1, 2, 3, 4, 5, 6, 7, 8, 9, 10, 11, 12, 13, 14] rfl [0, 1] rfl 0 2 rfl rfl L_693 L_1285 L_1286 L_443 L_86 L_444 rfl k_Cu_atWord ⟨Nat.le_of_ble_eq_true rfl, Nat.le_of_ble_eq_true rfl⟩ hl.1 ⟨Nat.zero_le _, Nat.zero_le _⟩ (Nat.le_of_ble_eq_true rfl) d_Cu_binaryOperator_3 rfl ?_
  refine lv_if_eq (tgt := 12) hx hb d_Cu_binaryOperator_6 (by decide) (fun c_1 => ?_) (fun c_1 => ?_)
  · refine lv_iload_n hx hb d_Cu_binaryOperator_12 rfl (lv_at hl 1 rfl) ?_
    refine lv_if_eq (tgt := 28) hx hb d_Cu_binaryOperator_13 (by decide) (fun c_2 => ?_) (fun c_2 => ?_)
    · refine lv_aload_n hx hb d_Cu_binaryOperator_28 rfl (lv_at hl 0 rfl) ?_
      refine va_get (D := (dC, dI)) (ci := 2) (v := .ref h) (C := R_Pa) (T := T_Pa) (N := 7) hx hb hts u_Pa hown hK hP 0 rfl rfl 3 (by decide) (hts _ L_211) (fun _ h9 => h9) rfl d_Cu_binaryOperator_29 ?_
      refine lv_aload_n hx hb d_Cu_binaryOperator_32 rfl (lv_at hl 0 rfl) ?_
      refine va_get (D := (dC, dI)) (ci := 2) (v := .int (sAt st)) (C := R_Pa) (T := T_Pa) (N := 7) hx hb hts u_Pa hown hK hP 0 rfl rfl 4 (by decide) (hts _ L_214) (fun _ h9 => h9) rfl d_Cu_binaryOperator_33 ?_
      refine rd_V (v := (f_Tk_sign (sTk st) (sAt st))) (As := [.int (sAt st)]) (rest := []) ⟨hx, hb, hml, hown, hts0⟩ (m_Tk_sign l dC dI cI cZ h a1 a2 a3 a4 (sTk st) hst.1 (sAt st)) hP hK [2, 3, 4, 5, 6] rfl [0, 1] rfl 0 3 rfl rfl L_502 L_503 L_504 L_84 L_505 ⟨rfl, k_Tk_sign⟩ ⟨Nat.le_of_ble_eq_true rfl, Nat.le_of_ble_eq_true rfl⟩ hl.1 ⟨Nat.zero_le _, Nat.zero_le _⟩ (Nat.le_of_ble_eq_true rfl) d_Cu_binaryOperator_36 rfl ?_
      refine lv_istore_n (lv' := [(2, .int (f_Tk_sign (sTk st) (sAt st))), (0, .ref hp), (1, .int inn)]) hx hb d_Cu_binaryOperator_39 rfl hl (by decide) rfl (fun ls hl => ?_)
      refine lv_iload_n hx hb d_Cu_binaryOperator_40 rfl (lv_at hl 0 rfl) ?_
      refine lv_iconst (v := 1) hx hb d_Cu_binaryOperator_41 (by decide) ?_
      refine lv_icmp_lt (tgt := 55) hx hb d_Cu_binaryOperator_42 (by decide) (fun c_3 => ?_) (fun c_3 => ?_)
      · refine lv_iconst (v := 0) hx hb d_Cu_binaryOperator_55 (by decide) ?_
        exact W.iret (v := 0) hx hb hr (fun t ht hW => ⟨0, rfl, (by unfold f_Cu_binaryOperator; rw [if_pos c_1, if_pos c_2, if_pos c_3]), ht⟩) (fun q h => by cases h) d_Cu_binaryOperator_56
      · refine lv_iload_n hx hb d_Cu_binaryOperator_45 rfl (lv_at hl 0 rfl) ?_
        refine lv_bipush (v := 23) hx hb d_Cu_binaryOperator_46 (by decide) ?_
        refine lv_icmp_gt (tgt := 55) hx hb d_Cu_binaryOperator_48 (by decide) (fun c_4 => ?_) (fun c_4 => ?_)
        · refine lv_iconst (v := 0) hx hb d_Cu_binaryOperator_55 (by decide) ?_
          exact W.iret (v := 0) hx hb hr (fun t ht hW => ⟨0, rfl, (by unfold f_Cu_binaryOperator; rw [if_pos c_1, if_pos c_2, if_neg c_3, if_pos c_4]), ht⟩) (fun q h => by cases h) d_Cu_binaryOperator_56
        · refine lv_iload_n hx hb d_Cu_binaryOperator_51 rfl (lv_at hl 0 rfl) ?_
          refine lv_goto (tgt := 56) hx hb d_Cu_binaryOperator_52 (by decide) ?_
          exact W.iret (v := (f_Tk_sign (sTk st) (sAt st))) hx hb hr (fun t ht hW => ⟨(f_Tk_sign (sTk st) (sAt st)), rfl, (by unfold f_Cu_binaryOperator; rw [if_pos c_1, if_pos c_2, if_neg c_3, if_neg c_4]), ht⟩) (fun q h => by cases h) d_Cu_binaryOperator_56
    · refine lv_aload_n hx hb d_Cu_binaryOperator_16 rfl (lv_at hl 0 rfl) ?_
      refine lv_bipush (v := 13) hx hb d_Cu_binaryOperator_17 (by decide) ?_
      refine rd_U (xm := y_Cu_atWord) (owner := R_Cu) (v := (f_Cu_atWord st 13)) (As := [.int 13]) (rest := []) ⟨hx, hb, hml, hown, hts0⟩ (m_Cu_atWord l dC dI cI cZ hp hc h a1 a2 a3 a4 ht b1 b2 b3 b4 hq n1 n2 st hst 13) hP hK [0, 1, 2, 3, 4, 5, 6, 7, 8, 9, 10, 11, 12, 13, 14] rfl [0, 1] rfl 0 2 rfl rfl L_693 L_1285 L_1286 L_443 L_86 L_444 rfl k_Cu_atWord ⟨Nat.le_of_ble_eq_true rfl, Nat.le_of_ble_eq_true rfl⟩ hl.1 ⟨Nat.zero_le _, Nat.zero_le _⟩ (Nat.le_of_ble_eq_true rfl) d_Cu_binaryOperator_19 rfl ?_
      refine lv_if_eq (tgt := 28) hx hb d_Cu_binaryOperator_22 (by decide) (fun c_5 => ?_) (fun c_5 => ?_)
      · refine lv_aload_n hx hb d_Cu_binaryOperator_28 rfl (lv_at hl 0 rfl) ?_
        refine va_get (D := (dC, dI)) (ci := 2) (v := .ref h) (C := R_Pa) (T := T_Pa) (N := 7) hx hb hts u_Pa hown hK hP 0 rfl rfl 3 (by decide) (hts _ L_211) (fun _ h9 => h9) rfl d_Cu_binaryOperator_29 ?_
        refine lv_aload_n hx hb d_Cu_binaryOperator_32 rfl (lv_at hl 0 rfl) ?_
        refine va_get (D := (dC, dI)) (ci := 2) (v := .int (sAt st)) (C := R_Pa) (T := T_Pa) (N := 7) hx hb hts u_Pa hown hK hP 0 rfl rfl 4 (by decide) (hts _ L_214) (fun _ h9 => h9) rfl d_Cu_binaryOperator_33 ?_
        refine rd_V (v := (f_Tk_sign (sTk st) (sAt st))) (As := [.int (sAt st)]) (rest := []) ⟨hx, hb, hml, hown, hts0⟩ (m_Tk_sign l dC dI cI cZ h a1 a2 a3 a4 (sTk st) hst.1 (sAt st)) hP hK [2, 3, 4, 5, 6] rfl [0, 1] rfl 0 3 rfl rfl L_502 L_503 L_504 L_84 L_505 ⟨rfl, k_Tk_sign⟩ ⟨Nat.le_of_ble_eq_true rfl, Nat.le_of_ble_eq_true rfl⟩ hl.1 ⟨Nat.zero_le _, Nat.zero_le _⟩ (Nat.le_of_ble_eq_true rfl) d_Cu_binaryOperator_36 rfl ?_
        refine lv_istore_n (lv' := [(2, .int (f_Tk_sign (sTk st) (sAt st))), (0, .ref hp), (1, .int inn)]) hx hb d_Cu_binaryOperator_39 rfl hl (by decide) rfl (fun ls hl => ?_)
        refine lv_iload_n hx hb d_Cu_binaryOperator_40 rfl (lv_at hl 0 rfl) ?_
        refine lv_iconst (v := 1) hx hb d_Cu_binaryOperator_41 (by decide) ?_
        refine lv_icmp_lt (tgt := 55) hx hb d_Cu_binaryOperator_42 (by decide) (fun c_6 => ?_) (fun c_6 => ?_)
        · refine lv_iconst (v := 0) hx hb d_Cu_binaryOperator_55 (by decide) ?_
          exact W.iret (v := 0) hx hb hr (fun t ht hW => ⟨0, rfl, (by unfold f_Cu_binaryOperator; rw [if_pos c_1, if_neg c_2, if_pos c_5, if_pos c_6]), ht⟩) (fun q h => by cases h) d_Cu_binaryOperator_56
        · refine lv_iload_n hx hb d_Cu_binaryOperator_45 rfl (lv_at hl 0 rfl) ?_
          refine lv_bipush (v := 23) hx hb d_Cu_binaryOperator_46 (by decide) ?_
          refine lv_icmp_gt (tgt := 55) hx hb d_Cu_binaryOperator_48 (by decide) (fun c_7 => ?_) (fun c_7 => ?_)
          · refine lv_iconst (v := 0) hx hb d_Cu_binaryOperator_55 (by decide) ?_
            exact W.iret (v := 0) hx hb hr (fun t ht hW => ⟨0, rfl, (by unfold f_Cu_binaryOperator; rw [if_pos c_1, if_neg c_2, if_pos c_5, if_neg c_6, if_pos c_7]), ht⟩) (fun q h => by cases h) d_Cu_binaryOperator_56
          · refine lv_iload_n hx hb d_Cu_binaryOperator_51 rfl (lv_at hl 0 rfl) ?_
            refine lv_goto (tgt := 56) hx hb d_Cu_binaryOperator_52 (by decide) ?_
            exact W.iret (v := (f_Tk_sign (sTk st) (sAt st))) hx hb hr (fun t ht hW => ⟨(f_Tk_sign (sTk st) (sAt st)), rfl, (by unfold f_Cu_binaryOperator; rw [if_pos c_1, if_neg c_2, if_pos c_5, if_neg c_6, if_neg c_7]), ht⟩) (fun q h => by cases h) d_Cu_binaryOperator_56
      · refine lv_bipush (v := 15) hx hb d_Cu_binaryOperator_25 (by decide) ?_
        exact W.iret (v := 15) hx hb hr (fun t ht hW => ⟨15, rfl, (by unfold f_Cu_binaryOperator; rw [if_pos c_1, if_neg c_2, if_neg c_5]), ht⟩) (fun q h => by cases h) d_Cu_binaryOperator_27
  · refine lv_bipush (v := 14) hx hb d_Cu_binaryOperator_9 (by decide) ?_
    exact W.iret (v := 14) hx hb hr (fun t ht hW => ⟨14, rfl, (by unfold f_Cu_binaryOperator; rw [if_neg c_1]), ht⟩) (fun q h => by cases h) d_Cu_binaryOperator_11
