abbrev ty2 (cI cZ : ClassId) : List (ClassId × FieldType) := [(cI, .int), (cZ, .boolean)]
/-- the tokens: kinds, words, names, lines; how many; the arrays' length -/
abbrev TK : Type := (Nat → Int32) × (Nat → Int32) × (Nat → Int32) × (Nat → Int32) × Nat × Nat
abbrev tkK (t : TK) : Nat → Int32 := t.1
abbrev tkW (t : TK) : Nat → Int32 := t.2.1
abbrev tkN (t : TK) : Nat → Int32 := t.2.2.1
abbrev tkL (t : TK) : Nat → Int32 := t.2.2.2.1
abbrev tkn (t : TK) : Nat := t.2.2.2.2.1
abbrev tkc (t : TK) : Nat := t.2.2.2.2.2
abbrev okTk (t : TK) : Prop := tkn t ≤ tkc t ∧ tkc t < 2 ^ 31
abbrev wTk (cI : ClassId) (h a1 a2 a3 a4 : Nat) (tk : TK) : va_W := [(h, .inr (3, [.ref a1, .ref a2, .ref a3, .ref a4, .int (nI (tkn tk))])), (a1, .inl (cI, tkc tk, .inl (tkK tk))), (a2, .inl (cI, tkc tk, .inl (tkW tk))), (a3, .inl (cI, tkc tk, .inl (tkN tk))), (a4, .inl (cI, tkc tk, .inl (tkL tk)))]
theorem nl0 {i : Int32} (h : 0 ≤ i) : ¬ i < 0 := Int32.not_lt.mpr h
theorem nle {i j : Int32} (h : i < j) : ¬ j ≤ i := Int32.not_le.mpr h
theorem nB {v : Int32} (h : v = 0 ∨ v = 1) : narrow .boolean (.int v) = .int v := by rcases h with rfl | rfl <;> rfl
theorem u_Co : ∀ w ∈ u_ws R_Co T_Co 5, w ∈ LL := by
  have h : u_ws R_Co T_Co 5 = (List.range 5).map (u_lay R_Co T_Co) := rfl
  intro w hw
  obtain ⟨k, hk, rfl⟩ := List.mem_map.mp hw
  have hk := List.mem_range.mp hk
  match k, hk with
  | 0, _ => exact L_180
  | 1, _ => exact L_182
  | 2, _ => exact L_184
  | 3, _ => exact L_186
  | 4, _ => exact L_188
theorem u_La : ∀ w ∈ u_ws R_La T_La 3, w ∈ LL := by
  have h : u_ws R_La T_La 3 = (List.range 3).map (u_lay R_La T_La) := rfl
  intro w hw
  obtain ⟨k, hk, rfl⟩ := List.mem_map.mp hw
  have hk := List.mem_range.mp hk
  match k, hk with
  | 0, _ => exact L_200
  | 1, _ => exact L_202
  | 2, _ => exact L_204
theorem u_Pa : ∀ w ∈ u_ws R_Pa T_Pa 7, w ∈ LL := by
  have h : u_ws R_Pa T_Pa 7 = (List.range 7).map (u_lay R_Pa T_Pa) := rfl
  intro w hw
  obtain ⟨k, hk, rfl⟩ := List.mem_map.mp hw
  have hk := List.mem_range.mp hk
  match k, hk with
  | 0, _ => exact L_223
  | 1, _ => exact L_225
  | 2, _ => exact L_227
  | 3, _ => exact L_229
  | 4, _ => exact L_231
  | 5, _ => exact L_233
  | 6, _ => exact L_235
theorem u_Tk : ∀ w ∈ u_ws R_Tk T_Tk 5, w ∈ LL := by
  have h : u_ws R_Tk T_Tk 5 = (List.range 5).map (u_lay R_Tk T_Tk) := rfl
  intro w hw
  obtain ⟨k, hk, rfl⟩ := List.mem_map.mp hw
  have hk := List.mem_range.mp hk
  match k, hk with
  | 0, _ => exact L_120
  | 1, _ => exact L_122
  | 2, _ => exact L_124
  | 3, _ => exact L_126
  | 4, _ => exact L_128
theorem u_Tr : ∀ w ∈ u_ws R_Tr T_Tr 5, w ∈ LL := by
  have h : u_ws R_Tr T_Tr 5 = (List.range 5).map (u_lay R_Tr T_Tr) := rfl
  intro w hw
  obtain ⟨k, hk, rfl⟩ := List.mem_map.mp hw
  have hk := List.mem_range.mp hk
  match k, hk with
  | 0, _ => exact L_143
  | 1, _ => exact L_145
  | 2, _ => exact L_147
  | 3, _ => exact L_149
  | 4, _ => exact L_151
theorem u_Sy : ∀ w ∈ u_ws R_Sy T_Sy 4, w ∈ LL := by
  have h : u_ws R_Sy T_Sy 4 = (List.range 4).map (u_lay R_Sy T_Sy) := rfl
  intro w hw
  obtain ⟨k, hk, rfl⟩ := List.mem_map.mp hw
  have hk := List.mem_range.mp hk
  match k, hk with
  | 0, _ => exact L_242
  | 1, _ => exact L_244
  | 2, _ => exact L_246
  | 3, _ => exact L_248
theorem u_Mo : ∀ w ∈ u_ws R_Mo T_Mo 31, w ∈ LL := by
  have h : u_ws R_Mo T_Mo 31 = (List.range 31).map (u_lay R_Mo T_Mo) := rfl
  intro w hw
  obtain ⟨k, hk, rfl⟩ := List.mem_map.mp hw
  have hk := List.mem_range.mp hk
  match k, hk with
  | 0, _ => exact L_952
  | 1, _ => exact L_954
  | 2, _ => exact L_956
  | 3, _ => exact L_958
  | 4, _ => exact L_960
  | 5, _ => exact L_962
  | 6, _ => exact L_964
  | 7, _ => exact L_966
  | 8, _ => exact L_968
  | 9, _ => exact L_970
  | 10, _ => exact L_972
  | 11, _ => exact L_974
  | 12, _ => exact L_976
  | 13, _ => exact L_978
  | 14, _ => exact L_980
  | 15, _ => exact L_982
  | 16, _ => exact L_984
  | 17, _ => exact L_986
  | 18, _ => exact L_988
  | 19, _ => exact L_990
  | 20, _ => exact L_992
  | 21, _ => exact L_994
  | 22, _ => exact L_996
  | 23, _ => exact L_998
  | 24, _ => exact L_1000
  | 25, _ => exact L_1002
  | 26, _ => exact L_1004
  | 27, _ => exact L_1006
  | 28, _ => exact L_1008
  | 29, _ => exact L_1010
  | 30, _ => exact L_1012
