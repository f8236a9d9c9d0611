abbrev ty2 (cI cZ : ClassId) : List (ClassId × FieldType) := [(cI, .int), (cZ, .boolean)]
/-- the tokens: kinds, words, names, lines; how many; the arrays' length -/
abbrev TK : Type := (Nat → Int32) × (Nat → Int32) × (Nat → Int32) × (Nat → Int32) × Nat × Nat
abbrev tkK (t : TK) : Nat → Int32 := t.1
abbrev tkW (t : TK) : Nat → Int32 := t.2.1
abbrev tkN (t : TK) : Nat → Int32 := t.2.2.1
abbrev tkL (t : TK) : Nat → Int32 := t.2.2.2.1
abbrev tkn (t : TK) : Nat := t.2.2.2.2.1
abbrev tkc (t : TK) : Nat := t.2.2.2.2.2
abbrev okTk (t : TK) : Prop := tkn t ≤ tkc t ∧ tkc t < 2 ^ 31 ∧ 64 ≤ tkc t ∧ tkc t ≤ 1000
abbrev wTk (cI : ClassId) (h a1 a2 a3 a4 : Nat) (tk : TK) : va_W := [(h, .inr (3, [.ref a1, .ref a2, .ref a3, .ref a4, .int (nI (tkn tk))])), (a1, .inl (cI, tkc tk, .inl (tkK tk))), (a2, .inl (cI, tkc tk, .inl (tkW tk))), (a3, .inl (cI, tkc tk, .inl (tkN tk))), (a4, .inl (cI, tkc tk, .inl (tkL tk)))]
theorem nl0 {i : Int32} (h : 0 ≤ i) : ¬ i < 0 := Int32.not_lt.mpr h
theorem nle {i j : Int32} (h : i < j) : ¬ j ≤ i := Int32.not_le.mpr h
theorem nB {v : Int32} (h : v = 0 ∨ v = 1) : narrow .boolean (.int v) = .int v := by rcases h with rfl | rfl <;> rfl
theorem u_Co : ∀ w ∈ u_ws R_Co T_Co 5, w ∈ LL := by
  have h : u_ws R_Co T_Co 5 = (List.range 5).map (u_lay R_Co T_Co) := rfl
  intro w hw
  obtain ⟨k, hk, rfl⟩ := List.mem_map.mp hw
  have hk := List.mem_range.mp hk
  match k, hk with
  | 0, _ => exact L_180
  | 1, _ => exact L_182
  | 2, _ => exact L_184
  | 3, _ => exact L_186
  | 4, _ => exact L_188
  | n + 5, h9 => exact absurd h9 (by omega)
theorem u_La : ∀ w ∈ u_ws R_La T_La 3, w ∈ LL := by
  have h : u_ws R_La T_La 3 = (List.range 3).map (u_lay R_La T_La) := rfl
  intro w hw
  obtain ⟨k, hk, rfl⟩ := List.mem_map.mp hw
  have hk := List.mem_range.mp hk
  match k, hk with
  | 0, _ => exact L_200
  | 1, _ => exact L_202
  | 2, _ => exact L_204
  | n + 3, h9 => exact absurd h9 (by omega)
theorem u_Pa : ∀ w ∈ u_ws R_Pa T_Pa 7, w ∈ LL := by
  have h : u_ws R_Pa T_Pa 7 = (List.range 7).map (u_lay R_Pa T_Pa) := rfl
  intro w hw
  obtain ⟨k, hk, rfl⟩ := List.mem_map.mp hw
  have hk := List.mem_range.mp hk
  match k, hk with
  | 0, _ => exact L_223
  | 1, _ => exact L_225
  | 2, _ => exact L_227
  | 3, _ => exact L_229
  | 4, _ => exact L_231
  | 5, _ => exact L_233
  | 6, _ => exact L_235
  | n + 7, h9 => exact absurd h9 (by omega)
theorem u_Tk : ∀ w ∈ u_ws R_Tk T_Tk 5, w ∈ LL := by
  have h : u_ws R_Tk T_Tk 5 = (List.range 5).map (u_lay R_Tk T_Tk) := rfl
  intro w hw
  obtain ⟨k, hk, rfl⟩ := List.mem_map.mp hw
  have hk := List.mem_range.mp hk
  match k, hk with
  | 0, _ => exact L_120
  | 1, _ => exact L_122
  | 2, _ => exact L_124
  | 3, _ => exact L_126
  | 4, _ => exact L_128
  | n + 5, h9 => exact absurd h9 (by omega)
theorem u_Tr : ∀ w ∈ u_ws R_Tr T_Tr 5, w ∈ LL := by
  have h : u_ws R_Tr T_Tr 5 = (List.range 5).map (u_lay R_Tr T_Tr) := rfl
  intro w hw
  obtain ⟨k, hk, rfl⟩ := List.mem_map.mp hw
  have hk := List.mem_range.mp hk
  match k, hk with
  | 0, _ => exact L_143
  | 1, _ => exact L_145
  | 2, _ => exact L_147
  | 3, _ => exact L_149
  | 4, _ => exact L_151
  | n + 5, h9 => exact absurd h9 (by omega)
theorem u_Sy : ∀ w ∈ u_ws R_Sy T_Sy 4, w ∈ LL := by
  have h : u_ws R_Sy T_Sy 4 = (List.range 4).map (u_lay R_Sy T_Sy) := rfl
  intro w hw
  obtain ⟨k, hk, rfl⟩ := List.mem_map.mp hw
  have hk := List.mem_range.mp hk
  match k, hk with
  | 0, _ => exact L_242
  | 1, _ => exact L_244
  | 2, _ => exact L_246
  | 3, _ => exact L_248
  | n + 4, h9 => exact absurd h9 (by omega)
theorem u_Mo : ∀ w ∈ u_ws R_Mo T_Mo 31, w ∈ LL := by
  have h : u_ws R_Mo T_Mo 31 = (List.range 31).map (u_lay R_Mo T_Mo) := rfl
  intro w hw
  obtain ⟨k, hk, rfl⟩ := List.mem_map.mp hw
  have hk := List.mem_range.mp hk
  match k, hk with
  | 0, _ => exact L_952
  | 1, _ => exact L_954
  | 2, _ => exact L_956
  | 3, _ => exact L_958
  | 4, _ => exact L_960
  | 5, _ => exact L_962
  | 6, _ => exact L_964
  | 7, _ => exact L_966
  | 8, _ => exact L_968
  | 9, _ => exact L_970
  | 10, _ => exact L_972
  | 11, _ => exact L_974
  | 12, _ => exact L_976
  | 13, _ => exact L_978
  | 14, _ => exact L_980
  | 15, _ => exact L_982
  | 16, _ => exact L_984
  | 17, _ => exact L_986
  | 18, _ => exact L_988
  | 19, _ => exact L_990
  | 20, _ => exact L_992
  | 21, _ => exact L_994
  | 22, _ => exact L_996
  | 23, _ => exact L_998
  | 24, _ => exact L_1000
  | 25, _ => exact L_1002
  | 26, _ => exact L_1004
  | 27, _ => exact L_1006
  | 28, _ => exact L_1008
  | 29, _ => exact L_1010
  | 30, _ => exact L_1012
  | n + 31, h9 => exact absurd h9 (by omega)
theorem k_Sy_init : y_Sy_init.cls ≠ "java/lang/invoke/MethodHandle" ∧ y_Sy_init.cls ≠ "java/lang/invoke/VarHandle" ∧ (parseMethodDescriptor y_Sy_init.desc).map (fun d => d.parameters.length) = some 0 := by decide +kernel
theorem k_Tk_init : y_Tk_init.cls ≠ "java/lang/invoke/MethodHandle" ∧ y_Tk_init.cls ≠ "java/lang/invoke/VarHandle" ∧ (parseMethodDescriptor y_Tk_init.desc).map (fun d => d.parameters.length) = some 0 := by decide +kernel
theorem k_Tr_init : y_Tr_init.cls ≠ "java/lang/invoke/MethodHandle" ∧ y_Tr_init.cls ≠ "java/lang/invoke/VarHandle" ∧ (parseMethodDescriptor y_Tr_init.desc).map (fun d => d.parameters.length) = some 0 := by decide +kernel
theorem k_Pa_init : y_Pa_init.cls ≠ "java/lang/invoke/MethodHandle" ∧ y_Pa_init.cls ≠ "java/lang/invoke/VarHandle" ∧ (parseMethodDescriptor y_Pa_init.desc).map (fun d => d.parameters.length) = some 2 := by decide +kernel
theorem k_Cu_init : y_Cu_init.cls ≠ "java/lang/invoke/MethodHandle" ∧ y_Cu_init.cls ≠ "java/lang/invoke/VarHandle" ∧ (parseMethodDescriptor y_Cu_init.desc).map (fun d => d.parameters.length) = some 1 := by decide +kernel
theorem k_Co_init : y_Co_init.cls ≠ "java/lang/invoke/MethodHandle" ∧ y_Co_init.cls ≠ "java/lang/invoke/VarHandle" ∧ (parseMethodDescriptor y_Co_init.desc).map (fun d => d.parameters.length) = some 3 := by decide +kernel
theorem k_La_init : y_La_init.cls ≠ "java/lang/invoke/MethodHandle" ∧ y_La_init.cls ≠ "java/lang/invoke/VarHandle" ∧ (parseMethodDescriptor y_La_init.desc).map (fun d => d.parameters.length) = some 0 := by decide +kernel
theorem k_Sy_place : y_Sy_place.cls ≠ "java/lang/invoke/MethodHandle" ∧ y_Sy_place.cls ≠ "java/lang/invoke/VarHandle" ∧ (parseMethodDescriptor y_Sy_place.desc).map (fun d => d.parameters.length) = some 0 := by decide +kernel
theorem k_Lw_token : y_Lw_token.cls ≠ "java/lang/invoke/MethodHandle" ∧ y_Lw_token.cls ≠ "java/lang/invoke/VarHandle" ∧ (parseMethodDescriptor y_Lw_token.desc).map (fun d => d.parameters.length) = some 6 := by decide +kernel
theorem k_Sy_token : y_Sy_token.cls ≠ "java/lang/invoke/MethodHandle" ∧ y_Sy_token.cls ≠ "java/lang/invoke/VarHandle" ∧ (parseMethodDescriptor y_Sy_token.desc).map (fun d => d.parameters.length) = some 4 := by decide +kernel
theorem k_Tk_known : y_Tk_known.cls ≠ "java/lang/invoke/MethodHandle" ∧ y_Tk_known.cls ≠ "java/lang/invoke/VarHandle" ∧ (parseMethodDescriptor y_Tk_known.desc).map (fun d => d.parameters.length) = some 3 := by decide +kernel
theorem k_Tk_knownWord : y_Tk_knownWord.cls ≠ "java/lang/invoke/MethodHandle" ∧ y_Tk_knownWord.cls ≠ "java/lang/invoke/VarHandle" ∧ (parseMethodDescriptor y_Tk_knownWord.desc).map (fun d => d.parameters.length) = some 1 := by decide +kernel
theorem k_Tk_knownName : y_Tk_knownName.cls ≠ "java/lang/invoke/MethodHandle" ∧ y_Tk_knownName.cls ≠ "java/lang/invoke/VarHandle" ∧ (parseMethodDescriptor y_Tk_knownName.desc).map (fun d => d.parameters.length) = some 1 := by decide +kernel
theorem k_Tk_knownSign : y_Tk_knownSign.cls ≠ "java/lang/invoke/MethodHandle" ∧ y_Tk_knownSign.cls ≠ "java/lang/invoke/VarHandle" ∧ (parseMethodDescriptor y_Tk_knownSign.desc).map (fun d => d.parameters.length) = some 1 := by decide +kernel
theorem k_Tk_count : y_Tk_count.cls ≠ "java/lang/invoke/MethodHandle" ∧ y_Tk_count.cls ≠ "java/lang/invoke/VarHandle" ∧ (parseMethodDescriptor y_Tk_count.desc).map (fun d => d.parameters.length) = some 0 := by decide +kernel
theorem k_Tk_add : y_Tk_add.cls ≠ "java/lang/invoke/MethodHandle" ∧ y_Tk_add.cls ≠ "java/lang/invoke/VarHandle" ∧ (parseMethodDescriptor y_Tk_add.desc).map (fun d => d.parameters.length) = some 4 := by decide +kernel
theorem k_Tk_grow : y_Tk_grow.cls ≠ "java/lang/invoke/MethodHandle" ∧ y_Tk_grow.cls ≠ "java/lang/invoke/VarHandle" ∧ (parseMethodDescriptor y_Tk_grow.desc).map (fun d => d.parameters.length) = some 1 := by decide +kernel
theorem k_Lw_read : y_Lw_read.cls ≠ "java/lang/invoke/MethodHandle" ∧ y_Lw_read.cls ≠ "java/lang/invoke/VarHandle" ∧ (parseMethodDescriptor y_Lw_read.desc).map (fun d => d.parameters.length) = some 2 := by decide +kernel
theorem k_Sy_read : y_Sy_read.cls ≠ "java/lang/invoke/MethodHandle" ∧ y_Sy_read.cls ≠ "java/lang/invoke/VarHandle" ∧ (parseMethodDescriptor y_Sy_read.desc).map (fun d => d.parameters.length) = some 0 := by decide +kernel
theorem k_Pa_parse : y_Pa_parse.cls ≠ "java/lang/invoke/MethodHandle" ∧ y_Pa_parse.cls ≠ "java/lang/invoke/VarHandle" ∧ (parseMethodDescriptor y_Pa_parse.desc).map (fun d => d.parameters.length) = some 0 := by decide +kernel
theorem k_La_clear : y_La_clear.cls ≠ "java/lang/invoke/MethodHandle" ∧ y_La_clear.cls ≠ "java/lang/invoke/VarHandle" ∧ (parseMethodDescriptor y_La_clear.desc).map (fun d => d.parameters.length) = some 0 := by decide +kernel
theorem k_Tr_clear : y_Tr_clear.cls ≠ "java/lang/invoke/MethodHandle" ∧ y_Tr_clear.cls ≠ "java/lang/invoke/VarHandle" ∧ (parseMethodDescriptor y_Tr_clear.desc).map (fun d => d.parameters.length) = some 0 := by decide +kernel
theorem k_Pa_program : y_Pa_program.cls ≠ "java/lang/invoke/MethodHandle" ∧ y_Pa_program.cls ≠ "java/lang/invoke/VarHandle" ∧ (parseMethodDescriptor y_Pa_program.desc).map (fun d => d.parameters.length) = some 0 := by decide +kernel
theorem k_Tr_open : y_Tr_open.cls ≠ "java/lang/invoke/MethodHandle" ∧ y_Tr_open.cls ≠ "java/lang/invoke/VarHandle" ∧ (parseMethodDescriptor y_Tr_open.desc).map (fun d => d.parameters.length) = some 3 := by decide +kernel
theorem k_Tr_makeRoom : y_Tr_makeRoom.cls ≠ "java/lang/invoke/MethodHandle" ∧ y_Tr_makeRoom.cls ≠ "java/lang/invoke/VarHandle" ∧ (parseMethodDescriptor y_Tr_makeRoom.desc).map (fun d => d.parameters.length) = some 0 := by decide +kernel
theorem k_Tr_put : y_Tr_put.cls ≠ "java/lang/invoke/MethodHandle" ∧ y_Tr_put.cls ≠ "java/lang/invoke/VarHandle" ∧ (parseMethodDescriptor y_Tr_put.desc).map (fun d => d.parameters.length) = some 5 := by decide +kernel
theorem k_Cu_atEnd : y_Cu_atEnd.cls ≠ "java/lang/invoke/MethodHandle" ∧ y_Cu_atEnd.cls ≠ "java/lang/invoke/VarHandle" ∧ (parseMethodDescriptor y_Cu_atEnd.desc).map (fun d => d.parameters.length) = some 0 := by decide +kernel
theorem k_Tk_kind : y_Tk_kind.cls ≠ "java/lang/invoke/MethodHandle" ∧ y_Tk_kind.cls ≠ "java/lang/invoke/VarHandle" ∧ (parseMethodDescriptor y_Tk_kind.desc).map (fun d => d.parameters.length) = some 1 := by decide +kernel
theorem k_Cu_atWord : y_Cu_atWord.cls ≠ "java/lang/invoke/MethodHandle" ∧ y_Cu_atWord.cls ≠ "java/lang/invoke/VarHandle" ∧ (parseMethodDescriptor y_Cu_atWord.desc).map (fun d => d.parameters.length) = some 1 := by decide +kernel
theorem k_Tk_keyword : y_Tk_keyword.cls ≠ "java/lang/invoke/MethodHandle" ∧ y_Tk_keyword.cls ≠ "java/lang/invoke/VarHandle" ∧ (parseMethodDescriptor y_Tk_keyword.desc).map (fun d => d.parameters.length) = some 1 := by decide +kernel
theorem k_Pa_function : y_Pa_function.cls ≠ "java/lang/invoke/MethodHandle" ∧ y_Pa_function.cls ≠ "java/lang/invoke/VarHandle" ∧ (parseMethodDescriptor y_Pa_function.desc).map (fun d => d.parameters.length) = some 2 := by decide +kernel
theorem k_Cu_guard : y_Cu_guard.cls ≠ "java/lang/invoke/MethodHandle" ∧ y_Cu_guard.cls ≠ "java/lang/invoke/VarHandle" ∧ (parseMethodDescriptor y_Cu_guard.desc).map (fun d => d.parameters.length) = some 1 := by decide +kernel
theorem k_Cu_refuse : y_Cu_refuse.cls ≠ "java/lang/invoke/MethodHandle" ∧ y_Cu_refuse.cls ≠ "java/lang/invoke/VarHandle" ∧ (parseMethodDescriptor y_Cu_refuse.desc).map (fun d => d.parameters.length) = some 1 := by decide +kernel
theorem k_Pa_functionName : y_Pa_functionName.cls ≠ "java/lang/invoke/MethodHandle" ∧ y_Pa_functionName.cls ≠ "java/lang/invoke/VarHandle" ∧ (parseMethodDescriptor y_Pa_functionName.desc).map (fun d => d.parameters.length) = some 1 := by decide +kernel
theorem k_Cu_boundName : y_Cu_boundName.cls ≠ "java/lang/invoke/MethodHandle" ∧ y_Cu_boundName.cls ≠ "java/lang/invoke/VarHandle" ∧ (parseMethodDescriptor y_Cu_boundName.desc).map (fun d => d.parameters.length) = some 0 := by decide +kernel
theorem k_Tk_name : y_Tk_name.cls ≠ "java/lang/invoke/MethodHandle" ∧ y_Tk_name.cls ≠ "java/lang/invoke/VarHandle" ∧ (parseMethodDescriptor y_Tk_name.desc).map (fun d => d.parameters.length) = some 1 := by decide +kernel
theorem k_Tk_evalOrArguments : y_Tk_evalOrArguments.cls ≠ "java/lang/invoke/MethodHandle" ∧ y_Tk_evalOrArguments.cls ≠ "java/lang/invoke/VarHandle" ∧ (parseMethodDescriptor y_Tk_evalOrArguments.desc).map (fun d => d.parameters.length) = some 1 := by decide +kernel
theorem k_Tk_identifier : y_Tk_identifier.cls ≠ "java/lang/invoke/MethodHandle" ∧ y_Tk_identifier.cls ≠ "java/lang/invoke/VarHandle" ∧ (parseMethodDescriptor y_Tk_identifier.desc).map (fun d => d.parameters.length) = some 2 := by decide +kernel
theorem k_Tr_setValue : y_Tr_setValue.cls ≠ "java/lang/invoke/MethodHandle" ∧ y_Tr_setValue.cls ≠ "java/lang/invoke/VarHandle" ∧ (parseMethodDescriptor y_Tr_setValue.desc).map (fun d => d.parameters.length) = some 2 := by decide +kernel
theorem k_Tr_has : y_Tr_has.cls ≠ "java/lang/invoke/MethodHandle" ∧ y_Tr_has.cls ≠ "java/lang/invoke/VarHandle" ∧ (parseMethodDescriptor y_Tr_has.desc).map (fun d => d.parameters.length) = some 1 := by decide +kernel
theorem k_Cu_atSign : y_Cu_atSign.cls ≠ "java/lang/invoke/MethodHandle" ∧ y_Cu_atSign.cls ≠ "java/lang/invoke/VarHandle" ∧ (parseMethodDescriptor y_Cu_atSign.desc).map (fun d => d.parameters.length) = some 1 := by decide +kernel
theorem k_Tk_sign : y_Tk_sign.cls ≠ "java/lang/invoke/MethodHandle" ∧ y_Tk_sign.cls ≠ "java/lang/invoke/VarHandle" ∧ (parseMethodDescriptor y_Tk_sign.desc).map (fun d => d.parameters.length) = some 1 := by decide +kernel
theorem k_Pa_parameters : y_Pa_parameters.cls ≠ "java/lang/invoke/MethodHandle" ∧ y_Pa_parameters.cls ≠ "java/lang/invoke/VarHandle" ∧ (parseMethodDescriptor y_Pa_parameters.desc).map (fun d => d.parameters.length) = some 2 := by decide +kernel
theorem k_Cu_expect : y_Cu_expect.cls ≠ "java/lang/invoke/MethodHandle" ∧ y_Cu_expect.cls ≠ "java/lang/invoke/VarHandle" ∧ (parseMethodDescriptor y_Cu_expect.desc).map (fun d => d.parameters.length) = some 1 := by decide +kernel
theorem k_Pa_parameter : y_Pa_parameter.cls ≠ "java/lang/invoke/MethodHandle" ∧ y_Pa_parameter.cls ≠ "java/lang/invoke/VarHandle" ∧ (parseMethodDescriptor y_Pa_parameter.desc).map (fun d => d.parameters.length) = some 1 := by decide +kernel
theorem k_Tr_count : y_Tr_count.cls ≠ "java/lang/invoke/MethodHandle" ∧ y_Tr_count.cls ≠ "java/lang/invoke/VarHandle" ∧ (parseMethodDescriptor y_Tr_count.desc).map (fun d => d.parameters.length) = some 0 := by decide +kernel
theorem k_Pa_hasParameter : y_Pa_hasParameter.cls ≠ "java/lang/invoke/MethodHandle" ∧ y_Pa_hasParameter.cls ≠ "java/lang/invoke/VarHandle" ∧ (parseMethodDescriptor y_Pa_hasParameter.desc).map (fun d => d.parameters.length) = some 3 := by decide +kernel
theorem k_Tr_kind : y_Tr_kind.cls ≠ "java/lang/invoke/MethodHandle" ∧ y_Tr_kind.cls ≠ "java/lang/invoke/VarHandle" ∧ (parseMethodDescriptor y_Tr_kind.desc).map (fun d => d.parameters.length) = some 1 := by decide +kernel
theorem k_Tr_value : y_Tr_value.cls ≠ "java/lang/invoke/MethodHandle" ∧ y_Tr_value.cls ≠ "java/lang/invoke/VarHandle" ∧ (parseMethodDescriptor y_Tr_value.desc).map (fun d => d.parameters.length) = some 1 := by decide +kernel
theorem k_Cu_nextArgument : y_Cu_nextArgument.cls ≠ "java/lang/invoke/MethodHandle" ∧ y_Cu_nextArgument.cls ≠ "java/lang/invoke/VarHandle" ∧ (parseMethodDescriptor y_Cu_nextArgument.desc).map (fun d => d.parameters.length) = some 1 := by decide +kernel
theorem k_Cu_accept : y_Cu_accept.cls ≠ "java/lang/invoke/MethodHandle" ∧ y_Cu_accept.cls ≠ "java/lang/invoke/VarHandle" ∧ (parseMethodDescriptor y_Cu_accept.desc).map (fun d => d.parameters.length) = some 1 := by decide +kernel
theorem k_La_count : y_La_count.cls ≠ "java/lang/invoke/MethodHandle" ∧ y_La_count.cls ≠ "java/lang/invoke/VarHandle" ∧ (parseMethodDescriptor y_La_count.desc).map (fun d => d.parameters.length) = some 0 := by decide +kernel
theorem k_Pa_statement : y_Pa_statement.cls ≠ "java/lang/invoke/MethodHandle" ∧ y_Pa_statement.cls ≠ "java/lang/invoke/VarHandle" ∧ (parseMethodDescriptor y_Pa_statement.desc).map (fun d => d.parameters.length) = some 2 := by decide +kernel
theorem k_Pa_variables : y_Pa_variables.cls ≠ "java/lang/invoke/MethodHandle" ∧ y_Pa_variables.cls ≠ "java/lang/invoke/VarHandle" ∧ (parseMethodDescriptor y_Pa_variables.desc).map (fun d => d.parameters.length) = some 2 := by decide +kernel
theorem k_Pa_expression : y_Pa_expression.cls ≠ "java/lang/invoke/MethodHandle" ∧ y_Pa_expression.cls ≠ "java/lang/invoke/VarHandle" ∧ (parseMethodDescriptor y_Pa_expression.desc).map (fun d => d.parameters.length) = some 3 := by decide +kernel
theorem k_Pa_prefixOperator : y_Pa_prefixOperator.cls ≠ "java/lang/invoke/MethodHandle" ∧ y_Pa_prefixOperator.cls ≠ "java/lang/invoke/VarHandle" ∧ (parseMethodDescriptor y_Pa_prefixOperator.desc).map (fun d => d.parameters.length) = some 0 := by decide +kernel
theorem k_Pa_prefix : y_Pa_prefix.cls ≠ "java/lang/invoke/MethodHandle" ∧ y_Pa_prefix.cls ≠ "java/lang/invoke/VarHandle" ∧ (parseMethodDescriptor y_Pa_prefix.desc).map (fun d => d.parameters.length) = some 2 := by decide +kernel
theorem k_Tr_close : y_Tr_close.cls ≠ "java/lang/invoke/MethodHandle" ∧ y_Tr_close.cls ≠ "java/lang/invoke/VarHandle" ∧ (parseMethodDescriptor y_Tr_close.desc).map (fun d => d.parameters.length) = some 1 := by decide +kernel
theorem k_Pa_assignable : y_Pa_assignable.cls ≠ "java/lang/invoke/MethodHandle" ∧ y_Pa_assignable.cls ≠ "java/lang/invoke/VarHandle" ∧ (parseMethodDescriptor y_Pa_assignable.desc).map (fun d => d.parameters.length) = some 1 := by decide +kernel
theorem k_Pa_group : y_Pa_group.cls ≠ "java/lang/invoke/MethodHandle" ∧ y_Pa_group.cls ≠ "java/lang/invoke/VarHandle" ∧ (parseMethodDescriptor y_Pa_group.desc).map (fun d => d.parameters.length) = some 1 := by decide +kernel
theorem k_Pa_array : y_Pa_array.cls ≠ "java/lang/invoke/MethodHandle" ∧ y_Pa_array.cls ≠ "java/lang/invoke/VarHandle" ∧ (parseMethodDescriptor y_Pa_array.desc).map (fun d => d.parameters.length) = some 1 := by decide +kernel
theorem k_Pa_object : y_Pa_object.cls ≠ "java/lang/invoke/MethodHandle" ∧ y_Pa_object.cls ≠ "java/lang/invoke/VarHandle" ∧ (parseMethodDescriptor y_Pa_object.desc).map (fun d => d.parameters.length) = some 1 := by decide +kernel
theorem k_Cu_nextProperty : y_Cu_nextProperty.cls ≠ "java/lang/invoke/MethodHandle" ∧ y_Cu_nextProperty.cls ≠ "java/lang/invoke/VarHandle" ∧ (parseMethodDescriptor y_Cu_nextProperty.desc).map (fun d => d.parameters.length) = some 1 := by decide +kernel
theorem k_Pa_openProperty : y_Pa_openProperty.cls ≠ "java/lang/invoke/MethodHandle" ∧ y_Pa_openProperty.cls ≠ "java/lang/invoke/VarHandle" ∧ (parseMethodDescriptor y_Pa_openProperty.desc).map (fun d => d.parameters.length) = some 1 := by decide +kernel
theorem k_Pa_propertyKind : y_Pa_propertyKind.cls ≠ "java/lang/invoke/MethodHandle" ∧ y_Pa_propertyKind.cls ≠ "java/lang/invoke/VarHandle" ∧ (parseMethodDescriptor y_Pa_propertyKind.desc).map (fun d => d.parameters.length) = some 0 := by decide +kernel
theorem k_Tk_propertyName : y_Tk_propertyName.cls ≠ "java/lang/invoke/MethodHandle" ∧ y_Tk_propertyName.cls ≠ "java/lang/invoke/VarHandle" ∧ (parseMethodDescriptor y_Tk_propertyName.desc).map (fun d => d.parameters.length) = some 1 := by decide +kernel
theorem k_Pa_clashes : y_Pa_clashes.cls ≠ "java/lang/invoke/MethodHandle" ∧ y_Pa_clashes.cls ≠ "java/lang/invoke/VarHandle" ∧ (parseMethodDescriptor y_Pa_clashes.desc).map (fun d => d.parameters.length) = some 3 := by decide +kernel
theorem k_Pa_kindsClash : y_Pa_kindsClash.cls ≠ "java/lang/invoke/MethodHandle" ∧ y_Pa_kindsClash.cls ≠ "java/lang/invoke/VarHandle" ∧ (parseMethodDescriptor y_Pa_kindsClash.desc).map (fun d => d.parameters.length) = some 2 := by decide +kernel
theorem k_Tr_behind : y_Tr_behind.cls ≠ "java/lang/invoke/MethodHandle" ∧ y_Tr_behind.cls ≠ "java/lang/invoke/VarHandle" ∧ (parseMethodDescriptor y_Tr_behind.desc).map (fun d => d.parameters.length) = some 1 := by decide +kernel
theorem k_Pa_construction : y_Pa_construction.cls ≠ "java/lang/invoke/MethodHandle" ∧ y_Pa_construction.cls ≠ "java/lang/invoke/VarHandle" ∧ (parseMethodDescriptor y_Pa_construction.desc).map (fun d => d.parameters.length) = some 1 := by decide +kernel
theorem k_Pa_leaf : y_Pa_leaf.cls ≠ "java/lang/invoke/MethodHandle" ∧ y_Pa_leaf.cls ≠ "java/lang/invoke/VarHandle" ∧ (parseMethodDescriptor y_Pa_leaf.desc).map (fun d => d.parameters.length) = some 0 := by decide +kernel
theorem k_Pa_leafKind : y_Pa_leafKind.cls ≠ "java/lang/invoke/MethodHandle" ∧ y_Pa_leafKind.cls ≠ "java/lang/invoke/VarHandle" ∧ (parseMethodDescriptor y_Pa_leafKind.desc).map (fun d => d.parameters.length) = some 0 := by decide +kernel
theorem k_Cu_atIdentifier : y_Cu_atIdentifier.cls ≠ "java/lang/invoke/MethodHandle" ∧ y_Cu_atIdentifier.cls ≠ "java/lang/invoke/VarHandle" ∧ (parseMethodDescriptor y_Cu_atIdentifier.desc).map (fun d => d.parameters.length) = some 0 := by decide +kernel
theorem k_Pa_wordKind : y_Pa_wordKind.cls ≠ "java/lang/invoke/MethodHandle" ∧ y_Pa_wordKind.cls ≠ "java/lang/invoke/VarHandle" ∧ (parseMethodDescriptor y_Pa_wordKind.desc).map (fun d => d.parameters.length) = some 0 := by decide +kernel
theorem k_Pa_tails : y_Pa_tails.cls ≠ "java/lang/invoke/MethodHandle" ∧ y_Pa_tails.cls ≠ "java/lang/invoke/VarHandle" ∧ (parseMethodDescriptor y_Pa_tails.desc).map (fun d => d.parameters.length) = some 3 := by decide +kernel
theorem k_Pa_member : y_Pa_member.cls ≠ "java/lang/invoke/MethodHandle" ∧ y_Pa_member.cls ≠ "java/lang/invoke/VarHandle" ∧ (parseMethodDescriptor y_Pa_member.desc).map (fun d => d.parameters.length) = some 2 := by decide +kernel
theorem k_Tr_wrap : y_Tr_wrap.cls ≠ "java/lang/invoke/MethodHandle" ∧ y_Tr_wrap.cls ≠ "java/lang/invoke/VarHandle" ∧ (parseMethodDescriptor y_Tr_wrap.desc).map (fun d => d.parameters.length) = some 4 := by decide +kernel
theorem k_Pa_postfix : y_Pa_postfix.cls ≠ "java/lang/invoke/MethodHandle" ∧ y_Pa_postfix.cls ≠ "java/lang/invoke/VarHandle" ∧ (parseMethodDescriptor y_Pa_postfix.desc).map (fun d => d.parameters.length) = some 1 := by decide +kernel
theorem k_Tk_line : y_Tk_line.cls ≠ "java/lang/invoke/MethodHandle" ∧ y_Tk_line.cls ≠ "java/lang/invoke/VarHandle" ∧ (parseMethodDescriptor y_Tk_line.desc).map (fun d => d.parameters.length) = some 1 := by decide +kernel
theorem k_Pa_binaries : y_Pa_binaries.cls ≠ "java/lang/invoke/MethodHandle" ∧ y_Pa_binaries.cls ≠ "java/lang/invoke/VarHandle" ∧ (parseMethodDescriptor y_Pa_binaries.desc).map (fun d => d.parameters.length) = some 4 := by decide +kernel
theorem k_Cu_binaryOperator : y_Cu_binaryOperator.cls ≠ "java/lang/invoke/MethodHandle" ∧ y_Cu_binaryOperator.cls ≠ "java/lang/invoke/VarHandle" ∧ (parseMethodDescriptor y_Cu_binaryOperator.desc).map (fun d => d.parameters.length) = some 1 := by decide +kernel
theorem k_Pa_rank : y_Pa_rank.cls ≠ "java/lang/invoke/MethodHandle" ∧ y_Pa_rank.cls ≠ "java/lang/invoke/VarHandle" ∧ (parseMethodDescriptor y_Pa_rank.desc).map (fun d => d.parameters.length) = some 1 := by decide +kernel
theorem k_Pa_conditional : y_Pa_conditional.cls ≠ "java/lang/invoke/MethodHandle" ∧ y_Pa_conditional.cls ≠ "java/lang/invoke/VarHandle" ∧ (parseMethodDescriptor y_Pa_conditional.desc).map (fun d => d.parameters.length) = some 3 := by decide +kernel
theorem k_Pa_assignment : y_Pa_assignment.cls ≠ "java/lang/invoke/MethodHandle" ∧ y_Pa_assignment.cls ≠ "java/lang/invoke/VarHandle" ∧ (parseMethodDescriptor y_Pa_assignment.desc).map (fun d => d.parameters.length) = some 3 := by decide +kernel
theorem k_Pa_commas : y_Pa_commas.cls ≠ "java/lang/invoke/MethodHandle" ∧ y_Pa_commas.cls ≠ "java/lang/invoke/VarHandle" ∧ (parseMethodDescriptor y_Pa_commas.desc).map (fun d => d.parameters.length) = some 3 := by decide +kernel
theorem k_Cu_semicolon : y_Cu_semicolon.cls ≠ "java/lang/invoke/MethodHandle" ∧ y_Cu_semicolon.cls ≠ "java/lang/invoke/VarHandle" ∧ (parseMethodDescriptor y_Cu_semicolon.desc).map (fun d => d.parameters.length) = some 0 := by decide +kernel
theorem k_Cu_statementEnds : y_Cu_statementEnds.cls ≠ "java/lang/invoke/MethodHandle" ∧ y_Cu_statementEnds.cls ≠ "java/lang/invoke/VarHandle" ∧ (parseMethodDescriptor y_Cu_statementEnds.desc).map (fun d => d.parameters.length) = some 0 := by decide +kernel
theorem k_Pa_ifStatement : y_Pa_ifStatement.cls ≠ "java/lang/invoke/MethodHandle" ∧ y_Pa_ifStatement.cls ≠ "java/lang/invoke/VarHandle" ∧ (parseMethodDescriptor y_Pa_ifStatement.desc).map (fun d => d.parameters.length) = some 1 := by decide +kernel
theorem k_Pa_doStatement : y_Pa_doStatement.cls ≠ "java/lang/invoke/MethodHandle" ∧ y_Pa_doStatement.cls ≠ "java/lang/invoke/VarHandle" ∧ (parseMethodDescriptor y_Pa_doStatement.desc).map (fun d => d.parameters.length) = some 2 := by decide +kernel
theorem k_La_markAsLoops : y_La_markAsLoops.cls ≠ "java/lang/invoke/MethodHandle" ∧ y_La_markAsLoops.cls ≠ "java/lang/invoke/VarHandle" ∧ (parseMethodDescriptor y_La_markAsLoops.desc).map (fun d => d.parameters.length) = some 1 := by decide +kernel
theorem k_Cu_expectWord : y_Cu_expectWord.cls ≠ "java/lang/invoke/MethodHandle" ∧ y_Cu_expectWord.cls ≠ "java/lang/invoke/VarHandle" ∧ (parseMethodDescriptor y_Cu_expectWord.desc).map (fun d => d.parameters.length) = some 1 := by decide +kernel
theorem k_Pa_whileStatement : y_Pa_whileStatement.cls ≠ "java/lang/invoke/MethodHandle" ∧ y_Pa_whileStatement.cls ≠ "java/lang/invoke/VarHandle" ∧ (parseMethodDescriptor y_Pa_whileStatement.desc).map (fun d => d.parameters.length) = some 2 := by decide +kernel
theorem k_Pa_openFor : y_Pa_openFor.cls ≠ "java/lang/invoke/MethodHandle" ∧ y_Pa_openFor.cls ≠ "java/lang/invoke/VarHandle" ∧ (parseMethodDescriptor y_Pa_openFor.desc).map (fun d => d.parameters.length) = some 1 := by decide +kernel
theorem k_Pa_forInitial : y_Pa_forInitial.cls ≠ "java/lang/invoke/MethodHandle" ∧ y_Pa_forInitial.cls ≠ "java/lang/invoke/VarHandle" ∧ (parseMethodDescriptor y_Pa_forInitial.desc).map (fun d => d.parameters.length) = some 1 := by decide +kernel
theorem k_Pa_forRest : y_Pa_forRest.cls ≠ "java/lang/invoke/MethodHandle" ∧ y_Pa_forRest.cls ≠ "java/lang/invoke/VarHandle" ∧ (parseMethodDescriptor y_Pa_forRest.desc).map (fun d => d.parameters.length) = some 2 := by decide +kernel
theorem k_Pa_mayTakeKeys : y_Pa_mayTakeKeys.cls ≠ "java/lang/invoke/MethodHandle" ∧ y_Pa_mayTakeKeys.cls ≠ "java/lang/invoke/VarHandle" ∧ (parseMethodDescriptor y_Pa_mayTakeKeys.desc).map (fun d => d.parameters.length) = some 1 := by decide +kernel
theorem k_Tr_children : y_Tr_children.cls ≠ "java/lang/invoke/MethodHandle" ∧ y_Tr_children.cls ≠ "java/lang/invoke/VarHandle" ∧ (parseMethodDescriptor y_Tr_children.desc).map (fun d => d.parameters.length) = some 1 := by decide +kernel
theorem k_Tr_setKind : y_Tr_setKind.cls ≠ "java/lang/invoke/MethodHandle" ∧ y_Tr_setKind.cls ≠ "java/lang/invoke/VarHandle" ∧ (parseMethodDescriptor y_Tr_setKind.desc).map (fun d => d.parameters.length) = some 2 := by decide +kernel
theorem k_Pa_jump : y_Pa_jump.cls ≠ "java/lang/invoke/MethodHandle" ∧ y_Pa_jump.cls ≠ "java/lang/invoke/VarHandle" ∧ (parseMethodDescriptor y_Pa_jump.desc).map (fun d => d.parameters.length) = some 1 := by decide +kernel
theorem k_La_find : y_La_find.cls ≠ "java/lang/invoke/MethodHandle" ∧ y_La_find.cls ≠ "java/lang/invoke/VarHandle" ∧ (parseMethodDescriptor y_La_find.desc).map (fun d => d.parameters.length) = some 2 := by decide +kernel
theorem k_La_ofLoop : y_La_ofLoop.cls ≠ "java/lang/invoke/MethodHandle" ∧ y_La_ofLoop.cls ≠ "java/lang/invoke/VarHandle" ∧ (parseMethodDescriptor y_La_ofLoop.desc).map (fun d => d.parameters.length) = some 1 := by decide +kernel
theorem k_Pa_returnStatement : y_Pa_returnStatement.cls ≠ "java/lang/invoke/MethodHandle" ∧ y_Pa_returnStatement.cls ≠ "java/lang/invoke/VarHandle" ∧ (parseMethodDescriptor y_Pa_returnStatement.desc).map (fun d => d.parameters.length) = some 1 := by decide +kernel
theorem k_Pa_withStatement : y_Pa_withStatement.cls ≠ "java/lang/invoke/MethodHandle" ∧ y_Pa_withStatement.cls ≠ "java/lang/invoke/VarHandle" ∧ (parseMethodDescriptor y_Pa_withStatement.desc).map (fun d => d.parameters.length) = some 1 := by decide +kernel
theorem k_Pa_switchStatement : y_Pa_switchStatement.cls ≠ "java/lang/invoke/MethodHandle" ∧ y_Pa_switchStatement.cls ≠ "java/lang/invoke/VarHandle" ∧ (parseMethodDescriptor y_Pa_switchStatement.desc).map (fun d => d.parameters.length) = some 1 := by decide +kernel
theorem k_Pa_openClause : y_Pa_openClause.cls ≠ "java/lang/invoke/MethodHandle" ∧ y_Pa_openClause.cls ≠ "java/lang/invoke/VarHandle" ∧ (parseMethodDescriptor y_Pa_openClause.desc).map (fun d => d.parameters.length) = some 2 := by decide +kernel
theorem k_Pa_atClauseEnd : y_Pa_atClauseEnd.cls ≠ "java/lang/invoke/MethodHandle" ∧ y_Pa_atClauseEnd.cls ≠ "java/lang/invoke/VarHandle" ∧ (parseMethodDescriptor y_Pa_atClauseEnd.desc).map (fun d => d.parameters.length) = some 0 := by decide +kernel
theorem k_Pa_throwStatement : y_Pa_throwStatement.cls ≠ "java/lang/invoke/MethodHandle" ∧ y_Pa_throwStatement.cls ≠ "java/lang/invoke/VarHandle" ∧ (parseMethodDescriptor y_Pa_throwStatement.desc).map (fun d => d.parameters.length) = some 1 := by decide +kernel
theorem k_Pa_tryStatement : y_Pa_tryStatement.cls ≠ "java/lang/invoke/MethodHandle" ∧ y_Pa_tryStatement.cls ≠ "java/lang/invoke/VarHandle" ∧ (parseMethodDescriptor y_Pa_tryStatement.desc).map (fun d => d.parameters.length) = some 1 := by decide +kernel
theorem k_Pa_block : y_Pa_block.cls ≠ "java/lang/invoke/MethodHandle" ∧ y_Pa_block.cls ≠ "java/lang/invoke/VarHandle" ∧ (parseMethodDescriptor y_Pa_block.desc).map (fun d => d.parameters.length) = some 1 := by decide +kernel
theorem k_Pa_debuggerStatement : y_Pa_debuggerStatement.cls ≠ "java/lang/invoke/MethodHandle" ∧ y_Pa_debuggerStatement.cls ≠ "java/lang/invoke/VarHandle" ∧ (parseMethodDescriptor y_Pa_debuggerStatement.desc).map (fun d => d.parameters.length) = some 0 := by decide +kernel
theorem k_Pa_emptyStatement : y_Pa_emptyStatement.cls ≠ "java/lang/invoke/MethodHandle" ∧ y_Pa_emptyStatement.cls ≠ "java/lang/invoke/VarHandle" ∧ (parseMethodDescriptor y_Pa_emptyStatement.desc).map (fun d => d.parameters.length) = some 0 := by decide +kernel
theorem k_Pa_labelled : y_Pa_labelled.cls ≠ "java/lang/invoke/MethodHandle" ∧ y_Pa_labelled.cls ≠ "java/lang/invoke/VarHandle" ∧ (parseMethodDescriptor y_Pa_labelled.desc).map (fun d => d.parameters.length) = some 2 := by decide +kernel
theorem k_La_push : y_La_push.cls ≠ "java/lang/invoke/MethodHandle" ∧ y_La_push.cls ≠ "java/lang/invoke/VarHandle" ∧ (parseMethodDescriptor y_La_push.desc).map (fun d => d.parameters.length) = some 1 := by decide +kernel
theorem k_La_pop : y_La_pop.cls ≠ "java/lang/invoke/MethodHandle" ∧ y_La_pop.cls ≠ "java/lang/invoke/VarHandle" ∧ (parseMethodDescriptor y_La_pop.desc).map (fun d => d.parameters.length) = some 0 := by decide +kernel
theorem k_Pa_expressionStatement : y_Pa_expressionStatement.cls ≠ "java/lang/invoke/MethodHandle" ∧ y_Pa_expressionStatement.cls ≠ "java/lang/invoke/VarHandle" ∧ (parseMethodDescriptor y_Pa_expressionStatement.desc).map (fun d => d.parameters.length) = some 1 := by decide +kernel
theorem k_Cu_wasTextAlone : y_Cu_wasTextAlone.cls ≠ "java/lang/invoke/MethodHandle" ∧ y_Cu_wasTextAlone.cls ≠ "java/lang/invoke/VarHandle" ∧ (parseMethodDescriptor y_Cu_wasTextAlone.desc).map (fun d => d.parameters.length) = some 1 := by decide +kernel
theorem k_Tk_asksForStrict : y_Tk_asksForStrict.cls ≠ "java/lang/invoke/MethodHandle" ∧ y_Tk_asksForStrict.cls ≠ "java/lang/invoke/VarHandle" ∧ (parseMethodDescriptor y_Tk_asksForStrict.desc).map (fun d => d.parameters.length) = some 1 := by decide +kernel
theorem k_Pa_makeStrict : y_Pa_makeStrict.cls ≠ "java/lang/invoke/MethodHandle" ∧ y_Pa_makeStrict.cls ≠ "java/lang/invoke/VarHandle" ∧ (parseMethodDescriptor y_Pa_makeStrict.desc).map (fun d => d.parameters.length) = some 2 := by decide +kernel
theorem k_Tr_where : y_Tr_where.cls ≠ "java/lang/invoke/MethodHandle" ∧ y_Tr_where.cls ≠ "java/lang/invoke/VarHandle" ∧ (parseMethodDescriptor y_Tr_where.desc).map (fun d => d.parameters.length) = some 1 := by decide +kernel
theorem k_Pa_mayBeBound : y_Pa_mayBeBound.cls ≠ "java/lang/invoke/MethodHandle" ∧ y_Pa_mayBeBound.cls ≠ "java/lang/invoke/VarHandle" ∧ (parseMethodDescriptor y_Pa_mayBeBound.desc).map (fun d => d.parameters.length) = some 1 := by decide +kernel
theorem k_Tk_clear : y_Tk_clear.cls ≠ "java/lang/invoke/MethodHandle" ∧ y_Tk_clear.cls ≠ "java/lang/invoke/VarHandle" ∧ (parseMethodDescriptor y_Tk_clear.desc).map (fun d => d.parameters.length) = some 0 := by decide +kernel
theorem k_Lw_node : y_Lw_node.cls ≠ "java/lang/invoke/MethodHandle" ∧ y_Lw_node.cls ≠ "java/lang/invoke/VarHandle" ∧ (parseMethodDescriptor y_Lw_node.desc).map (fun d => d.parameters.length) = some 4 := by decide +kernel
theorem k_Sy_node : y_Sy_node.cls ≠ "java/lang/invoke/MethodHandle" ∧ y_Sy_node.cls ≠ "java/lang/invoke/VarHandle" ∧ (parseMethodDescriptor y_Sy_node.desc).map (fun d => d.parameters.length) = some 2 := by decide +kernel
theorem k_Lw_child : y_Lw_child.cls ≠ "java/lang/invoke/MethodHandle" ∧ y_Lw_child.cls ≠ "java/lang/invoke/VarHandle" ∧ (parseMethodDescriptor y_Lw_child.desc).map (fun d => d.parameters.length) = some 4 := by decide +kernel
theorem k_Sy_child : y_Sy_child.cls ≠ "java/lang/invoke/MethodHandle" ∧ y_Sy_child.cls ≠ "java/lang/invoke/VarHandle" ∧ (parseMethodDescriptor y_Sy_child.desc).map (fun d => d.parameters.length) = some 2 := by decide +kernel
theorem k_Tr_part : y_Tr_part.cls ≠ "java/lang/invoke/MethodHandle" ∧ y_Tr_part.cls ≠ "java/lang/invoke/VarHandle" ∧ (parseMethodDescriptor y_Tr_part.desc).map (fun d => d.parameters.length) = some 2 := by decide +kernel
theorem k_Mo_init : y_Mo_init.cls ≠ "java/lang/invoke/MethodHandle" ∧ y_Mo_init.cls ≠ "java/lang/invoke/VarHandle" ∧ (parseMethodDescriptor y_Mo_init.desc).map (fun d => d.parameters.length) = some 0 := by decide +kernel
theorem k_Mo_thrown : y_Mo_thrown.cls ≠ "java/lang/invoke/MethodHandle" ∧ y_Mo_thrown.cls ≠ "java/lang/invoke/VarHandle" ∧ (parseMethodDescriptor y_Mo_thrown.desc).map (fun d => d.parameters.length) = some 0 := by decide +kernel
theorem k_Mo_token : y_Mo_token.cls ≠ "java/lang/invoke/MethodHandle" ∧ y_Mo_token.cls ≠ "java/lang/invoke/VarHandle" ∧ (parseMethodDescriptor y_Mo_token.desc).map (fun d => d.parameters.length) = some 4 := by decide +kernel
theorem k_Mo_isIn : y_Mo_isIn.cls ≠ "java/lang/invoke/MethodHandle" ∧ y_Mo_isIn.cls ≠ "java/lang/invoke/VarHandle" ∧ (parseMethodDescriptor y_Mo_isIn.desc).map (fun d => d.parameters.length) = some 3 := by decide +kernel
theorem k_Mo_isSignNumber : y_Mo_isSignNumber.cls ≠ "java/lang/invoke/MethodHandle" ∧ y_Mo_isSignNumber.cls ≠ "java/lang/invoke/VarHandle" ∧ (parseMethodDescriptor y_Mo_isSignNumber.desc).map (fun d => d.parameters.length) = some 1 := by decide +kernel
theorem k_Mo_throwing : y_Mo_throwing.cls ≠ "java/lang/invoke/MethodHandle" ∧ y_Mo_throwing.cls ≠ "java/lang/invoke/VarHandle" ∧ (parseMethodDescriptor y_Mo_throwing.desc).map (fun d => d.parameters.length) = some 2 := by decide +kernel
theorem k_Mo_read : y_Mo_read.cls ≠ "java/lang/invoke/MethodHandle" ∧ y_Mo_read.cls ≠ "java/lang/invoke/VarHandle" ∧ (parseMethodDescriptor y_Mo_read.desc).map (fun d => d.parameters.length) = some 0 := by decide +kernel
theorem k_Mo_isProgram : y_Mo_isProgram.cls ≠ "java/lang/invoke/MethodHandle" ∧ y_Mo_isProgram.cls ≠ "java/lang/invoke/VarHandle" ∧ (parseMethodDescriptor y_Mo_isProgram.desc).map (fun d => d.parameters.length) = some 0 := by decide +kernel
theorem k_Mo_begin : y_Mo_begin.cls ≠ "java/lang/invoke/MethodHandle" ∧ y_Mo_begin.cls ≠ "java/lang/invoke/VarHandle" ∧ (parseMethodDescriptor y_Mo_begin.desc).map (fun d => d.parameters.length) = some 0 := by decide +kernel
theorem k_Mo_make : y_Mo_make.cls ≠ "java/lang/invoke/MethodHandle" ∧ y_Mo_make.cls ≠ "java/lang/invoke/VarHandle" ∧ (parseMethodDescriptor y_Mo_make.desc).map (fun d => d.parameters.length) = some 3 := by decide +kernel
theorem k_Mo_statements : y_Mo_statements.cls ≠ "java/lang/invoke/MethodHandle" ∧ y_Mo_statements.cls ≠ "java/lang/invoke/VarHandle" ∧ (parseMethodDescriptor y_Mo_statements.desc).map (fun d => d.parameters.length) = some 4 := by decide +kernel
theorem k_Mo_isSign : y_Mo_isSign.cls ≠ "java/lang/invoke/MethodHandle" ∧ y_Mo_isSign.cls ≠ "java/lang/invoke/VarHandle" ∧ (parseMethodDescriptor y_Mo_isSign.desc).map (fun d => d.parameters.length) = some 1 := by decide +kernel
theorem k_Mo_isKind : y_Mo_isKind.cls ≠ "java/lang/invoke/MethodHandle" ∧ y_Mo_isKind.cls ≠ "java/lang/invoke/VarHandle" ∧ (parseMethodDescriptor y_Mo_isKind.desc).map (fun d => d.parameters.length) = some 1 := by decide +kernel
theorem k_Mo_isWord : y_Mo_isWord.cls ≠ "java/lang/invoke/MethodHandle" ∧ y_Mo_isWord.cls ≠ "java/lang/invoke/VarHandle" ∧ (parseMethodDescriptor y_Mo_isWord.desc).map (fun d => d.parameters.length) = some 1 := by decide +kernel
theorem k_Mo_declaration : y_Mo_declaration.cls ≠ "java/lang/invoke/MethodHandle" ∧ y_Mo_declaration.cls ≠ "java/lang/invoke/VarHandle" ∧ (parseMethodDescriptor y_Mo_declaration.desc).map (fun d => d.parameters.length) = some 2 := by decide +kernel
theorem k_Mo_deep : y_Mo_deep.cls ≠ "java/lang/invoke/MethodHandle" ∧ y_Mo_deep.cls ≠ "java/lang/invoke/VarHandle" ∧ (parseMethodDescriptor y_Mo_deep.desc).map (fun d => d.parameters.length) = some 1 := by decide +kernel
theorem k_Mo_refuse : y_Mo_refuse.cls ≠ "java/lang/invoke/MethodHandle" ∧ y_Mo_refuse.cls ≠ "java/lang/invoke/VarHandle" ∧ (parseMethodDescriptor y_Mo_refuse.desc).map (fun d => d.parameters.length) = some 1 := by decide +kernel
theorem k_Mo_function : y_Mo_function.cls ≠ "java/lang/invoke/MethodHandle" ∧ y_Mo_function.cls ≠ "java/lang/invoke/VarHandle" ∧ (parseMethodDescriptor y_Mo_function.desc).map (fun d => d.parameters.length) = some 3 := by decide +kernel
theorem k_Mo_declared : y_Mo_declared.cls ≠ "java/lang/invoke/MethodHandle" ∧ y_Mo_declared.cls ≠ "java/lang/invoke/VarHandle" ∧ (parseMethodDescriptor y_Mo_declared.desc).map (fun d => d.parameters.length) = some 0 := by decide +kernel
theorem k_Mo_isReserved : y_Mo_isReserved.cls ≠ "java/lang/invoke/MethodHandle" ∧ y_Mo_isReserved.cls ≠ "java/lang/invoke/VarHandle" ∧ (parseMethodDescriptor y_Mo_isReserved.desc).map (fun d => d.parameters.length) = some 1 := by decide +kernel
theorem k_Mo_identifier : y_Mo_identifier.cls ≠ "java/lang/invoke/MethodHandle" ∧ y_Mo_identifier.cls ≠ "java/lang/invoke/VarHandle" ∧ (parseMethodDescriptor y_Mo_identifier.desc).map (fun d => d.parameters.length) = some 0 := by decide +kernel
theorem k_Mo_expect : y_Mo_expect.cls ≠ "java/lang/invoke/MethodHandle" ∧ y_Mo_expect.cls ≠ "java/lang/invoke/VarHandle" ∧ (parseMethodDescriptor y_Mo_expect.desc).map (fun d => d.parameters.length) = some 1 := by decide +kernel
theorem k_Mo_hang : y_Mo_hang.cls ≠ "java/lang/invoke/MethodHandle" ∧ y_Mo_hang.cls ≠ "java/lang/invoke/VarHandle" ∧ (parseMethodDescriptor y_Mo_hang.desc).map (fun d => d.parameters.length) = some 2 := by decide +kernel
theorem k_Mo_parameters : y_Mo_parameters.cls ≠ "java/lang/invoke/MethodHandle" ∧ y_Mo_parameters.cls ≠ "java/lang/invoke/VarHandle" ∧ (parseMethodDescriptor y_Mo_parameters.desc).map (fun d => d.parameters.length) = some 2 := by decide +kernel
theorem k_Mo_statement : y_Mo_statement.cls ≠ "java/lang/invoke/MethodHandle" ∧ y_Mo_statement.cls ≠ "java/lang/invoke/VarHandle" ∧ (parseMethodDescriptor y_Mo_statement.desc).map (fun d => d.parameters.length) = some 3 := by decide +kernel
theorem k_Mo_block : y_Mo_block.cls ≠ "java/lang/invoke/MethodHandle" ∧ y_Mo_block.cls ≠ "java/lang/invoke/VarHandle" ∧ (parseMethodDescriptor y_Mo_block.desc).map (fun d => d.parameters.length) = some 2 := by decide +kernel
theorem k_Mo_plain : y_Mo_plain.cls ≠ "java/lang/invoke/MethodHandle" ∧ y_Mo_plain.cls ≠ "java/lang/invoke/VarHandle" ∧ (parseMethodDescriptor y_Mo_plain.desc).map (fun d => d.parameters.length) = some 1 := by decide +kernel
theorem k_Mo_plainStatement : y_Mo_plainStatement.cls ≠ "java/lang/invoke/MethodHandle" ∧ y_Mo_plainStatement.cls ≠ "java/lang/invoke/VarHandle" ∧ (parseMethodDescriptor y_Mo_plainStatement.desc).map (fun d => d.parameters.length) = some 3 := by decide +kernel
theorem k_Mo_expression : y_Mo_expression.cls ≠ "java/lang/invoke/MethodHandle" ∧ y_Mo_expression.cls ≠ "java/lang/invoke/VarHandle" ∧ (parseMethodDescriptor y_Mo_expression.desc).map (fun d => d.parameters.length) = some 3 := by decide +kernel
theorem k_Mo_assignment : y_Mo_assignment.cls ≠ "java/lang/invoke/MethodHandle" ∧ y_Mo_assignment.cls ≠ "java/lang/invoke/VarHandle" ∧ (parseMethodDescriptor y_Mo_assignment.desc).map (fun d => d.parameters.length) = some 3 := by decide +kernel
theorem k_Mo_binary : y_Mo_binary.cls ≠ "java/lang/invoke/MethodHandle" ∧ y_Mo_binary.cls ≠ "java/lang/invoke/VarHandle" ∧ (parseMethodDescriptor y_Mo_binary.desc).map (fun d => d.parameters.length) = some 4 := by decide +kernel
theorem k_Mo_unary : y_Mo_unary.cls ≠ "java/lang/invoke/MethodHandle" ∧ y_Mo_unary.cls ≠ "java/lang/invoke/VarHandle" ∧ (parseMethodDescriptor y_Mo_unary.desc).map (fun d => d.parameters.length) = some 2 := by decide +kernel
theorem k_Mo_prefix : y_Mo_prefix.cls ≠ "java/lang/invoke/MethodHandle" ∧ y_Mo_prefix.cls ≠ "java/lang/invoke/VarHandle" ∧ (parseMethodDescriptor y_Mo_prefix.desc).map (fun d => d.parameters.length) = some 0 := by decide +kernel
theorem k_Mo_postfix : y_Mo_postfix.cls ≠ "java/lang/invoke/MethodHandle" ∧ y_Mo_postfix.cls ≠ "java/lang/invoke/VarHandle" ∧ (parseMethodDescriptor y_Mo_postfix.desc).map (fun d => d.parameters.length) = some 2 := by decide +kernel
theorem k_Mo_member : y_Mo_member.cls ≠ "java/lang/invoke/MethodHandle" ∧ y_Mo_member.cls ≠ "java/lang/invoke/VarHandle" ∧ (parseMethodDescriptor y_Mo_member.desc).map (fun d => d.parameters.length) = some 3 := by decide +kernel
theorem k_Mo_newOne : y_Mo_newOne.cls ≠ "java/lang/invoke/MethodHandle" ∧ y_Mo_newOne.cls ≠ "java/lang/invoke/VarHandle" ∧ (parseMethodDescriptor y_Mo_newOne.desc).map (fun d => d.parameters.length) = some 2 := by decide +kernel
theorem k_Mo_arguments : y_Mo_arguments.cls ≠ "java/lang/invoke/MethodHandle" ∧ y_Mo_arguments.cls ≠ "java/lang/invoke/VarHandle" ∧ (parseMethodDescriptor y_Mo_arguments.desc).map (fun d => d.parameters.length) = some 3 := by decide +kernel
theorem k_Mo_primary : y_Mo_primary.cls ≠ "java/lang/invoke/MethodHandle" ∧ y_Mo_primary.cls ≠ "java/lang/invoke/VarHandle" ∧ (parseMethodDescriptor y_Mo_primary.desc).map (fun d => d.parameters.length) = some 2 := by decide +kernel
theorem k_Mo_literal : y_Mo_literal.cls ≠ "java/lang/invoke/MethodHandle" ∧ y_Mo_literal.cls ≠ "java/lang/invoke/VarHandle" ∧ (parseMethodDescriptor y_Mo_literal.desc).map (fun d => d.parameters.length) = some 1 := by decide +kernel
theorem k_Mo_array : y_Mo_array.cls ≠ "java/lang/invoke/MethodHandle" ∧ y_Mo_array.cls ≠ "java/lang/invoke/VarHandle" ∧ (parseMethodDescriptor y_Mo_array.desc).map (fun d => d.parameters.length) = some 2 := by decide +kernel
theorem k_Mo_none : y_Mo_none.cls ≠ "java/lang/invoke/MethodHandle" ∧ y_Mo_none.cls ≠ "java/lang/invoke/VarHandle" ∧ (parseMethodDescriptor y_Mo_none.desc).map (fun d => d.parameters.length) = some 1 := by decide +kernel
theorem k_Mo_object : y_Mo_object.cls ≠ "java/lang/invoke/MethodHandle" ∧ y_Mo_object.cls ≠ "java/lang/invoke/VarHandle" ∧ (parseMethodDescriptor y_Mo_object.desc).map (fun d => d.parameters.length) = some 2 := by decide +kernel
theorem k_Mo_property : y_Mo_property.cls ≠ "java/lang/invoke/MethodHandle" ∧ y_Mo_property.cls ≠ "java/lang/invoke/VarHandle" ∧ (parseMethodDescriptor y_Mo_property.desc).map (fun d => d.parameters.length) = some 4 := by decide +kernel
theorem k_Mo_propertyName : y_Mo_propertyName.cls ≠ "java/lang/invoke/MethodHandle" ∧ y_Mo_propertyName.cls ≠ "java/lang/invoke/VarHandle" ∧ (parseMethodDescriptor y_Mo_propertyName.desc).map (fun d => d.parameters.length) = some 0 := by decide +kernel
theorem k_Mo_tell : y_Mo_tell.cls ≠ "java/lang/invoke/MethodHandle" ∧ y_Mo_tell.cls ≠ "java/lang/invoke/VarHandle" ∧ (parseMethodDescriptor y_Mo_tell.desc).map (fun d => d.parameters.length) = some 4 := by decide +kernel
theorem k_Mo_changed : y_Mo_changed.cls ≠ "java/lang/invoke/MethodHandle" ∧ y_Mo_changed.cls ≠ "java/lang/invoke/VarHandle" ∧ (parseMethodDescriptor y_Mo_changed.desc).map (fun d => d.parameters.length) = some 2 := by decide +kernel
theorem k_Mo_isPlace : y_Mo_isPlace.cls ≠ "java/lang/invoke/MethodHandle" ∧ y_Mo_isPlace.cls ≠ "java/lang/invoke/VarHandle" ∧ (parseMethodDescriptor y_Mo_isPlace.desc).map (fun d => d.parameters.length) = some 1 := by decide +kernel
theorem k_Mo_operator : y_Mo_operator.cls ≠ "java/lang/invoke/MethodHandle" ∧ y_Mo_operator.cls ≠ "java/lang/invoke/VarHandle" ∧ (parseMethodDescriptor y_Mo_operator.desc).map (fun d => d.parameters.length) = some 1 := by decide +kernel
theorem k_Mo_strength : y_Mo_strength.cls ≠ "java/lang/invoke/MethodHandle" ∧ y_Mo_strength.cls ≠ "java/lang/invoke/VarHandle" ∧ (parseMethodDescriptor y_Mo_strength.desc).map (fun d => d.parameters.length) = some 1 := by decide +kernel
theorem k_Mo_labelled : y_Mo_labelled.cls ≠ "java/lang/invoke/MethodHandle" ∧ y_Mo_labelled.cls ≠ "java/lang/invoke/VarHandle" ∧ (parseMethodDescriptor y_Mo_labelled.desc).map (fun d => d.parameters.length) = some 4 := by decide +kernel
theorem k_Mo_semicolon : y_Mo_semicolon.cls ≠ "java/lang/invoke/MethodHandle" ∧ y_Mo_semicolon.cls ≠ "java/lang/invoke/VarHandle" ∧ (parseMethodDescriptor y_Mo_semicolon.desc).map (fun d => d.parameters.length) = some 0 := by decide +kernel
theorem k_Mo_leave : y_Mo_leave.cls ≠ "java/lang/invoke/MethodHandle" ∧ y_Mo_leave.cls ≠ "java/lang/invoke/VarHandle" ∧ (parseMethodDescriptor y_Mo_leave.desc).map (fun d => d.parameters.length) = some 2 := by decide +kernel
theorem k_Mo_debugger : y_Mo_debugger.cls ≠ "java/lang/invoke/MethodHandle" ∧ y_Mo_debugger.cls ≠ "java/lang/invoke/VarHandle" ∧ (parseMethodDescriptor y_Mo_debugger.desc).map (fun d => d.parameters.length) = some 1 := by decide +kernel
theorem k_Mo_doLoop : y_Mo_doLoop.cls ≠ "java/lang/invoke/MethodHandle" ∧ y_Mo_doLoop.cls ≠ "java/lang/invoke/VarHandle" ∧ (parseMethodDescriptor y_Mo_doLoop.desc).map (fun d => d.parameters.length) = some 3 := by decide +kernel
theorem k_Mo_body : y_Mo_body.cls ≠ "java/lang/invoke/MethodHandle" ∧ y_Mo_body.cls ≠ "java/lang/invoke/VarHandle" ∧ (parseMethodDescriptor y_Mo_body.desc).map (fun d => d.parameters.length) = some 3 := by decide +kernel
theorem k_Mo_head : y_Mo_head.cls ≠ "java/lang/invoke/MethodHandle" ∧ y_Mo_head.cls ≠ "java/lang/invoke/VarHandle" ∧ (parseMethodDescriptor y_Mo_head.desc).map (fun d => d.parameters.length) = some 2 := by decide +kernel
theorem k_Mo_forLoop : y_Mo_forLoop.cls ≠ "java/lang/invoke/MethodHandle" ∧ y_Mo_forLoop.cls ≠ "java/lang/invoke/VarHandle" ∧ (parseMethodDescriptor y_Mo_forLoop.desc).map (fun d => d.parameters.length) = some 3 := by decide +kernel
theorem k_Mo_declarations : y_Mo_declarations.cls ≠ "java/lang/invoke/MethodHandle" ∧ y_Mo_declarations.cls ≠ "java/lang/invoke/VarHandle" ∧ (parseMethodDescriptor y_Mo_declarations.desc).map (fun d => d.parameters.length) = some 4 := by decide +kernel
theorem k_Mo_part : y_Mo_part.cls ≠ "java/lang/invoke/MethodHandle" ∧ y_Mo_part.cls ≠ "java/lang/invoke/VarHandle" ∧ (parseMethodDescriptor y_Mo_part.desc).map (fun d => d.parameters.length) = some 4 := by decide +kernel
theorem k_Mo_condition : y_Mo_condition.cls ≠ "java/lang/invoke/MethodHandle" ∧ y_Mo_condition.cls ≠ "java/lang/invoke/VarHandle" ∧ (parseMethodDescriptor y_Mo_condition.desc).map (fun d => d.parameters.length) = some 2 := by decide +kernel
theorem k_Mo_giveBack : y_Mo_giveBack.cls ≠ "java/lang/invoke/MethodHandle" ∧ y_Mo_giveBack.cls ≠ "java/lang/invoke/VarHandle" ∧ (parseMethodDescriptor y_Mo_giveBack.desc).map (fun d => d.parameters.length) = some 2 := by decide +kernel
theorem k_Mo_choice : y_Mo_choice.cls ≠ "java/lang/invoke/MethodHandle" ∧ y_Mo_choice.cls ≠ "java/lang/invoke/VarHandle" ∧ (parseMethodDescriptor y_Mo_choice.desc).map (fun d => d.parameters.length) = some 2 := by decide +kernel
theorem k_Mo_thrower : y_Mo_thrower.cls ≠ "java/lang/invoke/MethodHandle" ∧ y_Mo_thrower.cls ≠ "java/lang/invoke/VarHandle" ∧ (parseMethodDescriptor y_Mo_thrower.desc).map (fun d => d.parameters.length) = some 2 := by decide +kernel
theorem k_Mo_trial : y_Mo_trial.cls ≠ "java/lang/invoke/MethodHandle" ∧ y_Mo_trial.cls ≠ "java/lang/invoke/VarHandle" ∧ (parseMethodDescriptor y_Mo_trial.desc).map (fun d => d.parameters.length) = some 2 := by decide +kernel
theorem k_Mo_variables : y_Mo_variables.cls ≠ "java/lang/invoke/MethodHandle" ∧ y_Mo_variables.cls ≠ "java/lang/invoke/VarHandle" ∧ (parseMethodDescriptor y_Mo_variables.desc).map (fun d => d.parameters.length) = some 2 := by decide +kernel
theorem k_Mo_whileLoop : y_Mo_whileLoop.cls ≠ "java/lang/invoke/MethodHandle" ∧ y_Mo_whileLoop.cls ≠ "java/lang/invoke/VarHandle" ∧ (parseMethodDescriptor y_Mo_whileLoop.desc).map (fun d => d.parameters.length) = some 3 := by decide +kernel
theorem k_Mo_with : y_Mo_with.cls ≠ "java/lang/invoke/MethodHandle" ∧ y_Mo_with.cls ≠ "java/lang/invoke/VarHandle" ∧ (parseMethodDescriptor y_Mo_with.desc).map (fun d => d.parameters.length) = some 2 := by decide +kernel
theorem k_Mo_numberAll : y_Mo_numberAll.cls ≠ "java/lang/invoke/MethodHandle" ∧ y_Mo_numberAll.cls ≠ "java/lang/invoke/VarHandle" ∧ (parseMethodDescriptor y_Mo_numberAll.desc).map (fun d => d.parameters.length) = some 0 := by decide +kernel
theorem k_Mo_place : y_Mo_place.cls ≠ "java/lang/invoke/MethodHandle" ∧ y_Mo_place.cls ≠ "java/lang/invoke/VarHandle" ∧ (parseMethodDescriptor y_Mo_place.desc).map (fun d => d.parameters.length) = some 0 := by decide +kernel
theorem k_Mo_node : y_Mo_node.cls ≠ "java/lang/invoke/MethodHandle" ∧ y_Mo_node.cls ≠ "java/lang/invoke/VarHandle" ∧ (parseMethodDescriptor y_Mo_node.desc).map (fun d => d.parameters.length) = some 2 := by decide +kernel
theorem k_Mo_childrenOf : y_Mo_childrenOf.cls ≠ "java/lang/invoke/MethodHandle" ∧ y_Mo_childrenOf.cls ≠ "java/lang/invoke/VarHandle" ∧ (parseMethodDescriptor y_Mo_childrenOf.desc).map (fun d => d.parameters.length) = some 1 := by decide +kernel
theorem k_Mo_child : y_Mo_child.cls ≠ "java/lang/invoke/MethodHandle" ∧ y_Mo_child.cls ≠ "java/lang/invoke/VarHandle" ∧ (parseMethodDescriptor y_Mo_child.desc).map (fun d => d.parameters.length) = some 2 := by decide +kernel
