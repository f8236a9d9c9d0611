/-! what holds at the law's entry -/
section STA
variable {s : State} {args : Array Value}
theorem arr_of {ty : FieldType} (h : (Cond.arrayClass ty).before args s = true) : ∃ cA, ArrOfT s cA ty ∧ s.vm.findClass ("[" ++ ty.toString) = some cA := by
  obtain ⟨cA, kA, comp, hfind, hk, hkind⟩ := Cond.arrayClass_spec h
  exact ⟨cA, fun n z => ⟨fun k h => (by cases h), kA, hk, comp, hkind⟩, hfind⟩
theorem str_of {own tx : String} {k : Nat} (h1 : (Cond.stringRef own k tx).before args s = true) (h2 : (Cond.exactly (Term.string own k) "java/lang/String").before args s = true) : ∃ a, vk_R own k tx a s := by
  obtain ⟨a, c, cA, kA, q1, q2, q3, q4, q5, q6, -⟩ := Cond.exactly_spec (args := args) (first := s) (o := none) (s := s) (idx := []) (t := Term.string own k) (cls := "java/lang/String") h2
  exact ⟨a, vk_R.of (A := args) h1 q1⟩
def nar : List Cond := flatC (Jvm.Cond.and given_1 narrow_1)
theorem nar_rk : ∀ j, j < 24 → (Cond.eq (Term.elem (Term.static "SyntaxTree$Parser" "RANKS" "[I") (.int (Int32.ofNat j))) (.int (([0, 1, 2, 3, 4, 5, 6, 6, 6, 6, 7, 7, 7, 7, 7, 7, 8, 8, 8, 9, 9, 10, 10, 10] : List Int32).getD j 0))) ∈ nar := by decide +kernel
theorem nar_len : (Cond.eq (Term.length (Term.static "SyntaxTree$Parser" "RANKS" "[I")) (.int 24)) ∈ nar := by decide +kernel
theorem nar_arr : (Cond.arrayOf (Term.static "SyntaxTree$Parser" "RANKS" "[I") .int) ∈ nar := by decide +kernel
theorem nar_us : (Cond.isRef (Term.static Bundle.tN "UNASSIGNED_STACK" Bundle.steD)) ∈ nar := by decide +kernel
theorem nar_ss : (Cond.isRef (Term.static Bundle.tN "SUPPRESSED_SENTINEL" Bundle.listD)) ∈ nar := by decide +kernel
theorem nar_str : ∀ k, k ∈ [44, 55, 69, 72, 80, 100] → (Cond.exactly (Term.string "SyntaxTree" k) "java/lang/String") ∈ nar := by decide +kernel
theorem nar_str2 : (Cond.exactly (Term.string "SyntaxTree$Cursor" 31) "java/lang/String") ∈ nar := by decide +kernel
theorem nar_nc1 : (Cond.not (.castable ISE IAE)) ∈ nar := by decide +kernel
theorem nar_nc2 : (Cond.not (.castable IOB IAE)) ∈ nar := by decide +kernel
theorem t_us : (Cond.laysStatic Bundle.tN "UNASSIGNED_STACK" Bundle.steD) ∈ lw_tbl := by decide +kernel
theorem t_ss : (Cond.laysStatic Bundle.tN "SUPPRESSED_SENTINEL" Bundle.listD) ∈ lw_tbl := by decide +kernel
theorem t_rk : (Cond.laysStatic "SyntaxTree$Parser" "RANKS" "[I") ∈ lw_tbl := by decide +kernel
theorem t_s1 : (Cond.stringRef R_Cu 31 "refused") ∈ lw_tbl := by decide +kernel
theorem t_s44 : (Cond.stringRef R_Sy 44 "no such token") ∈ lw_tbl := by decide +kernel
theorem t_s55 : (Cond.stringRef R_Sy 55 "too many tokens") ∈ lw_tbl := by decide +kernel
theorem t_s69 : (Cond.stringRef R_Sy 69 "the tokens are refused") ∈ lw_tbl := by decide +kernel
theorem t_s72 : (Cond.stringRef R_Sy 72 "no such question") ∈ lw_tbl := by decide +kernel
theorem t_s80 : (Cond.stringRef R_Sy 80 "no such node") ∈ lw_tbl := by decide +kernel
theorem t_s100 : (Cond.stringRef R_Sy 100 "no such child") ∈ lw_tbl := by decide +kernel
theorem t_d1 : (Cond.declares (Bundle.initS "java/lang/RuntimeException")) ∈ lw_tbl := by decide +kernel
theorem t_d2 : (Cond.declares (Bundle.initS "java/lang/Exception")) ∈ lw_tbl := by decide +kernel
theorem t_d3 : (Cond.declares (Bundle.initS Bundle.tN)) ∈ lw_tbl := by decide +kernel
theorem t_d4 : (Cond.declares (Bundle.init0 "java/lang/RuntimeException")) ∈ lw_tbl := by decide +kernel
theorem t_d5 : (Cond.declares (Bundle.init0 "java/lang/Exception")) ∈ lw_tbl := by decide +kernel
theorem t_d6 : (Cond.declares (Bundle.init0 Bundle.tN)) ∈ lw_tbl := by decide +kernel
theorem t_c1 : (Cond.castable "java/lang/IllegalArgumentException" "java/lang/IllegalArgumentException") ∈ lw_tbl := by decide +kernel
theorem t_c2 : (Cond.castable "java/lang/UnsupportedOperationException" "java/lang/UnsupportedOperationException") ∈ lw_tbl := by decide +kernel
theorem t_c3 : (Cond.castable ISE ISE) ∈ lw_tbl := by decide +kernel
theorem t_c4 : (Cond.castable IOB IOB) ∈ lw_tbl := by decide +kernel
theorem t_n1 : (Cond.methodLinkNest "SyntaxTree" 9 y_Tk_init "SyntaxTree") ∈ lw_tbl := by decide +kernel
theorem t_n2 : (Cond.methodLinkNest "SyntaxTree" 18 y_Tr_init "SyntaxTree") ∈ lw_tbl := by decide +kernel
theorem t_n3 : (Cond.methodLinkNest "SyntaxTree$Parser" 9 y_La_init "SyntaxTree") ∈ lw_tbl := by decide +kernel
/-- all that the calls ask of the start -/
theorem start_ctx (hts : ∀ w ∈ lw_tbl, w.before args s = true) (hgv : (Jvm.Cond.and given_1 narrow_1).before args s = true) :
    ∃ (dC : Nat → ClassId) (dI : Nat → Nat → Nat) (cI cZ cL : ClassId) (sa rk : Nat) (sb : Nat → Nat), va_K (dC, dI) cls (ty3 cI cZ cL) s ∧ CX cI sa s ∧ ZX rk (fun q : Nat => s.heap.size ≤ q) s s.heap ∧ CN cZ s ∧ CY sb s ∧ CKO s := by
  have hs : ∀ c ∈ nar, c.before args s = true := flat_of_before _ hgv
  have htl : ∀ w ∈ LL, w.before args s = true := fun w hw => hts w (List.mem_filter.mp hw).1
  have hA : ∀ a : Nat, a < s.heap.size → ¬ (fun q : Nat => s.heap.size ≤ q) a := fun a h => Nat.not_le.mpr h
  obtain ⟨k0, i0, hk0⟩ := u_known (C := R_Co) (T := T_Co) (N := 5) (n := 5) htl u_Co (htl _ L_164)
  obtain ⟨k1, i1, hk1⟩ := u_known (C := R_La) (T := T_La) (N := 3) (n := 3) htl u_La (htl _ L_192)
  obtain ⟨k2, i2, hk2⟩ := u_known (C := R_Pa) (T := T_Pa) (N := 7) (n := 7) htl u_Pa (htl _ L_155)
  obtain ⟨k3, i3, hk3⟩ := u_known (C := R_Tk) (T := T_Tk) (N := 5) (n := 5) htl u_Tk (htl _ L_110)
  obtain ⟨k4, i4, hk4⟩ := u_known (C := R_Tr) (T := T_Tr) (N := 5) (n := 5) htl u_Tr (htl _ L_133)
  obtain ⟨k5, i5, hk5⟩ := u_known (C := R_Sy) (T := T_Sy) (N := 4) (n := 4) htl u_Sy (htl _ L_102)
  obtain ⟨k6, i6, hk6⟩ := u_known (C := R_Mo) (T := T_Mo) (N := 31) (n := 31) htl u_Mo (htl _ L_916)
  obtain ⟨dC, dI, hKc⟩ : ∃ (dC : Nat → ClassId) (dI : Nat → Nat → Nat), ∀ (k : Nat) (q : vw_C), cls[k]? = some q → u_Kn s q.1 q.2.1 q.2.2 (dC k) (dI k) := by
    refine ⟨fun k => if k = 0 then k0 else if k = 1 then k1 else if k = 2 then k2 else if k = 3 then k3 else if k = 4 then k4 else if k = 5 then k5 else k6, fun k => if k = 0 then i0 else if k = 1 then i1 else if k = 2 then i2 else if k = 3 then i3 else if k = 4 then i4 else if k = 5 then i5 else i6, ?_⟩
    intro k q hq
    match k, hq with
    | 0, hq => cases hq; exact hk0
    | 1, hq => cases hq; exact hk1
    | 2, hq => cases hq; exact hk2
    | 3, hq => cases hq; exact hk3
    | 4, hq => cases hq; exact hk4
    | 5, hq => cases hq; exact hk5
    | 6, hq => cases hq; exact hk6
    | k + 7, hq => simp [cls] at hq
  obtain ⟨cI, aI, fI⟩ := arr_of (htl _ L_131)
  obtain ⟨cZ, aZ, fZ⟩ := arr_of (htl _ L_207)
  obtain ⟨cL, aL, fL⟩ := arr_of (htl _ L_1281)
  obtain ⟨sa, hsa⟩ := str_of (hts _ t_s1) (hs _ nar_str2)
  obtain ⟨b1, hb1⟩ := str_of (hts _ t_s44) (hs _ (nar_str 44 (by decide)))
  obtain ⟨b2, hb2⟩ := str_of (hts _ t_s55) (hs _ (nar_str 55 (by decide)))
  obtain ⟨b3, hb3⟩ := str_of (hts _ t_s69) (hs _ (nar_str 69 (by decide)))
  obtain ⟨b4, hb4⟩ := str_of (hts _ t_s72) (hs _ (nar_str 72 (by decide)))
  obtain ⟨b5, hb5⟩ := str_of (hts _ t_s80) (hs _ (nar_str 80 (by decide)))
  obtain ⟨b6, hb6⟩ := str_of (hts _ t_s100) (hs _ (nar_str 100 (by decide)))
  obtain ⟨rk, erk, hrk⟩ := va_Tof (args := args) (s := s) (tm := Term.static "SyntaxTree$Parser" "RANKS" "[I") (ty := .int) (N := 24) (f := rkF) (A := fun q : Nat => s.heap.size ≤ q) (by decide) (hs _ nar_arr) (va_eqt (hs _ nar_len)) (fun j hj => va_eqt (hs _ (nar_rk j hj))) hA
  refine ⟨dC, dI, cI, cZ, cL, sa, rk, fun k => if k = 44 then b1 else if k = 55 then b2 else if k = 69 then b3 else if k = 72 then b4 else if k = 80 then b5 else b6, ⟨hKc, ?_⟩, ?_, ?_, ?_, ?_, ?_⟩
  · intro k q hq
    match k, hq with
    | 0, hq => cases hq; exact ⟨aI, fI⟩
    | 1, hq => cases hq; exact ⟨aZ, fZ⟩
    | 2, hq => cases hq; exact ⟨aL, fL⟩
    | k + 3, hq => simp at hq
  · exact ⟨fI, hsa, ⟨va_Nw.of rfl (hts _ t_d1), va_Nw.of rfl (hts _ t_d2), va_Nw.of rfl (hts _ t_d3), va_Nw.of rfl (hts _ t_c1)⟩, ⟨va_Nw.of rfl (hts _ t_d4), va_Nw.of rfl (hts _ t_d5), va_Nw.of rfl (hts _ t_d6), va_Nw.of rfl (hts _ t_c2)⟩⟩
  · exact ⟨vx_Zqof (hts _ t_us) (htl _ L_91) (hs _ nar_us) hA, vx_Zqof (hts _ t_ss) (htl _ L_91) (hs _ nar_ss) hA, va_Zof (hts _ t_rk) (htl _ L_87) erk hA, hrk⟩
  · exact ⟨fZ, va_Nw.of rfl (hts _ t_n1), va_Nw.of rfl (hts _ t_n2), va_Nw.of rfl (hts _ t_n3)⟩
  · exact ⟨⟨hb1, hb2, hb3, hb4, hb5, hb6⟩, va_Nw.of rfl (hts _ t_c3), va_Nw.of rfl (hts _ t_c4)⟩
  · exact ⟨va_Nc.of (hs _ nar_nc1), va_Nc.of (hs _ nar_nc2)⟩
end STA
