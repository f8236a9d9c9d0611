/-! statements, the plain ones -/
section PWT
variable {tk : TK} {lb : LB} {co : CO} {L : List Nd} {st : ST} {gt : gT} {ge : gE} {gp : gP} {gq : gQ} {a : Nat} {li : Int32} {g : gN} {mo : MO} {m e : Nat}
variable {E : Int32 → Int32 → Int32 → ST → Rz} {S : Int32 → Int32 → ST → Rz} {F : Int32 → Int32 → ST → Rz} {K : Nat → List Int32 → MO → Rm}
theorem sm_empty (hR : RR tk gt co lb ge gp gq a li g m L st mo) (hL : L.length ≤ 2 * a + 1) (hm : m ≤ 2 * a + 1) (hs : f_Tk_sign tk (nI a) = 67) : Sim (f_Pa_emptyStatement st) (f_Mo_plain mo 4) (PX 0 (lbn lb) (XS tk a) tk gt co lb ge gp gq a g m L) := by
  have hT := hR.1.1.1
  have ha := hR.1.2.1
  have hl := lt_of_sign hT (by omega) hs (by decide)
  have hk := sign_kind hT (by omega) hs (by decide)
  obtain ⟨st1, mo1, g1, e1, e2, c1, q1, s0⟩ := SN_0 hR hl (by omega) (by omega) (by omega) 4
  unfold f_Pa_emptyStatement
  rw [gC_at hR.2.1, e1, e2, bnd_some]
  exact Sim_ret (SN_leaf s0 (XS_of (by rw [hk]; decide)) 0)
theorem sm_debug (hR : RR tk gt co lb ge gp gq a li g m L st mo) (hL : L.length ≤ 2 * a + 1) (hm : m ≤ 2 * a + 1) (hs : f_Tk_keyword tk (nI a) = 4) : Sim (f_Pa_debuggerStatement st) (f_Mo_debugger mo) (PX 0 (lbn lb) (XS tk a) tk gt co lb ge gp gq a g m L) := by
  have hT := hR.1.1.1
  have ha := hR.1.2.1
  have hl := lt_of_word hT (by omega) hs (by decide)
  have hk := word_kind hT (by omega) hs (by decide)
  obtain ⟨st1, mo1, g1, e1, e2, c1, q1, s0⟩ := SN_0 hR hl (by omega) (by omega) (by omega) 23
  unfold f_Pa_debuggerStatement f_Mo_debugger
  rw [gC_at hR.2.1, e1, e2, bnd_some, bndM_some]
  refine sm_semi hR.1.1 (show a + 1 ≤ tkn tk by omega) (gC_inc c1) q1 ?_
  intro a' st2 mo2 _ h1 h2 c2 q2
  exact Sim_ret (SN_leaf (SN_at s0 h1 h2 c2 q2) (XS_of (by rw [hk]; decide)) 0)
theorem sm_if (he : HC 1 2 XL (E (-1) (nI (e + 1)) 1) (K 0 [nI (e + 1), 1]) (e + 1)) (hs : HSt (fun o st => S (nI (e + 1)) o st) (fun o mo => K 5 [nI (e + 1), o] mo) (e + 1)) (hR : RR tk gt co lb ge gp gq a li g m L st mo) (hlab : LabR co lb ge) (hlb : lbn lb < e) (hL : L.length ≤ 2 * a + 1) (hm : m ≤ 2 * a + 1) (hkw : f_Tk_keyword tk (nI a) = 12) :
    Sim (f_Pa_ifStatement E S F st (nI e)) (f_Mo_condition K mo (nI e)) (PX 0 (lbn lb) (XS tk a) tk gt co lb ge gp gq a g m L) := by
  have hT := hR.1.1.1
  have ha := hR.1.2.1
  have hl := lt_of_word hT (by omega) hkw (by decide)
  have hk := word_kind hT (by omega) hkw (by decide)
  have hX : ∀ a' sg, XS tk a a' sg := fun _ _ => XS_of (by rw [hk]; decide)
  obtain ⟨st1, mo1, g1, e1, e2, c1, q1, s0⟩ := SN_0 hR hl (by omega) (by omega) (by omega) 6
  unfold f_Pa_ifStatement f_Mo_condition f_Mo_head
  rw [gC_at hR.2.1, e1, e2, bnd_some, bndM_some, nI_1]
  simp only [bndM_as, bndM_some]
  refine sm_expect hR.1.1 (show a + 1 ≤ tkn tk by omega) (gC_inc c1) q1 (by decide) ?_
  intro hl1 hs1 st2 mo2 c2 q2
  have s2 := SN_at s0 (Nat.le_succ _) (by omega) c2 q2
  refine Sim_bind (SN_E he s2 (by omega)) ?_
  rintro r st3 n mo3 ⟨lb3, ge3, gp3, a3, li3, g3, m3, sg3, n3, rfl, p3, x3, l3, l3'⟩
  have w3 := p3.1
  refine sm_expect w3.1.1 w3.1.2.1 w3.2.1 w3.2.2.1 (by decide) ?_
  intro hl4 hs4 st4 mo4 c4 q4
  obtain ⟨mo5, g5, e5, s5⟩ := PD_hang (PD_at p3 (Nat.le_succ _) (by omega) c4 q4)
  refine Sim_m e5 ?_
  refine Sim_bind (SN_S hs s5 (LabR_fr hlab s5.2.1) (by omega)) ?_
  rintro r st6 n mo6 ⟨lb6, ge6, gp6, a6, li6, g6, m6, sg6, n6, rfl, p6, x6, l6, l6'⟩
  obtain ⟨mo7, g7, e7, s7⟩ := PD_hang p6
  refine Sim_m e7 ?_
  have w7 := s7.1
  rw [cu_word w7.2.1, rs_word w7.1.1 w7.2.2.1 w7.1.2.1 (s := 8) (by decide) (by decide), bndM_some]
  by_cases c8 : f_Tk_keyword tk (nI a6) = 8
  · have hl8 := lt_of_word hT (by have := w7.1.2.1; omega) c8 (by decide)
    rw [if_pos c8, if_neg n10, if_neg n10]
    have s8 := SN_at s7 (Nat.le_succ _) (by omega) (gC_inc w7.2.1) (gM_inc w7.2.2.1)
    refine Sim_bind (SN_S hs s8 (LabR_fr hlab s8.2.1) (by omega)) ?_
    rintro r st9 n mo9 ⟨lb9, ge9, gp9, a9, li9, g9, m9, sg9, n9, rfl, p9, x9, l9, l9'⟩
    obtain ⟨mo10, g10, e10, s10⟩ := PD_hang p9
    refine Sim_m e10 ?_
    obtain ⟨st11, e11, px⟩ := SN_close (X := XS tk a) s10 (hX _ _)
    refine Sim_c e11 ?_
    exact Sim_ret (px 0)
  · rw [if_neg c8, if_pos rfl, if_pos rfl]
    obtain ⟨st11, e11, px⟩ := SN_close (X := XS tk a) s7 (hX _ _)
    refine Sim_c e11 ?_
    exact Sim_ret (px 0)
theorem sm_with (he : HC 1 2 XL (E (-1) (nI (e + 1)) 1) (K 0 [nI (e + 1), 1]) (e + 1)) (hs : HSt (fun o st => S (nI (e + 1)) o st) (fun o mo => K 5 [nI (e + 1), o] mo) (e + 1)) (hR : RR tk gt co lb ge gp gq a li g m L st mo) (hlab : LabR co lb ge) (hlb : lbn lb < e) (hL : L.length ≤ 2 * a + 1) (hm : m ≤ 2 * a + 1) (hkw : f_Tk_keyword tk (nI a) = 25) :
    Sim (f_Pa_withStatement E S F st (nI e)) (f_Mo_with K mo (nI e)) (PX 0 (lbn lb) (XS tk a) tk gt co lb ge gp gq a g m L) := by
  have hT := hR.1.1.1
  have ha := hR.1.2.1
  have hl := lt_of_word hT (by omega) hkw (by decide)
  have hk := word_kind hT (by omega) hkw (by decide)
  have hX : ∀ a' sg, XS tk a a' sg := fun _ _ => XS_of (by rw [hk]; decide)
  obtain ⟨st1, mo1, g1, e1, e2, c1, q1, s0⟩ := SN_0 hR hl (by omega) (by omega) (by omega) 14
  have est : q_strict mo = co.2.2.1 := by show mo.2.2.2.1.1 = _; rw [gM_ge hR.2.2.1]; exact hR.1.2.2.1.1
  unfold f_Pa_withStatement f_Mo_with f_Mo_head
  rw [gC_at hR.2.1, gM_at hR.2.2.1, gC_cs hR.2.1, est]
  by_cases cs : co.2.2.1 = 0
  · rw [if_pos cs, if_pos cs, e1, e2, bnd_some, bndM_some, nI_1]
    simp only [bndM_as, bndM_some]
    refine sm_expect hR.1.1 (show a + 1 ≤ tkn tk by omega) (gC_inc c1) q1 (by decide) ?_
    intro hl1 hs1 st2 mo2 c2 q2
    have s2 := SN_at s0 (Nat.le_succ _) (by omega) c2 q2
    refine Sim_bind (SN_E he s2 (by omega)) ?_
    rintro r st3 n mo3 ⟨lb3, ge3, gp3, a3, li3, g3, m3, sg3, n3, rfl, p3, x3, l3, l3'⟩
    have w3 := p3.1
    refine sm_expect w3.1.1 w3.1.2.1 w3.2.1 w3.2.2.1 (by decide) ?_
    intro hl4 hs4 st4 mo4 c4 q4
    obtain ⟨mo5, g5, e5, s5⟩ := PD_hang (PD_at p3 (Nat.le_succ _) (by omega) c4 q4)
    refine Sim_m e5 ?_
    refine Sim_bind (SN_S hs s5 (LabR_fr hlab s5.2.1) (by omega)) ?_
    rintro r st6 n mo6 ⟨lb6, ge6, gp6, a6, li6, g6, m6, sg6, n6, rfl, p6, x6, l6, l6'⟩
    obtain ⟨mo7, g7, e7, s7⟩ := PD_hang p6
    refine Sim_m e7 ?_
    obtain ⟨st11, e11, px⟩ := SN_close (X := XS tk a) s7 (hX _ _)
    refine Sim_c e11 ?_
    exact Sim_ret (px 0)
  · rw [if_neg cs, if_neg cs]
    exact gC_refuse hR.2.1 (at_ne hR.1.1 ha) rfl
theorem sm_throw (he : HC 1 2 XL (E (-1) (nI (e + 1)) 1) (K 0 [nI (e + 1), 1]) (e + 1)) (hR : RR tk gt co lb ge gp gq a li g m L st mo) (hlb : lbn lb < e) (hL : L.length ≤ 2 * a + 1) (hm : m ≤ 2 * a + 1) (hkw : f_Tk_keyword tk (nI a) = 19) :
    Sim (f_Pa_throwStatement E S F st (nI e)) (f_Mo_thrower K mo (nI e)) (PX 0 (lbn lb) (XS tk a) tk gt co lb ge gp gq a g m L) := by
  have hT := hR.1.1.1
  have ha := hR.1.2.1
  have hl := lt_of_word hT (by omega) hkw (by decide)
  have hk := word_kind hT (by omega) hkw (by decide)
  have hX : ∀ a' sg, XS tk a a' sg := fun _ _ => XS_of (by rw [hk]; decide)
  obtain ⟨st1, mo1, g1, e1, e2, c1, q1, s0⟩ := SN_0 hR hl (by omega) (by omega) (by omega) 19
  have hcnt : q_count mo1 = nI (tkn tk) := by have := gM_gt q1; show mo1.1.2.2.2.2 = _; rw [this]; exact hR.1.1.2.1
  unfold f_Pa_throwStatement f_Mo_thrower
  rw [gC_at hR.2.1, e1, e2, bnd_some, bndM_some, gC_tk c1, nI_1]
  have good : Sim (bnd (E (-1) (nI (e + 1)) 1 (setAt st1 (sAt st1 + 1))) (fun _ st_3 => (bnd (f_Cu_semicolon st_3) (fun _ st_4 => (bnd (p_close st_4 (nI L.length)) (fun _ st_5 => (some (.inr (0, st_5))))))))) (bndM (K 0 [nI (e + 1), 1] mo1) (fun r_3 mo_3 => (bndM (f_Mo_hang mo_3 (nI m) r_3) (fun _ mo_4 => (bndM (f_Mo_semicolon mo_4) (fun _ mo_5 => (some (.inr (nI m, mo_5))))))))) (PX 0 (lbn lb) (XS tk a) tk gt co lb ge gp gq a g m L) := by
    refine Sim_bind (SN_E he s0 (by omega)) ?_
    rintro r st3 n mo3 ⟨lb3, ge3, gp3, a3, li3, g3, m3, sg3, n3, rfl, p3, x3, l3, l3'⟩
    obtain ⟨mo5, g5, e5, s5⟩ := PD_hang p3
    refine Sim_m e5 ?_
    have w5 := s5.1
    refine sm_semi w5.1.1 w5.1.2.1 w5.2.1 w5.2.2.1 ?_
    intro a' st6 mo6 _ h1 h2 c6 q6
    obtain ⟨st11, e11, px⟩ := SN_close (X := XS tk a) (SN_at s5 h1 h2 c6 q6) (hX _ _)
    refine Sim_c e11 ?_
    exact Sim_ret (px 0)
  have eat : sAt st1 + 1 = nI (a + 1) := by rw [gC_at c1, nI_1]
  by_cases hend : a + 1 < tkn tk
  · rw [hcnt, gM_at q1, if_neg (nI_ge hend (by omega)), if_pos (nI_in (c := a + 1) (N := 1001) (by omega) (by decide))]
    have hln : q_lines mo1 (nI (a + 1)).toNatClampNeg = tkL tk (a + 1) := by have := (gM_word hR.1.1 q1 hend).2.2; rw [gM_at q1] at this; exact this
    rw [hln, eat]
    have htl := (tk_in hT hend).2.2.1
    rcases (hR.1.1.2.2 (a + 1) hend).2.2.2.2.1 with e0 | e0
    · rw [if_pos e0, if_pos (show f_Tk_line tk (nI (a + 1)) = 0 by rw [htl, e0]; decide)]
      rw [eat] at good
      exact good
    · rw [if_neg (show ¬ tkL tk (a + 1) = 0 by rw [e0]; decide), if_neg (show ¬ f_Tk_line tk (nI (a + 1)) = 0 by rw [htl, e0]; decide)]
      have cB := gC_inc c1
      rw [eat] at cB
      exact gC_refuse cB (at_ne hR.1.1 (by omega)) rfl
  · have htl := (tk_out (tk := tk) (a := a + 1) hT (by omega) (by omega)).2.2.1
    rw [hcnt, gM_at q1, if_pos (nI_le (by omega) (by omega)), eat, if_pos htl]
    rw [eat] at good
    exact good
theorem sm_return (he : HC 1 2 XL (E (-1) (nI (e + 1)) 1) (K 0 [nI (e + 1), 1]) (e + 1)) (hR : RR tk gt co lb ge gp gq a li g m L st mo) (hlb : lbn lb < e) (hL : L.length ≤ 2 * a + 1) (hm : m ≤ 2 * a + 1) (hkw : f_Tk_keyword tk (nI a) = 16) :
    Sim (f_Pa_returnStatement E S F st (nI e)) (f_Mo_giveBack K mo (nI e)) (PX 0 (lbn lb) (XS tk a) tk gt co lb ge gp gq a g m L) := by
  have hT := hR.1.1.1
  have ha := hR.1.2.1
  have hl := lt_of_word hT (by omega) hkw (by decide)
  have hk := word_kind hT (by omega) hkw (by decide)
  have hX : ∀ a' sg, XS tk a a' sg := fun _ _ => XS_of (by rw [hk]; decide)
  obtain ⟨st1, mo1, g1, e1, e2, c1, q1, s0⟩ := SN_0 hR hl (by omega) (by omega) (by omega) 13
  have hcnt : q_count mo1 = nI (tkn tk) := by have := gM_gt q1; show mo1.1.2.2.2.2 = _; rw [this]; exact hR.1.1.2.1
  have ein : q_inFunction mo = co.1 := by show mo.2.2.2.1.2.1 = _; rw [gM_ge hR.2.2.1]; exact hR.1.2.2.2.1.1
  have ecf : coF st = co.1 := congrArg (fun q : CO => q.1) (gC_co hR.2.1)
  have c1' := gC_inc c1
  have fin : ∀ bd lb2 ge2 gp2 a2 li2 g2 m2 st2 mo2, SN tk gt co lb ge gp gq a L g m 13 0 bd lb2 ge2 gp2 a2 li2 g2 m2 st2 mo2 → Sim (bnd (f_Cu_semicolon st2) (fun _ st_4 => (bnd (p_close st_4 (nI L.length)) (fun _ st_5 => (some (.inr (0, st_5))))))) (bndM (f_Mo_semicolon mo2) (fun _ mo_5 => (some (.inr (nI m, mo_5))))) (PX 0 (lbn lb) (XS tk a) tk gt co lb ge gp gq a g m L) := by
    intro bd lb2 ge2 gp2 a2 li2 g2 m2 st2 mo2 s5
    have w5 := s5.1
    refine sm_semi w5.1.1 w5.1.2.1 w5.2.1 w5.2.2.1 ?_
    intro a' st6 mo6 _ h1 h2 c6 q6
    obtain ⟨st11, e11, px⟩ := SN_close (X := XS tk a) (SN_at s5 h1 h2 c6 q6) (hX _ _)
    refine Sim_c e11 ?_
    exact Sim_ret (px 0)
  unfold f_Pa_returnStatement f_Mo_giveBack
  rw [gC_at hR.2.1, gM_at hR.2.2.1, ecf, ein]
  by_cases cf : co.1 = 0
  · rw [if_pos cf, if_pos cf]
    exact gC_refuse hR.2.1 (at_ne hR.1.1 ha) rfl
  · rw [if_neg cf, if_neg cf, e1, e2, bnd_some, bndM_some, nI_1 e]
    have good : Sim (bnd (E (-1) (nI (e + 1)) 1 (setAt st1 (sAt st1 + 1))) (fun _ st_6 => (bnd (f_Cu_semicolon st_6) (fun _ st_7 => (bnd (p_close st_7 (nI L.length)) (fun _ st_8 => (some (.inr (0, st_8))))))))) (bndM (K 0 [nI (e + 1), 1] mo1) (fun r_14 mo_14 => (bndM (f_Mo_hang mo_14 (nI m) r_14) (fun _ mo_15 => (bndM (f_Mo_semicolon mo_15) (fun _ mo_16 => (some (.inr (nI m, mo_16))))))))) (PX 0 (lbn lb) (XS tk a) tk gt co lb ge gp gq a g m L) := by
      refine Sim_bind (SN_E he s0 (by omega)) ?_
      rintro r st3 n mo3 ⟨lb3, ge3, gp3, a3, li3, g3, m3, sg3, n3, rfl, p3, x3, l3, l3'⟩
      obtain ⟨mo5, g5, e5, s5⟩ := PD_hang p3
      refine Sim_m e5 ?_
      exact fin _ _ _ _ _ _ _ _ _ _ s5
    by_cases hend : a + 1 < tkn tk
    · have hkp : ¬ f_Tk_kind tk (nI (a + 1)) = 0 := by rw [(tk_in hT hend).1]; exact kind_pos (hR.1.1.2.2 (a + 1) hend).2.2.2.2.2
      have hln : q_lines mo1 (q_at mo1).toNatClampNeg = tkL tk (a + 1) := (gM_word hR.1.1 q1 hend).2.2
      have htl := (tk_in hT hend).2.2.1
      have ese : f_Cu_statementEnds (setAt st1 (sAt st1 + 1)) = (if f_Tk_sign tk (nI (a + 1)) = 67 then 1 else (if f_Tk_sign tk (nI (a + 1)) = 65 then 1 else (if f_Tk_line tk (nI (a + 1)) = 0 then 0 else 1))) := by
        unfold f_Cu_statementEnds
        rw [gC_tk c1', gC_at c1', if_neg hkp]
      rw [ese, hcnt, if_neg (show ¬ nI (tkn tk) ≤ q_at mo1 by rw [gM_at q1]; exact nI_ge hend (by omega)), if_pos (gM_inb q1 (by omega)), hln, rs_sign hR.1.1 q1 (show a + 1 ≤ tkn tk by omega) (s := 67) (by decide), bndM_some, rs_sign hR.1.1 q1 (show a + 1 ≤ tkn tk by omega) (s := 65) (by decide), bndM_some]
      have semi := fin _ _ _ _ _ _ _ _ _ _ s0
      by_cases c67 : f_Tk_sign tk (nI (a + 1)) = 67
      · rw [if_pos c67, if_neg n10, if_pos c67, if_neg n10]
        split
        · exact semi
        · exact semi
      · rw [if_neg c67]
        by_cases c65 : f_Tk_sign tk (nI (a + 1)) = 65
        · rw [if_pos c65, if_neg n10, if_neg c67, if_pos rfl, if_pos c65, if_neg n10]
          split
          · exact semi
          · exact semi
        · rw [if_neg c65]
          rcases (hR.1.1.2.2 (a + 1) hend).2.2.2.2.1 with e0 | e0
          · rw [if_pos (show f_Tk_line tk (nI (a + 1)) = 0 by rw [htl, e0]; decide), if_pos rfl, if_pos e0, if_neg c67, if_pos rfl, if_neg c65, if_pos rfl]
            exact good
          · rw [if_neg (show ¬ f_Tk_line tk (nI (a + 1)) = 0 by rw [htl, e0]; decide), if_neg n10, if_neg (show ¬ tkL tk (a + 1) = 0 by rw [e0]; decide)]
            exact semi
    · have ese : ¬ f_Cu_statementEnds (setAt st1 (sAt st1 + 1)) = 0 := by
        unfold f_Cu_statementEnds
        rw [gC_tk c1', gC_at c1', if_pos (tk_out (tk := tk) (a := a + 1) hT (by omega) (by omega)).1]
        split
        · decide
        · split <;> decide
      rw [if_neg ese, hcnt, if_pos (show nI (tkn tk) ≤ q_at mo1 by rw [gM_at q1]; exact nI_le (by omega) (by omega))]
      exact fin _ _ _ _ _ _ _ _ _ _ s0
end PWT
