/-! operators ahead of an operand -/
def unR (K : Nat → List Int32 → MO → Rm) (depth : Int32) (r_2 : Int32) (mo_2 : MO) : Rm := (if 0 ≤ r_2 then (bndM (f_Mo_make mo_2 43 r_2 (q_at mo_2)) (fun r_4 mo_4 => (bndM (K 3 [(depth + 1)] (s_at mo_4 ((q_at mo_4) + 1))) (fun r_5 mo_5 => (if r_2 = 3 then (if inb r_4 2600 then (bndM (f_Mo_changed mo_5 r_5 ((q_spot mo_5) (r_4 : Int32).toNatClampNeg)) (fun _ mo_8 => (if r_2 = 0 then (if (q_strict mo_8) = 0 then (bndM (f_Mo_hang mo_8 r_4 r_5) (fun _ mo_12 => (some (.inr (r_4, mo_12))))) else (if inb r_5 2600 then (if ((q_kind mo_8) (r_5 : Int32).toNatClampNeg) = 28 then (bndM (f_Mo_refuse mo_8 ((q_spot mo_8) (r_4 : Int32).toNatClampNeg)) (fun _ mo_16 => (bndM (f_Mo_hang mo_16 r_4 r_5) (fun _ mo_17 => (some (.inr (r_4, mo_17))))))) else (bndM (f_Mo_hang mo_8 r_4 r_5) (fun _ mo_15 => (some (.inr (r_4, mo_15)))))) else none)) else (bndM (f_Mo_hang mo_8 r_4 r_5) (fun _ mo_10 => (some (.inr (r_4, mo_10)))))))) else none) else (if r_2 = 4 then (if inb r_4 2600 then (bndM (f_Mo_changed mo_5 r_5 ((q_spot mo_5) (r_4 : Int32).toNatClampNeg)) (fun _ mo_30 => (if r_2 = 0 then (if (q_strict mo_30) = 0 then (bndM (f_Mo_hang mo_30 r_4 r_5) (fun _ mo_34 => (some (.inr (r_4, mo_34))))) else (if inb r_5 2600 then (if ((q_kind mo_30) (r_5 : Int32).toNatClampNeg) = 28 then (bndM (f_Mo_refuse mo_30 ((q_spot mo_30) (r_4 : Int32).toNatClampNeg)) (fun _ mo_38 => (bndM (f_Mo_hang mo_38 r_4 r_5) (fun _ mo_39 => (some (.inr (r_4, mo_39))))))) else (bndM (f_Mo_hang mo_30 r_4 r_5) (fun _ mo_37 => (some (.inr (r_4, mo_37)))))) else none)) else (bndM (f_Mo_hang mo_30 r_4 r_5) (fun _ mo_32 => (some (.inr (r_4, mo_32)))))))) else none) else (if r_2 = 0 then (if (q_strict mo_5) = 0 then (bndM (f_Mo_hang mo_5 r_4 r_5) (fun _ mo_22 => (some (.inr (r_4, mo_22))))) else (if inb r_5 2600 then (if ((q_kind mo_5) (r_5 : Int32).toNatClampNeg) = 28 then (if inb r_4 2600 then (bndM (f_Mo_refuse mo_5 ((q_spot mo_5) (r_4 : Int32).toNatClampNeg)) (fun _ mo_27 => (bndM (f_Mo_hang mo_27 r_4 r_5) (fun _ mo_28 => (some (.inr (r_4, mo_28))))))) else none) else (bndM (f_Mo_hang mo_5 r_4 r_5) (fun _ mo_25 => (some (.inr (r_4, mo_25)))))) else none)) else (bndM (f_Mo_hang mo_5 r_4 r_5) (fun _ mo_20 => (some (.inr (r_4, mo_20)))))))))))) else (bndM (f_Mo_postfix K mo_2 depth) (fun r_40 mo_40 => (some (.inr (r_40, mo_40))))))
theorem unR_eq (K : Nat → List Int32 → MO → Rm) (mo : MO) (depth : Int32) : f_Mo_unary K mo depth = bndM (f_Mo_deep mo depth) (fun _ mo_1 => bndM (f_Mo_prefix mo_1) (fun r_2 mo_2 => unR K depth r_2 mo_2)) := rfl
theorem postR_eq (K : Nat → List Int32 → MO → Rm) (mo : MO) (depth : Int32) : f_Mo_postfix K mo depth = bndM (f_Mo_member K mo depth 1) (fun r_1 mo_1 => postR r_1 mo_1) := rfl
theorem memR_eq (K : Nat → List Int32 → MO → Rm) (mo : MO) (depth calls : Int32) : f_Mo_member K mo depth calls = bndM (f_Mo_isWord mo 15) (fun r_1 mo_1 => bndM (if r_1 = 0 then f_Mo_primary K mo_1 depth else f_Mo_newOne K mo_1 depth) (fun r_3 mo_3 => bndM (f_Mo_member_L26 K depth calls 5000 r_3 1 mo_3) (fun rv_4 se_4 => some (.inr (rv_4, se_4))))) := by
  unfold f_Mo_member
  simp only [bndM_ite]
def xOpd (E : Int32 → Int32 → Int32 → ST → Rz) (S : Int32 → Int32 → ST → Rz) (F : Int32 → Int32 → ST → Rz) (st : ST) (depth : Int32) : Rz := if f_Pa_prefixOperator st = -1 then bnd (xPrim E S F st depth) (fun _ s2 => f_Pa_tails E S F s2 (f_Tr_count (sTr st)) depth 1) else f_Pa_prefix E S F st (f_Pa_prefixOperator st) depth
section PUP
variable {tk : TK} {lb lb0 : LB} {co : CO} {L L0 : List Nd} {st : ST} {gt : gT} {ge ge0 : gE} {gp gp0 : gP} {gq : gQ} {a a0 : Nat} {li : Int32} {g g0 : gN} {mo : MO} {m m0 e n nf : Nat} {sg : List Nd} {inn : Int32}
variable {E : Int32 → Int32 → Int32 → ST → Rz} {S : Int32 → Int32 → ST → Rz} {F : Int32 → Int32 → ST → Rz} {K : Nat → List Int32 → MO → Rm}
theorem rs_prefix (hw : TkR tk gt) (ha : a ≤ tkn tk) (hc : gC tk lb co a li L st) (hq : gM gt ge gp gq a li g mo) : f_Mo_prefix mo = some (.inr (f_Pa_prefixOperator st, mo)) := by
  have hT := hw.1
  unfold f_Mo_prefix f_Pa_prefixOperator
  rw [rs_kind hw hq ha (k := 1) (by decide), bndM_some, gC_tk hc, gC_at hc]
  simp only [t01]
  by_cases c1 : f_Tk_kind tk (nI a) = 1
  · have hl := lt_of_kind hT (by omega) c1 (by decide)
    have c1' := c1
    rw [(tk_in hT hl).1] at c1'
    have s1 := tk_nosign (tk := tk) (a := a) hT (by omega) (by rw [c1]; decide)
    rw [if_neg (fun h => h c1), if_pos (gM_inb hq (by omega)), (gM_word hw hq hl).1, s1, (tk_in hT hl).2.2.2.2, if_pos c1']
    have hs : ∀ s : Int32, s ≤ 35 → ¬ s = -1 → (((if 35 < tkW tk a then (-1 : Int32) else tkW tk a) = s) = (tkW tk a = s)) := by
      intro s h1 h2
      by_cases c : 35 < tkW tk a
      · rw [if_pos c]
        refine propext ⟨fun h => absurd h.symm h2, fun h => ?_⟩
        rw [h] at c
        exact absurd c (Int32.not_lt.mpr h1)
      · rw [if_neg c]
    simp only [hs 6 (by decide) (by decide), hs 21 (by decide) (by decide), hs 23 (by decide) (by decide)]
    by_cases d6 : tkW tk a = 6
    · rw [if_pos d6, if_pos d6]
    · rw [if_neg d6, if_neg d6]
      by_cases d23 : tkW tk a = 23
      · rw [if_pos d23, if_neg (show ¬ tkW tk a = 21 by rw [d23]; decide), if_pos d23]
      · rw [if_neg d23]
        by_cases d21 : tkW tk a = 21
        · rw [if_pos d21, if_pos d21]
        · rw [if_neg d21, if_neg d21, if_neg d23]
          rfl
  · have w1 := (tk_noword (tk := tk) (a := a) hT (by omega) c1).1
    rw [if_pos c1, w1, rs_kind hw hq ha (k := 4) (by decide), bndM_some]
    simp only [t01]
    by_cases c4 : f_Tk_kind tk (nI a) = 4
    · have hl := lt_of_kind hT (by omega) c4 (by decide)
      have c4' := c4
      rw [(tk_in hT hl).1] at c4'
      have hsg : f_Tk_sign tk (nI a) = tkW tk a := by rw [(tk_in hT hl).2.2.2.1, if_pos c4']
      rw [if_neg (fun h => h c4), if_pos (gM_inb hq (by omega)), (gM_word hw hq hl).1, hsg]
      have d1 : ((-1 : Int32) = 6) = False := by decide
      have d2 : ((-1 : Int32) = 21) = False := by decide
      have d3 : ((-1 : Int32) = 23) = False := by decide
      simp only [d1, d2, d3, if_false]
      by_cases b73 : tkW tk a = 73
      · rw [if_pos b73, b73]; rfl
      · rw [if_neg b73]
        by_cases b74 : tkW tk a = 74
        · rw [if_pos b74, b74]; rfl
        · rw [if_neg b74]
          by_cases b19 : tkW tk a = 19
          · rw [if_pos b19, if_pos b19]
          · rw [if_neg b19, if_neg b19]
            by_cases b20 : tkW tk a = 20
            · rw [if_pos b20, if_pos b20]
            · rw [if_neg b20, if_neg b20]
              by_cases b72 : tkW tk a = 72
              · rw [if_pos b72, b72]; rfl
              · rw [if_neg b72]
                by_cases b71 : tkW tk a = 71
                · rw [if_pos b71, if_pos b71]
                · rw [if_neg b71, if_neg b71, if_neg b72, if_neg b73, if_neg b74]
    · have s1 := tk_nosign (tk := tk) (a := a) hT (by omega) c4
      rw [if_pos c4, s1]
      rfl
theorem pre_pos (hc : gC tk lb co a li L st) (h : ¬ f_Pa_prefixOperator st = -1) : ¬ f_Pa_prefixOperator st < 0 ∧ (∃ s, f_Tk_sign tk (nI a) = s ∧ ¬ s = -1 ∨ f_Tk_keyword tk (nI a) = s ∧ ¬ s = -1) := by
  unfold f_Pa_prefixOperator at h ⊢
  rw [gC_tk hc, gC_at hc] at h ⊢
  by_cases d6 : f_Tk_keyword tk (nI a) = 6
  · rw [if_pos d6]; exact ⟨by decide, 6, Or.inr ⟨d6, by decide⟩⟩
  · rw [if_neg d6] at h ⊢
    by_cases d21 : f_Tk_keyword tk (nI a) = 21
    · rw [if_pos d21]; exact ⟨by decide, 21, Or.inr ⟨d21, by decide⟩⟩
    · rw [if_neg d21] at h ⊢
      by_cases d23 : f_Tk_keyword tk (nI a) = 23
      · rw [if_pos d23]; exact ⟨by decide, 23, Or.inr ⟨d23, by decide⟩⟩
      · rw [if_neg d23] at h ⊢
        have hs : ¬ f_Tk_sign tk (nI a) = -1 := by
          intro hs
          rw [hs] at h
          exact h (by decide)
        refine ⟨?_, _, Or.inl ⟨rfl, hs⟩⟩
        split
        · decide
        · split
          · decide
          · split
            · decide
            · split
              · decide
              · split
                · decide
                · split
                  · decide
                  · exact absurd rfl (by rename_i h1 h2 h3 h4 h5 h6; rw [if_neg h1, if_neg h2, if_neg h3, if_neg h4, if_neg h5, if_neg h6] at h; exact h)
theorem sm_prefix (h11 : HC 1 2 XN (E 11 (nI (e + 1)) 1) (K 3 [nI (e + 1)]) (e + 1)) (hR : RR tk gt co lb ge gp gq a li g m L st mo) (hlb : lbn lb < e) (hL : L.length ≤ 2 * a + 2) (hm : m ≤ 2 * a + 2) (hop : ¬ f_Pa_prefixOperator st = -1) :
    Sim (f_Pa_prefix E S F st (f_Pa_prefixOperator st) (nI e)) (unR K (nI e) (f_Pa_prefixOperator st) mo) (PX 1 (lbn lb) (XL (tk, co) a) tk gt co lb ge gp gq a g m L) := by
  obtain ⟨hw, hc, hq, hd⟩ := hR
  have hT := hw.1.1
  have ha := hw.2.1
  have hgs : ge.1 = co.2.2.1 := hw.2.2.1.1
  obtain ⟨hop0, s, hs⟩ := pre_pos hc hop
  have hl : a < tkn tk := by
    rcases hs with ⟨h1, h2⟩ | ⟨h1, h2⟩
    · exact lt_of_sign hT (by omega) h1 h2
    · exact lt_of_word hT (by omega) h1 h2
  generalize f_Pa_prefixOperator st = op at hop hop0
  unfold f_Pa_prefix unR
  rw [if_pos (Int32.not_lt.mp hop0)]
  obtain ⟨st1, e1, c1⟩ := cs_open hc (by omega) hT 43 op (sAt st)
  rw [gC_at hc] at c1
  refine Sim_c e1 ?_
  obtain ⟨mo1, g1, e2, q1, o1, f1, d1⟩ := rs_make' hq hd (show m < 2600 by omega) 43 op (q_at mo)
  refine Sim_m e2 ?_
  rw [gM_at hq] at o1
  rw [nI_1]
  refine Sim_bind (h11 tk gt co lb ge gp gq (a + 1) li g1 (m + 1) _ _ _ ⟨Wf_up hw (by omega) (by omega), gC_inc c1, gM_inc q1, d1⟩ (by omega) (by simp; omega) (by omega)) ?_
  intro r st2 n0 mo2 h2
  obtain ⟨lb2, ge2, gp2, a2, li2, g2, m2, sg, n, rfl, w2, c2, q2, d2, fr2, fn2, o2, l1, l2, l3, l4, l5, l6, l7, xn⟩ := PX_le h2
  have hon := One_in o2
  have hn : n < 2600 := o2.1
  have hgs2 : ge2.1 = co.2.2.1 := w2.2.2.1.1
  have h28 : nK g2 n = 28 → ¬ nV g2 n < 0 := by
    intro h
    obtain ⟨z, t, e⟩ := One_hd o2
    rw [h] at e
    exact xn _ _ _ _ e
  have hO2 := Opn_fr (o1 (m + 1) (m + 1)) fn2 (Nat.le_refl _) (by omega)
  have hll : (L ++ [(43, op, nI a, (1 : Int32))] ++ sg).length = L.length + 1 + sg.length := by simp; omega
  obtain ⟨st3, e3, c3⟩ := cs_close (pre := L) (k := 43) (v := op) (w := nI a) (z := 1) (bd := sg) c2 (by simp) (by omega) rfl
  refine Sim_c e3 ?_
  have hsp : q_spot mo2 (nI m).toNatClampNeg = nI a := by rw [clN (show m < 2600 by omega)]; show mo2.2.1.2.2.1 m = _; rw [gM_g q2]; exact hO2.2.2.2.1
  have hkd : q_kind mo2 (nI n).toNatClampNeg = nK g2 n := by rw [clN hn]; show mo2.2.1.1 n = _; rw [gM_g q2]
  have hst : q_strict mo2 = ge2.1 := by show mo2.2.2.2.1.1 = _; rw [gM_ge q2]
  have hcs : coS st3 = co.2.2.1 := gC_cs c3
  obtain ⟨z, t, es⟩ := One_hd o2
  have hpre : L ++ (43, op, nI a, nI (sg.length + 1)) :: sg = (L ++ [(43, op, nI a, nI (sg.length + 1))]) ++ (nK g2 n, nV g2 n, nS g2 n, z) :: t := by
    rw [← es]; simp
  have c3' := c3
  rw [hpre] at c3'
  have hidx : nI L.length + 1 = nI (L ++ [((43, op, nI a, nI (sg.length + 1)) : Nd)]).length := by rw [nI_1]; simp
  have hbl : ((L ++ [((43, op, nI a, nI (sg.length + 1)) : Nd)]) ++ (nK g2 n, nV g2 n, nS g2 n, z) :: t).length < 2 ^ 20 := by rw [← hpre]; simp; omega
  have hasg : f_Pa_assignable st3 (nI L.length + 1) = asg co.2.2.1 (nK g2 n) (nV g2 n) := by rw [hidx]; exact cs_asg c3' hbl
  have htk : f_Tr_kind (sTr st3) (nI L.length + 1) = nK g2 n := by rw [hidx]; exact (tr_at c3' hbl).1
  have hin : inb (nI m) 2600 := inbN (by omega)
  have hin2 : inb (nI n) 2600 := inbN hn
  have fin : Sim (some (.inr (0, st3))) (bndM (f_Mo_hang mo2 (nI m) (nI n)) (fun _ mo_12 => (some (.inr (nI m, mo_12))))) (PX 1 (lbn lb) (XL (tk, co) a) tk gt co lb ge gp gq a g m L) := by
    obtain ⟨mo4, g4, e4, q4, o4, f4, d4⟩ := rs_hang' q2 hO2 o2 (Nat.le_refl _) (Nat.le_refl _) (Or.inl (by omega))
    refine Sim_m e4 ?_
    rw [List.nil_append] at o4
    exact Sim_ret ⟨lb2, ge2, gp2, a2, li2, g4, m2, _, m, rfl, ⟨w2, c3, q4, d4.trans d2⟩, fr2, FrN_trans (FrN_trans (f1 m (Nat.le_refl _)) fn2 (by omega)) (f4 m (by omega) (Nat.le_refl _)) (Nat.le_refl _), Opn_one o4 (by omega) (Nat.le_refl _) (Nat.le_refl _) (by omega), by omega, by simp; omega, by omega, XL_hd (by decide) (by decide) (by omega)⟩
  have wr : ∀ k' : Int32 → MO → Rm, k' 0 mo2 = bndM (f_Mo_hang mo2 (nI m) (nI n)) (fun _ mo_12 => (some (.inr (nI m, mo_12)))) →
      Sim (if f_Pa_assignable st3 (nI L.length + 1) = 0 then (bnd (f_Cu_refuse st3 (sAt st)) (fun _ st_7 => (some (.inr (0, st_7)))) : Rz) else (some (.inr (0, st3)))) (bndM (f_Mo_changed mo2 (nI n) (q_spot mo2 (nI m).toNatClampNeg)) k') (PX 1 (lbn lb) (XL (tk, co) a) tk gt co lb ge gp gq a g m L) := by
    intro k' hk'
    rw [hasg, hsp, gC_at hc]
    by_cases c : asg co.2.2.1 (nK g2 n) (nV g2 n) = 0
    · rw [if_pos c]
      exact Sim_rr (p := nI a) (Ref_bnd (Ref_refuse c3 _)) (RefM_bnd (RefM_chg q2 hn h28 (by rw [hgs2]; exact c) _)) (at_ne hw.1 ha)
    · rw [if_neg c, rs_chg q2 hn h28 (by rw [hgs2]; exact c), bndM_some, hk']
      exact fin
  by_cases p3 : op = 3
  · have p0 : ¬ op = 0 := by rw [p3]; decide
    rw [if_pos p3, if_neg p0, if_pos p3, if_pos hin]
    exact wr _ (if_neg p0)
  · by_cases p4 : op = 4
    · have p0 : ¬ op = 0 := by rw [p4]; decide
      rw [if_neg p3, if_pos p4, if_neg p0, if_neg p3, if_pos p4, if_pos hin]
      exact wr _ (if_neg p0)
    · rw [if_neg p3, if_neg p4, if_neg p3, if_neg p4]
      by_cases p0 : op = 0
      · rw [if_pos p0, if_pos p0, hcs, hst, hgs2]
        by_cases cs : co.2.2.1 = 0
        · rw [if_pos cs, if_pos cs]
          exact fin
        · rw [if_neg cs, if_neg cs, htk, if_pos hin2, hkd]
          by_cases ck : nK g2 n = 28
          · rw [if_pos ck, if_pos ck, if_pos hin, hsp, gC_at hc]
            exact gC_refuse c3 (at_ne hw.1 ha) rfl
          · rw [if_neg ck, if_neg ck]
            exact fin
      · rw [if_neg p0, if_neg p0]
        exact fin
theorem f_count (hc : gC tk lb co a li L st) : f_Tr_count (sTr st) = nI L.length := by
  unfold f_Tr_count
  rw [(gC_tr hc).1]
/-- operand with operators ahead of it and what stands behind it -/
theorem sm_unary (he : HC 1 2 XA (E 0 (nI (e + 1)) 1) (K 1 [nI (e + 1), 1]) (e + 1)) (h0 : HC 1 2 XL (E (-1) (nI (e + 1)) 1) (K 0 [nI (e + 1), 1]) (e + 1)) (h11 : HC 1 2 XN (E 11 (nI (e + 1)) 1) (K 3 [nI (e + 1)]) (e + 1)) (hee : e ≤ 100)
    (hP : Sim (xPrim E S F st (nI e)) (bndM (f_Mo_isWord mo 15) (fun r_1 mo_1 => if r_1 = 0 then f_Mo_primary K mo_1 (nI e) else f_Mo_newOne K mo_1 (nI e))) (PX 1 (lbn lb) (XL (tk, co) a) tk gt co lb ge gp gq a g m L))
    (hR : RR tk gt co lb ge gp gq a li g m L st mo) (hlb : lbn lb < e) (hL : L.length ≤ 2 * a + 2) (hm : m ≤ 2 * a + 2) :
    Sim (xOpd E S F st (nI e)) (f_Mo_unary K mo (nI e)) (PX 1 (lbn lb) (XL (tk, co) a) tk gt co lb ge gp gq a g m L) := by
  have hR' := hR
  obtain ⟨hw, hc, hq, hd⟩ := hR
  have hT := hw.1.1
  have ha := hw.2.1
  unfold xOpd
  rw [unR_eq, rs_deep mo hee, bndM_some, rs_prefix hw.1 ha hc hq, bndM_some]
  by_cases hop : f_Pa_prefixOperator st = -1
  · rw [if_pos hop, hop]
    unfold unR
    rw [if_neg (by decide), postR_eq, memR_eq]
    simp only [bndM_as]
    have as : ∀ f : Int32 → MO → Rm, bndM (f_Mo_isWord mo 15) (fun r_1 mo_1 => bndM (if r_1 = 0 then f_Mo_primary K mo_1 (nI e) else f_Mo_newOne K mo_1 (nI e)) f) = bndM (bndM (f_Mo_isWord mo 15) (fun r_1 mo_1 => if r_1 = 0 then f_Mo_primary K mo_1 (nI e) else f_Mo_newOne K mo_1 (nI e))) f := fun f => (bndM_as _ _ _).symm
    rw [as]
    refine Sim_bind hP ?_
    intro r st2 n0 mo2 h2
    obtain ⟨lb2, ge2, gp2, a2, li2, g2, m2, sg, n, rfl, hU, hX⟩ := PX_CU h2 hL hm
    unfold f_Pa_tails
    rw [f_count hc]
    have hh := sm_tailsL (S := S) (F := F) he h0 tk gt co lb ge gp gq a g m L (by omega) 1 5000 5000 0 lb2 ge2 gp2 a2 li2 g2 m2 sg n st2 mo2 hU hX (by omega) (by omega) (by omega)
    refine Sim_bind hh ?_
    intro r3 st3 n3 mo3 h3
    obtain ⟨lb3, ge3, gp3, a3, li3, g3, m3, sg3, n3', rfl, hU3, hX3⟩ := PX_CU h3 hL hm
    rw [if_neg (by decide), bndM_some]
    have hp := sm_postfix hU3 hX3
    refine Sim_bind hp ?_
    intro r4 st4 n4 mo4 h4
    obtain ⟨lb4, ge4, gp4, a4, li4, g4, m4, sg4, n4', rfl, hU4, hX4⟩ := PX_CU h4 hL hm
    exact Sim_ret (CU_PX hU4 hX4 0)
  · rw [if_neg hop]
    exact sm_prefix h11 hR' hlb hL hm hop
/-- operand of new -/
theorem sm_memb (he : HC 1 2 XA (E 0 (nI (e + 1)) 1) (K 1 [nI (e + 1), 1]) (e + 1)) (h0 : HC 1 2 XL (E (-1) (nI (e + 1)) 1) (K 0 [nI (e + 1), 1]) (e + 1))
    (hP : Sim (xPrim E S F st (nI e)) (bndM (f_Mo_isWord mo 15) (fun r_1 mo_1 => if r_1 = 0 then f_Mo_primary K mo_1 (nI e) else f_Mo_newOne K mo_1 (nI e))) (PX 1 (lbn lb) (XL (tk, co) a) tk gt co lb ge gp gq a g m L))
    (hR : RR tk gt co lb ge gp gq a li g m L st mo) (hlb : lbn lb < e) (hL : L.length ≤ 2 * a + 2) (hm : m ≤ 2 * a + 2) :
    Sim (bnd (xPrim E S F st (nI e)) (fun _ s2 => f_Pa_tails E S F s2 (f_Tr_count (sTr st)) (nI e) 0)) (f_Mo_member K mo (nI e) 0) (PX 1 (lbn lb) (XL (tk, co) a) tk gt co lb ge gp gq a g m L) := by
  obtain ⟨hw, hc, hq, hd⟩ := hR
  have hT := hw.1.1
  have ha := hw.2.1
  rw [memR_eq]
  have as : ∀ f : Int32 → MO → Rm, bndM (f_Mo_isWord mo 15) (fun r_1 mo_1 => bndM (if r_1 = 0 then f_Mo_primary K mo_1 (nI e) else f_Mo_newOne K mo_1 (nI e)) f) = bndM (bndM (f_Mo_isWord mo 15) (fun r_1 mo_1 => if r_1 = 0 then f_Mo_primary K mo_1 (nI e) else f_Mo_newOne K mo_1 (nI e))) f := fun f => (bndM_as _ _ _).symm
  rw [as]
  refine Sim_bind hP ?_
  intro r st2 n0 mo2 h2
  obtain ⟨lb2, ge2, gp2, a2, li2, g2, m2, sg, n, rfl, hU, hX⟩ := PX_CU h2 hL hm
  unfold f_Pa_tails
  rw [f_count hc]
  have hh := sm_tailsL (S := S) (F := F) he h0 tk gt co lb ge gp gq a g m L (by omega) 0 5000 5000 0 lb2 ge2 gp2 a2 li2 g2 m2 sg n st2 mo2 hU hX (by omega) (by omega) (by omega)
  refine Sim_bind hh ?_
  intro r3 st3 n3 mo3 h3
  obtain ⟨lb3, ge3, gp3, a3, li3, g3, m3, sg3, n3', rfl, hU3, hX3⟩ := PX_CU h3 hL hm
  rw [if_pos rfl]
  exact Sim_ret (CU_PX hU3 hX3 0)
end PUP
