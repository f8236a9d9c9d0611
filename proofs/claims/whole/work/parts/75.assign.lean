/-! conditions and assignments -/
def assR (K : Nat → List Int32 → MO → Rm) (depth inn : Int32) (r_2 : Int32) (mo_2 : MO) : Rm := (bndM (f_Mo_isSign mo_2 69) (fun r_3 mo_3 => (if r_3 = 0 then (bndM (f_Mo_isKind mo_3 4) (fun r_5 mo_5 => (if r_5 = 0 then (some (.inr (r_2, mo_5))) else (if inb (q_at mo_5) 1001 then (bndM (f_Mo_isIn mo_5 ((q_words mo_5) ((q_at mo_5) : Int32).toNatClampNeg) 30 53) (fun r_8 mo_8 => (if r_8 = 0 then (some (.inr (r_2, mo_8))) else (bndM (f_Mo_changed mo_8 r_2 (q_at mo_8)) (fun _ mo_10 => (if inb (q_at mo_10) 1001 then (bndM (f_Mo_make mo_10 42 (((q_words mo_10) ((q_at mo_10) : Int32).toNatClampNeg) - 30) (q_at mo_10)) (fun r_12 mo_12 => (bndM (f_Mo_hang (s_at mo_12 ((q_at mo_12) + 1)) r_12 r_2) (fun _ mo_13 => (bndM (K 1 [(depth + 1), inn] mo_13) (fun r_14 mo_14 => (bndM (f_Mo_hang mo_14 r_12 r_14) (fun _ mo_15 => (some (.inr (r_12, mo_15))))))))))) else none)))))) else none)))) else (bndM (f_Mo_make mo_3 40 0 (q_at mo_3)) (fun r_16 mo_16 => (bndM (f_Mo_hang (s_at mo_16 ((q_at mo_16) + 1)) r_16 r_2) (fun _ mo_17 => (bndM (K 1 [(depth + 1), 1] mo_17) (fun r_18 mo_18 => (bndM (f_Mo_hang mo_18 r_16 r_18) (fun _ mo_19 => (bndM (f_Mo_expect mo_19 70) (fun _ mo_20 => (bndM (K 1 [(depth + 1), inn] mo_20) (fun r_21 mo_21 => (bndM (f_Mo_hang mo_21 r_16 r_21) (fun _ mo_22 => (some (.inr (r_16, mo_22))))))))))))))))))))
section PUQ
variable {tk : TK} {lb lb0 : LB} {co : CO} {L L0 : List Nd} {st : ST} {gt : gT} {ge ge0 : gE} {gp gp0 : gP} {gq : gQ} {a a0 : Nat} {li : Int32} {g g0 : gN} {mo : MO} {m m0 e n nf : Nat} {sg : List Nd} {inn : Int32}
variable {E : Int32 → Int32 → Int32 → ST → Rz} {S : Int32 → Int32 → ST → Rz} {F : Int32 → Int32 → ST → Rz} {K : Nat → List Int32 → MO → Rm}
theorem sm_assign (he : HC 1 2 XA (E 0 (nI (e + 1)) inn) (K 1 [nI (e + 1), inn]) (e + 1)) (h1 : HC 1 2 XA (E 0 (nI (e + 1)) 1) (K 1 [nI (e + 1), 1]) (e + 1)) (hlb : lbn lb0 < e + 1) (hU : CU (lbn lb0) tk gt co lb0 ge0 gp0 gq a0 g0 m0 L0 lb ge gp a li g m sg n st mo) (hX : XL (tk, co) a0 a sg) :
    Sim (bnd (f_Pa_conditional E S F st (nI L0.length) (nI e) inn) (fun _ s14 => f_Pa_assignment E S F s14 (nI L0.length) (nI e) inn)) (assR K (nI e) inn (nI n) mo) (PX 1 (lbn lb0) (fun a' sg' => XL (tk, co) a0 a' sg' ∧ XA (tk, co) a0 a' sg') tk gt co lb0 ge0 gp0 gq a0 g0 m0 L0) := by
  have hU' := hU
  obtain ⟨⟨hw, hc, hq, hd⟩, hF, hN, hO, h5, h6, h7, h8, h9⟩ := hU
  have hT := hw.1.1
  have ha := hw.2.1
  have hlb2 : lbn lb = lbn lb0 := hF.1
  have hon := One_in hO
  have hn : n < 2600 := hO.1
  have hlen : (L0 ++ sg).length = L0.length + sg.length := by simp
  have h28 := XN_28 (tk := tk) (co := co) (a0 := a0) (a' := a) hO (XL_XN hX)
  have hgs : ge.1 = co.2.2.1 := hw.2.2.1.1
  unfold f_Pa_conditional assR
  rw [rs_sign hw.1 hq ha (s := 69) (by decide), bndM_some]
  simp only [t01]
  by_cases c69 : f_Tk_sign tk (nI a) = 69
  · have hl := lt_of_sign hT (by omega) c69 (by decide)
    obtain ⟨st1, e1, c1⟩ := cs_acc hc c69
    simp only [bnd_as]
    refine Sim_c e1 ?_
    rw [if_neg (by decide), if_neg (fun h => h c69), nI_1]
    simp only [bnd_as]
    obtain ⟨mo1, g1, e2, q1, o1, f1, d1⟩ := rs_make' hq hd (show m < 2600 by omega) 40 0 (q_at mo)
    refine Sim_m e2 ?_
    rw [gM_at hq] at o1
    have on := One_fr hO (f1 m (Nat.le_refl _)) (Nat.le_refl _)
    obtain ⟨mo2, g2, e3, q2, o2, f2, d2⟩ := rs_hang' (gM_inc q1) (o1 m0 m0) on (Nat.le_refl _) (Nat.le_refl _) (Or.inr (Nat.le_refl _))
    refine Sim_m e3 ?_
    rw [List.nil_append] at o2
    refine Sim_bind (h1 tk gt co lb ge gp gq (a + 1) li g2 (m + 1) _ _ _ ⟨Wf_up hw (by omega) (by omega), c1, q2, d2.trans d1⟩ (by omega) (by omega) (by omega)) ?_
    intro r st3 n3 mo3 h3
    obtain ⟨lb3, ge3, gp3, a3, li3, g3, m3, sg3, n3', rfl, w3, c3, q3, d3, fr3, fn3, o3, l1, l2, l3, l4, l5, l6, l7, _⟩ := PX_le h3
    have o2' := Opn_fr o2 fn3 (Nat.le_succ m) (Nat.lt_succ_self m)
    obtain ⟨mo4, g4, e4, q4, o4, f4, d4⟩ := rs_hang' q3 o2' o3 (Nat.le_succ m) (by omega) (Or.inl (Nat.lt_succ_self m))
    refine Sim_m e4 ?_
    refine sm_expect w3.1 l2 c3 q4 (by decide) ?_
    intro hl5 hs5 st5 mo5 c5 q5
    refine Sim_bind (he tk gt co lb3 ge3 gp3 gq (a3 + 1) li3 g4 m3 _ _ _ ⟨Wf_up w3 (by omega) (by omega), c5, q5, d4.trans d3⟩ (by omega) (by omega) (by omega)) ?_
    intro r6 st6 n6 mo6 h6'
    obtain ⟨lb6, ge6, gp6, a6, li6, g6, m6, sg6, n6', rfl, w6, c6, q6, d6, fr6, fn6, o6, k1, k2, k3, k4, k5, k6, k7, xa⟩ := PX_le h6'
    have o4' := Opn_fr o4 fn6 (Nat.le_refl _) (by omega)
    obtain ⟨mo7, g7, e7, q7, o7, f7, d7⟩ := rs_hang' q6 o4' o6 (Nat.le_refl _) (by omega) (Or.inl (by omega))
    refine Sim_m e7 ?_
    obtain ⟨st8, e8, c8⟩ := cs_wrap (pre := L0) (sg := sg ++ sg3 ++ sg6) c6 (by simp) (by have := One_pos hO; simp; omega) (by omega) hT 40 0 (sAt st) rfl
    refine Sim_c e8 ?_
    rw [gC_at hc] at c8
    rw [bnd_some]
    have asn : f_Pa_assignment E S F st8 (nI L0.length) (nI e) inn = some (.inr (0, st8)) := by
      unfold f_Pa_assignment
      rw [gC_tk c8, gC_at c8]
      rcases xa with xa | xa
      · rw [if_pos xa]
      · by_cases x30 : f_Tk_sign tk (nI a6) < 30
        · rw [if_pos x30]
        · rw [if_neg x30, if_pos xa]
    rw [asn]
    have hone := Opn_one o7 (Nat.le_refl _) (Nat.le_refl _) (by omega) (by omega)
    refine Sim_ret ⟨lb6, ge6, gp6, a6, li6, g7, m6, _, m, rfl, ⟨w6, c8, q7, d7.trans d6⟩, Fr_trans (Fr_trans hF fr3 (by rw [hlb2]; exact Nat.le_refl _)) fr6 (by rw [l3, hlb2]; exact Nat.le_refl _), ?_, hone, by omega, by simp; omega, by omega, XL_hd (by decide) (by decide) (by omega), xa⟩
    exact FrN_trans (FrN_trans (FrN_trans (FrN_trans (FrN_trans (FrN_trans hN (f1 m (Nat.le_refl _)) (by omega)) (f2 m0 (Nat.le_refl _) (by omega)) (Nat.le_refl _)) fn3 (by omega)) (f4 m0 (Nat.le_refl _) (by omega)) (Nat.le_refl _)) fn6 (by omega)) (f7 m0 (Nat.le_refl _) (by omega)) (Nat.le_refl _)
  · simp only [bnd_as]
    refine Sim_c (cs_nacc hc c69) ?_
    rw [if_pos rfl, bnd_some, if_pos c69, rs_kind hw.1 hq ha (k := 4) (by decide), bndM_some]
    simp only [t01]
    unfold f_Pa_assignment
    rw [gC_tk hc, gC_at hc]
    by_cases c4 : f_Tk_kind tk (nI a) = 4
    · have hl := lt_of_kind hT (by omega) c4 (by decide)
      have c4' := c4
      rw [(tk_in hT hl).1] at c4'
      have hsg : f_Tk_sign tk (nI a) = tkW tk a := by rw [(tk_in hT hl).2.2.2.1, if_pos c4']
      rw [if_neg (show ¬ ¬ f_Tk_kind tk (nI a) = 4 from fun h => h c4), if_pos (gM_inb hq (by omega)), (gM_word hw.1 hq hl).1, ← hsg, f_isIn, bndM_some]
      by_cases c30 : f_Tk_sign tk (nI a) < 30
      · rw [if_pos c30, if_pos c30, if_pos rfl]
        exact Sim_ret (CU_PX hU' ⟨hX, Or.inl c30⟩ 0)
      · by_cases c53 : 53 < f_Tk_sign tk (nI a)
        · rw [if_neg c30, if_pos c53, if_neg c30, if_pos c53, if_pos rfl]
          exact Sim_ret (CU_PX hU' ⟨hX, Or.inr c53⟩ 0)
        · rw [if_neg c30, if_neg c53, if_neg c30, if_neg c53, if_neg n10]
          obtain ⟨z, t, es⟩ := One_hd hO
          have hasg : f_Pa_assignable st (nI L0.length) = asg co.2.2.1 (nK g n) (nV g n) := by
            rw [es] at hc
            exact cs_asg hc (by rw [← es]; omega)
          rw [hasg]
          by_cases c : asg co.2.2.1 (nK g n) (nV g n) = 0
          · rw [if_pos c, gM_at hq]
            exact Sim_rr (p := nI a) (Ref_bnd (Ref_refuse hc _)) (RefM_bnd (RefM_chg hq hn h28 (by rw [hgs]; exact c) _)) (at_ne hw.1 ha)
          · rw [if_neg c, rs_chg hq hn h28 (by rw [hgs]; exact c), bndM_some, if_pos (gM_inb hq (by omega)), (gM_word hw.1 hq hl).1, ← hsg, nI_1, nI_1, gM_at hq]
            obtain ⟨mo1, g1, e2, q1, o1, f1, d1⟩ := rs_make' hq hd (show m < 2600 by omega) 42 (f_Tk_sign tk (nI a) - 30) (nI a)
            refine Sim_m e2 ?_
            have on := One_fr hO (f1 m (Nat.le_refl _)) (Nat.le_refl _)
            obtain ⟨mo2, g2, e3, q2, o2, f2, d2⟩ := rs_hang' (gM_inc q1) (o1 m0 m0) on (Nat.le_refl _) (Nat.le_refl _) (Or.inr (Nat.le_refl _))
            refine Sim_m e3 ?_
            rw [List.nil_append] at o2
            refine Sim_bind (he tk gt co lb ge gp gq (a + 1) li g2 (m + 1) _ _ _ ⟨Wf_up hw (by omega) (by omega), gC_at' hc (Nat.le_succ a) rfl, q2, d2.trans d1⟩ (by omega) (by omega) (by omega)) ?_
            intro r st3 n3 mo3 h3
            obtain ⟨lb3, ge3, gp3, a3, li3, g3, m3, sg3, n3', rfl, w3, c3, q3, d3, fr3, fn3, o3, l1, l2, l3, l4, l5, l6, l7, xa⟩ := PX_le h3
            have o2' := Opn_fr o2 fn3 (Nat.le_succ m) (Nat.lt_succ_self m)
            obtain ⟨mo4, g4, e4, q4, o4, f4, d4⟩ := rs_hang' q3 o2' o3 (Nat.le_succ m) (by omega) (Or.inl (Nat.lt_succ_self m))
            refine Sim_m e4 ?_
            obtain ⟨st6, e6, c6⟩ := cs_wrap (pre := L0) (sg := sg ++ sg3) c3 (by simp) (by have := One_pos hO; simp; omega) (by omega) hT 42 (f_Tk_sign tk (nI a) - 30) (nI a) rfl
            refine Sim_c e6 ?_
            have hone := Opn_one o4 (Nat.le_refl _) (Nat.le_refl _) (by omega) (by omega)
            refine Sim_ret ⟨lb3, ge3, gp3, a3, li3, g4, m3, _, m, rfl, ⟨w3, c6, q4, d4.trans d3⟩, Fr_trans hF fr3 (by rw [hlb2]; exact Nat.le_refl _), ?_, hone, by omega, by simp; omega, by omega, XL_hd (by decide) (by decide) (by omega), xa⟩
            exact FrN_trans (FrN_trans (FrN_trans (FrN_trans hN (f1 m (Nat.le_refl _)) (by omega)) (f2 m0 (Nat.le_refl _) (by omega)) (Nat.le_refl _)) fn3 (by omega)) (f4 m0 (Nat.le_refl _) (by omega)) (Nat.le_refl _)
    · have s1 := tk_nosign (tk := tk) (a := a) hT (by omega) c4
      rw [if_pos c4, if_pos (show f_Tk_sign tk (nI a) < 30 by rw [s1]; decide)]
      exact Sim_ret (CU_PX hU' ⟨hX, Or.inl (by rw [s1]; decide)⟩ 0)
end PUQ
