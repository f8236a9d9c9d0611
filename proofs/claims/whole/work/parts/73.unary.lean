/-! ++ and -- behind an operand, and operators ahead of one -/
def postR (r_1 : Int32) (mo_1 : MO) : Rm := (bndM (f_Mo_isSign mo_1 73) (fun r_2 mo_2 => (if r_2 = 0 then (bndM (f_Mo_isSign mo_2 74) (fun r_13 mo_13 => (if r_13 = 0 then (some (.inr (r_1, mo_13))) else (if inb (q_at mo_13) 1001 then (if ((q_lines mo_13) ((q_at mo_13) : Int32).toNatClampNeg) = 0 then (bndM (f_Mo_changed mo_13 r_1 (q_at mo_13)) (fun _ mo_17 => (if inb (q_at mo_17) 1001 then (if ((q_words mo_17) ((q_at mo_17) : Int32).toNatClampNeg) = 73 then (bndM (f_Mo_make mo_17 44 3 (q_at mo_17)) (fun r_22 mo_22 => (bndM (f_Mo_hang (s_at mo_22 ((q_at mo_22) + 1)) r_22 r_1) (fun _ mo_23 => (some (.inr (r_22, mo_23))))))) else (bndM (f_Mo_make mo_17 44 4 (q_at mo_17)) (fun r_20 mo_20 => (bndM (f_Mo_hang (s_at mo_20 ((q_at mo_20) + 1)) r_20 r_1) (fun _ mo_21 => (some (.inr (r_20, mo_21)))))))) else none))) else (some (.inr (r_1, mo_13)))) else none)))) else (if inb (q_at mo_2) 1001 then (if ((q_lines mo_2) ((q_at mo_2) : Int32).toNatClampNeg) = 0 then (bndM (f_Mo_changed mo_2 r_1 (q_at mo_2)) (fun _ mo_6 => (if inb (q_at mo_6) 1001 then (if ((q_words mo_6) ((q_at mo_6) : Int32).toNatClampNeg) = 73 then (bndM (f_Mo_make mo_6 44 3 (q_at mo_6)) (fun r_11 mo_11 => (bndM (f_Mo_hang (s_at mo_11 ((q_at mo_11) + 1)) r_11 r_1) (fun _ mo_12 => (some (.inr (r_11, mo_12))))))) else (bndM (f_Mo_make mo_6 44 4 (q_at mo_6)) (fun r_9 mo_9 => (bndM (f_Mo_hang (s_at mo_9 ((q_at mo_9) + 1)) r_9 r_1) (fun _ mo_10 => (some (.inr (r_9, mo_10)))))))) else none))) else (some (.inr (r_1, mo_2)))) else none))))
section PUU
variable {tk : TK} {lb lb0 : LB} {co : CO} {L L0 : List Nd} {st : ST} {gt : gT} {ge ge0 : gE} {gp gp0 : gP} {gq : gQ} {a a0 : Nat} {li : Int32} {g g0 : gN} {mo : MO} {m m0 e n nf : Nat} {sg : List Nd}
variable {E : Int32 → Int32 → Int32 → ST → Rz} {S : Int32 → Int32 → ST → Rz} {F : Int32 → Int32 → ST → Rz} {K : Nat → List Int32 → MO → Rm}
theorem XN_28 {a' : Nat} (hO : One g n sg m0 m) (hX : XN (tk, co) a0 a' sg) : nK g n = 28 → ¬ nV g n < 0 := by
  intro h
  obtain ⟨z, t, e⟩ := One_hd hO
  rw [h] at e
  exact hX _ _ _ _ e
theorem sm_postfix (hU : CU nf tk gt co lb0 ge0 gp0 gq a0 g0 m0 L0 lb ge gp a li g m sg n st mo) (hX : XL (tk, co) a0 a sg) : Sim (f_Pa_postfix st (nI L0.length)) (postR (nI n) mo) (PX 1 nf (XL (tk, co) a0) tk gt co lb0 ge0 gp0 gq a0 g0 m0 L0) := by
  have hU' := hU
  obtain ⟨⟨hw, hc, hq, hd⟩, hF, hN, hO, h5, h6, h7, h8, h9⟩ := hU
  have hT := hw.1.1
  have ha := hw.2.1
  have hon := One_in hO
  have hn : n < 2600 := hO.1
  have hlen : (L0 ++ sg).length = L0.length + sg.length := by simp
  have h28 := XN_28 (tk := tk) (co := co) (a0 := a0) (a' := a) hO (XL_XN hX)
  have hgs : ge.1 = co.2.2.1 := hw.2.2.1.1
  unfold f_Pa_postfix postR
  rw [rs_sign hw.1 hq ha (s := 73) (by decide), bndM_some, cu_sign hc, cu_sign hc, gC_tk hc, gC_at hc]
  simp only [t01]
  have hlns : a < tkn tk → (q_lines mo (q_at mo).toNatClampNeg = 0 ↔ f_Tk_line tk (nI a) = 0) := by
    intro hl
    rw [(gM_word hw.1 hq hl).2.2, (tk_in hT hl).2.2.1]
    rcases (hw.1.2.2 a hl).2.2.2.2.1 with e | e
    · rw [e]; decide
    · rw [e]; decide
  obtain ⟨z, t, es⟩ := One_hd hO
  have hasg : f_Pa_assignable st (nI L0.length) = asg co.2.2.1 (nK g n) (nV g n) := by
    rw [es] at hc
    exact cs_asg hc (by rw [← es]; omega)
  have wr : ∀ k : Int32, a < tkn tk → Sim (bnd (p_wrap st (nI L0.length) 44 k (nI a)) (fun _ st_9 => (some (.inr (0, (setAt st_9 ((sAt st_9) + 1))))))) (bndM (f_Mo_make mo 44 k (nI a)) (fun r_22 mo_22 => (bndM (f_Mo_hang (s_at mo_22 ((q_at mo_22) + 1)) r_22 (nI n)) (fun _ mo_23 => (some (.inr (r_22, mo_23))))))) (PX 1 nf (XL (tk, co) a0) tk gt co lb0 ge0 gp0 gq a0 g0 m0 L0) := by
    intro k hl
    obtain ⟨st1, e1, c1⟩ := cs_wrap (pre := L0) (sg := sg) hc rfl (One_pos hO) (by omega) hT 44 k (nI a) rfl
    refine Sim_c e1 ?_
    obtain ⟨mo1, g1, e2, q1, o1, f1, d1⟩ := rs_make' hq hd (show m < 2600 by omega) 44 k (nI a)
    refine Sim_m e2 ?_
    have on := One_fr hO (f1 m (Nat.le_refl _)) (Nat.le_refl _)
    obtain ⟨mo2, g2, e3, q2, o2, f2, d2⟩ := rs_hang' (gM_inc q1) (o1 m0 m0) on (Nat.le_refl _) (Nat.le_refl _) (Or.inr (Nat.le_refl _))
    refine Sim_m e3 ?_
    rw [List.nil_append] at o2
    have hone := Opn_one o2 (Nat.le_refl _) (Nat.le_succ m) (by omega) (Nat.lt_succ_self m)
    exact Sim_ret ⟨lb, ge, gp, a + 1, li, g2, m + 1, _, m, rfl, ⟨Wf_up hw (by omega) (by omega), gC_inc c1, q2, d2.trans d1⟩, hF, FrN_trans (FrN_trans hN (f1 m (Nat.le_refl _)) (by omega)) (f2 m0 (Nat.le_refl _) (by omega)) (Nat.le_refl _), hone, by omega, by simp; omega, by omega, XL_hd (by decide) (by decide) (by omega)⟩
  have wd : ∀ s : Int32, f_Tk_sign tk (nI a) = s → ¬ s = -1 → a < tkn tk → q_words mo (q_at mo).toNatClampNeg = s := by
    intro s hs hs1 hl
    rw [(gM_word hw.1 hq hl).1]
    have hk := sign_kind hT (by omega) hs hs1
    rw [(tk_in hT hl).1] at hk
    rw [(tk_in hT hl).2.2.2.1, if_pos hk] at hs
    exact hs
  by_cases c73 : f_Tk_sign tk (nI a) = 73
  · have hl := lt_of_sign hT (by omega) c73 (by decide)
    have nn : ¬ ¬ f_Tk_sign tk (nI a) = 73 := fun h => h c73
    by_cases cl : f_Tk_line tk (nI a) = 0
    · rw [if_pos cl, if_neg nn, if_neg nn, if_pos (gM_inb hq (by omega)), if_pos ((hlns hl).mpr cl), hasg]
      by_cases c : asg co.2.2.1 (nK g n) (nV g n) = 0
      · rw [if_pos c, gM_at hq]
        exact Sim_rr (p := nI a) (Ref_bnd (Ref_refuse hc _)) (RefM_bnd (RefM_chg hq hn h28 (by rw [hgs]; exact c) _)) (at_ne hw.1 ha)
      · rw [if_neg c, rs_chg hq hn h28 (by rw [hgs]; exact c), bndM_some, if_pos (gM_inb hq (by omega)), wd 73 c73 (by decide) hl, if_pos rfl, gM_at hq]
        exact wr 3 hl
    · rw [if_neg cl, if_neg nn, if_pos (gM_inb hq (by omega)), if_neg (fun h => cl ((hlns hl).mp h))]
      exact Sim_ret (CU_PX hU' hX 0)
  · by_cases c74 : f_Tk_sign tk (nI a) = 74
    · have hl := lt_of_sign hT (by omega) c74 (by decide)
      have nn : ¬ ¬ f_Tk_sign tk (nI a) = 74 := fun h => h c74
      by_cases cl : f_Tk_line tk (nI a) = 0
      · rw [if_pos cl, if_pos c73, if_neg nn, if_pos c73, rs_sign hw.1 hq ha (s := 74) (by decide), bndM_some, if_pos c74, if_neg n10, if_pos (gM_inb hq (by omega)), if_pos ((hlns hl).mpr cl), hasg]
        by_cases c : asg co.2.2.1 (nK g n) (nV g n) = 0
        · rw [if_pos c, gM_at hq]
          exact Sim_rr (p := nI a) (Ref_bnd (Ref_refuse hc _)) (RefM_bnd (RefM_chg hq hn h28 (by rw [hgs]; exact c) _)) (at_ne hw.1 ha)
        · rw [if_neg c, rs_chg hq hn h28 (by rw [hgs]; exact c), bndM_some, if_pos (gM_inb hq (by omega)), wd 74 c74 (by decide) hl, if_neg (by decide), gM_at hq]
          exact wr 4 hl
      · rw [if_neg cl, if_pos c73, rs_sign hw.1 hq ha (s := 74) (by decide), bndM_some, if_pos c74, if_neg n10, if_pos (gM_inb hq (by omega)), if_neg (fun h => cl ((hlns hl).mp h))]
        exact Sim_ret (CU_PX hU' hX 0)
    · have hr : Sim (some (.inr (0, st))) (some (.inr (nI n, mo))) (PX 1 nf (XL (tk, co) a0) tk gt co lb0 ge0 gp0 gq a0 g0 m0 L0) := Sim_ret (CU_PX hU' hX 0)
      rw [if_pos c73, rs_sign hw.1 hq ha (s := 74) (by decide), bndM_some, if_neg c74, if_pos rfl]
      split
      · first | (rw [if_pos c73, if_pos c74]; exact hr) | (rw [if_pos c74]; exact hr) | exact hr
      · exact hr
end PUU
