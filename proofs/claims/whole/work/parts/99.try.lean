/-! try -/
/-- blocks at one depth -/
def HBl (A : ST → Rz) (B : MO → Rm) (e : Nat) : Prop := ∀ tk gt co lb ge gp gq a li g m L st mo, RR tk gt co lb ge gp gq a li g m L st mo → LabR co lb ge → lbn lb < e → L.length ≤ 2 * a + 2 → m ≤ 2 * a + 2 → Sim (A st) (B mo) (PX 0 (lbn lb) (XS tk a) tk gt co lb ge gp gq a g m L)
section PVF
variable {tk : TK} {lb lb0 : LB} {co : CO} {L L0 : List Nd} {st : ST} {gt : gT} {ge ge0 : gE} {gp gp0 : gP} {gq : gQ} {a aS : Nat} {li : Int32} {g g0 : gN} {mo : MO} {m m0 e n : Nat} {k v : Int32} {bd sg : List Nd}
variable {E : Int32 → Int32 → Int32 → ST → Rz} {S : Int32 → Int32 → ST → Rz} {F : Int32 → Int32 → ST → Rz} {K : Nat → List Int32 → MO → Rm}
theorem SN_B (hb : HBl (fun st => f_Pa_block E S F st (nI (e + 1))) (K 7 [nI (e + 1)]) (e + 1)) (h : SN tk gt co lb0 ge0 gp0 gq aS L0 g0 m0 k v bd lb ge gp a li g m st mo) (hlab : LabR co lb0 ge0) (hlb : lbn lb0 < e + 1) :
    Sim (f_Pa_block E S F st (nI (e + 1))) (K 7 [nI (e + 1)] mo) (fun _ st1 n0 mo1 => ∃ lb1 ge1 gp1 a1 li1 g1 m1 sg n', n0 = nI n' ∧ PD tk gt co lb0 ge0 gp0 gq aS L0 g0 m0 k v bd sg n' lb1 ge1 gp1 a1 li1 g1 m1 st1 mo1 ∧ a < a1) := by
  have h' := h
  obtain ⟨⟨w, c, q, d⟩, b2, b3, b4, b5, b6, b7, b8, b9, b10, b11⟩ := h
  refine Sim_mono (hb tk gt co lb ge gp gq a li g m _ st mo ⟨w, c, q, d⟩ (LabR_fr hlab b2) (by rw [b2.1]; exact hlb) (by simp; omega) (by omega)) ?_
  intro r st1 n0 mo1 hp
  obtain ⟨z1, z2, z3, z4, z5, z6, z7, z8, z9, h1, h2, h3, h4, h5⟩ := SN_px h' (by rw [b2.1]; exact Nat.le_refl _) hp
  exact ⟨z1, z2, z3, z4, z5, z6, z7, z8, z9, h1, h2, h4⟩
/-- the part behind finally, and the end -/
theorem sm_fin (hb : HBl (fun st => f_Pa_block E S F st (nI (e + 1))) (K 7 [nI (e + 1)]) (e + 1)) (hlab : LabR co lb0 ge0) (hlb : lbn lb0 < e + 1) (hX : ∀ a' sg, XS tk aS a' sg) (hN : SN tk gt co lb0 ge0 gp0 gq aS L0 g0 m0 k v bd lb ge gp a li g m st mo) (hkw : f_Tk_keyword tk (nI a) = 9) :
    Sim (bnd (p_open st 22 0 (sAt st)) (fun r_18 st_18 => (bnd (f_Pa_block E S F (setAt st_18 ((sAt st_18) + 1)) (nI (e + 1))) (fun _ st_19 => (bnd (p_close st_19 r_18) (fun _ st_20 => (bnd (p_close st_20 (nI L0.length)) (fun _ st_21 => (some (.inr (0, st_21)))))))))))
      (bndM (f_Mo_plain mo 22) (fun r_25 mo_25 => (bndM (K 7 [nI (e + 1)] mo_25) (fun r_26 mo_26 => (bndM (f_Mo_hang mo_26 r_25 r_26) (fun _ mo_27 => (bndM (f_Mo_hang mo_27 (nI m0) r_25) (fun _ mo_28 => (some (.inr (nI m0, mo_28))))))))))) (PX 0 (lbn lb0) (XS tk aS) tk gt co lb0 ge0 gp0 gq aS g0 m0 L0) := by
  have hN' := hN
  obtain ⟨⟨hw, hc, hq, hd⟩, b2, b3, b4, b5, b6, b7, b8, b9, b10, b11⟩ := hN
  have hT := hw.1.1
  have ha := hw.2.1
  have hl := lt_of_word hT (by omega) hkw (by decide)
  have hll : (L0 ++ (k, v, nI aS, (1 : Int32)) :: bd).length = L0.length + 1 + bd.length := by simp; omega
  obtain ⟨st1, mo1, g1, e1, e2, c1, q1, s0⟩ := SN_0 ⟨hw, hc, hq, hd⟩ hl (by omega) (by omega) (by omega) 22
  rw [gC_at hc, e1, e2, bnd_some, bndM_some]
  refine Sim_bind (SN_B hb s0 (LabR_fr hlab b2) (by rw [b2.1]; exact hlb)) ?_
  rintro r st3 n mo3 ⟨lb3, ge3, gp3, a3, li3, g3, m3, sg3, n3, rfl, p3, l3⟩
  obtain ⟨mo4, g4, e4, s4⟩ := PD_hang p3
  refine Sim_m e4 ?_
  obtain ⟨st5, e5, px⟩ := SN_close (X := fun _ _ => True) s4 trivial
  refine Sim_c e5 ?_
  obtain ⟨lb6, ge6, gp6, a6, li6, g6, m6, sg6, n6, e6, p6, _, l6, _⟩ := SN_px hN' (by rw [b2.1]; exact Nat.le_refl _) (px 0)
  rw [e6]
  obtain ⟨mo7, g7, e7, s7⟩ := PD_hang p6
  refine Sim_m e7 ?_
  obtain ⟨st8, e8, px8⟩ := SN_close (X := XS tk aS) s7 (hX _ _)
  refine Sim_c e8 ?_
  exact Sim_ret (px8 0)
/-- behind the word catch, and the end -/
theorem sm_catch (hb : HBl (fun st => f_Pa_block E S F st (nI (e + 1))) (K 7 [nI (e + 1)]) (e + 1)) (hlab : LabR co lb0 ge0) (hlb : lbn lb0 < e + 1) (hX : ∀ a' sg, XS tk aS a' sg) (hN : SN tk gt co lb0 ge0 gp0 gq aS L0 g0 m0 k v bd lb ge gp a li g m st mo) (hkw : f_Tk_keyword tk (nI a) = 2) :
    Sim (bnd (p_open st 21 0 (sAt st)) (fun r_4 st_4 => (bnd (f_Cu_expect (setAt st_4 ((sAt st_4) + 1)) 60) (fun _ st_5 => (bnd (f_Cu_boundName st_5) (fun r_6 st_6 => (bnd (p_setValue st_6 r_4 r_6) (fun _ st_7 => (bnd (f_Cu_expect st_7 61) (fun _ st_8 => (bnd (f_Pa_block E S F st_8 (nI (e + 1))) (fun _ st_9 => (bnd (p_close st_9 r_4) (fun _ st_10 => (if (f_Cu_atWord st_10 9) = 0 then (bnd (p_close st_10 (nI L0.length)) (fun _ st_12 => (some (.inr (0, st_12))))) else (bnd (p_open st_10 22 0 (sAt st_10)) (fun r_13 st_13 => (bnd (f_Pa_block E S F (setAt st_13 ((sAt st_13) + 1)) (nI (e + 1))) (fun _ st_14 => (bnd (p_close st_14 r_13) (fun _ st_15 => (bnd (p_close st_15 (nI L0.length)) (fun _ st_16 => (some (.inr (0, st_16))))))))))))))))))))))))))
      (bndM (f_Mo_plain mo 21) (fun r_14 mo_14 => (bndM (f_Mo_expect mo_14 60) (fun _ mo_15 => (bndM (f_Mo_declared mo_15) (fun r_16 mo_16 => (if inb r_14 2600 then (if (q_loose mo_15) = 0 ∨ (q_loose mo_15) = 1 then (bndM (f_Mo_expect (s_loose (s_value mo_16 (upd (q_value mo_16) (r_14 : Int32).toNatClampNeg r_16)) (q_loose mo_15)) 61) (fun _ mo_19 => (bndM (K 7 [nI (e + 1)] mo_19) (fun r_20 mo_20 => (bndM (f_Mo_hang mo_20 r_14 r_20) (fun _ mo_21 => (bndM (f_Mo_hang mo_21 (nI m0) r_14) (fun _ mo_22 => (bndM (f_Mo_isWord mo_22 9) (fun r_23 mo_23 => (if r_23 = 0 then (some (.inr (nI m0, mo_23))) else (bndM (f_Mo_plain mo_23 22) (fun r_25 mo_25 => (bndM (K 7 [nI (e + 1)] mo_25) (fun r_26 mo_26 => (bndM (f_Mo_hang mo_26 r_25 r_26) (fun _ mo_27 => (bndM (f_Mo_hang mo_27 (nI m0) r_25) (fun _ mo_28 => (some (.inr (nI m0, mo_28)))))))))))))))))))))) else none) else none))))))) (PX 0 (lbn lb0) (XS tk aS) tk gt co lb0 ge0 gp0 gq aS g0 m0 L0) := by
  have hN' := hN
  obtain ⟨⟨hw, hc, hq, hd⟩, b2, b3, b4, b5, b6, b7, b8, b9, b10, b11⟩ := hN
  have hT := hw.1.1
  have ha := hw.2.1
  have hl := lt_of_word hT (by omega) hkw (by decide)
  have hm9 : m < 2600 := by omega
  have hlo := hw.2.2.2.2.1
  have hll : (L0 ++ (k, v, nI aS, (1 : Int32)) :: bd).length = L0.length + 1 + bd.length := by simp; omega
  obtain ⟨st1, mo1, g1, e1, e2, c1, q1, s0⟩ := SN_0 ⟨hw, hc, hq, hd⟩ hl (by omega) (by omega) (by omega) 21
  rw [gC_at hc, e1, e2, bnd_some, bndM_some]
  refine sm_expect hw.1 (show a + 1 ≤ tkn tk by omega) (gC_inc c1) q1 (by decide) ?_
  intro hl1 hs1 st2 mo2 c2 q2
  refine sm_bound hw.1 (show a + 1 + 1 ≤ tkn tk by omega) c2 q2 hw.2.2.1.1 hw.2.2.1.2 hlo ?_
  intro hl3 hk3 st3 mo3 c3 q3 _
  have elo : q_loose mo2 = ge.2.2.1 := by show mo2.2.2.2.1.2.2.1 = _; rw [gM_ge q2]
  have q3' : gM gt ge gp gq (a + 1 + 1 + 1) li g1 (s_loose mo3 ge.2.2.1) := gM_loose q3 ge.2.2.1
  have s3 := SN_at s0 (show a + 1 ≤ a + 1 + 1 + 1 by omega) (by omega) c3 q3'
  obtain ⟨st4, e4, s4⟩ := SN_sv s3 (f_Tk_name tk (nI (a + 1 + 1)))
  refine Sim_c e4 ?_
  rw [elo, if_pos (inbN hm9), if_pos hlo, clN hm9]
  refine sm_expect hw.1 (show a + 1 + 1 + 1 ≤ tkn tk by omega) s4.1.2.1 s4.1.2.2.1 (by decide) ?_
  intro hl5 hs5 st5 mo5 c5 q5
  have s5 := SN_at s4 (Nat.le_succ _) (by omega) c5 q5
  refine Sim_bind (SN_B hb s5 (LabR_fr hlab b2) (by rw [b2.1]; exact hlb)) ?_
  rintro r st6 n mo6 ⟨lb6, ge6, gp6, a6, li6, g6, m6, sg6, n6, rfl, p6, l6⟩
  obtain ⟨mo7, g7, e7, s7⟩ := PD_hang p6
  refine Sim_m e7 ?_
  obtain ⟨st8, e8, px⟩ := SN_close (X := fun _ _ => True) s7 trivial
  refine Sim_c e8 ?_
  obtain ⟨lb9, ge9, gp9, a9, li9, g9, m9, sg9, n9, e9, p9, _, l9, _⟩ := SN_px hN' (by rw [b2.1]; exact Nat.le_refl _) (px 0)
  rw [e9]
  obtain ⟨mo10, g10, e10, s10⟩ := PD_hang p9
  refine Sim_m e10 ?_
  rw [rs_word s10.1.1.1 s10.1.2.2.1 s10.1.1.2.1 (s := 9) (by decide) (by decide), bndM_some, cu_word s10.1.2.1]
  by_cases w9 : f_Tk_keyword tk (nI a9) = 9
  · rw [if_pos w9, if_neg n10, if_neg n10]
    exact sm_fin hb hlab hlb hX s10 w9
  · rw [if_neg w9, if_pos rfl, if_pos rfl]
    obtain ⟨st8, e8, px8⟩ := SN_close (X := XS tk aS) s10 (hX _ _)
    refine Sim_c e8 ?_
    exact Sim_ret (px8 0)
theorem sm_try (hb : HBl (fun st => f_Pa_block E S F st (nI (e + 1))) (K 7 [nI (e + 1)]) (e + 1)) (hR : RR tk gt co lb ge gp gq a li g m L st mo) (hlab : LabR co lb ge) (hlb : lbn lb < e) (hL : L.length ≤ 2 * a + 1) (hm : m ≤ 2 * a + 1) (hkw : f_Tk_keyword tk (nI a) = 20) :
    Sim (f_Pa_tryStatement E S F st (nI e)) (f_Mo_trial K mo (nI e)) (PX 0 (lbn lb) (XS tk a) tk gt co lb ge gp gq a g m L) := by
  have hT := hR.1.1.1
  have ha := hR.1.2.1
  have hl := lt_of_word hT (by omega) hkw (by decide)
  have hk := word_kind hT (by omega) hkw (by decide)
  have hX : ∀ a' sg, XS tk a a' sg := fun _ _ => XS_of (by rw [hk]; decide)
  unfold f_Pa_tryStatement f_Mo_trial
  obtain ⟨st1, mo1, g1, e1, e2, c1, q1, s0⟩ := SN_0 hR hl (by omega) (by omega) (by omega) 20
  rw [gC_at hR.2.1, e1, e2, bnd_some, bndM_some, nI_1]
  refine Sim_bind (SN_B hb s0 hlab (by omega)) ?_
  rintro r st3 n mo3 ⟨lb3, ge3, gp3, a3, li3, g3, m3, sg3, n3, rfl, p3, l3⟩
  obtain ⟨mo4, g4, e4, s4⟩ := PD_hang p3
  refine Sim_m e4 ?_
  have w4 := s4.1
  rw [rs_word w4.1.1 w4.2.2.1 w4.1.2.1 (s := 2) (by decide) (by decide), bndM_some, rs_word w4.1.1 w4.2.2.1 w4.1.2.1 (s := 9) (by decide) (by decide), bndM_some, cu_word w4.2.1, cu_word w4.2.1]
  by_cases w2 : f_Tk_keyword tk (nI a3) = 2
  · rw [w2]
    simp only [if_true, i10, if_false]
    rw [rs_word w4.1.1 w4.2.2.1 w4.1.2.1 (s := 2) (by decide) (by decide), bndM_some, if_pos w2]
    simp only [i10, if_false]
    exact sm_catch hb hlab (by omega) hX s4 w2
  · simp only [w2, if_false, if_true]
    by_cases w9 : f_Tk_keyword tk (nI a3) = 9
    · rw [if_pos w9]
      simp only [i10, if_false]
      rw [rs_word w4.1.1 w4.2.2.1 w4.1.2.1 (s := 2) (by decide) (by decide), bndM_some, if_neg w2, if_pos rfl, rs_word w4.1.1 w4.2.2.1 w4.1.2.1 (s := 9) (by decide) (by decide), bndM_some, if_pos w9, if_neg n10]
      exact sm_fin hb hlab (by omega) hX s4 w9
    · rw [if_neg w9, if_pos rfl, if_pos rfl, gC_at w4.2.1, gM_at w4.2.2.1]
      exact gC_refuse w4.2.1 (at_ne w4.1.1 w4.1.2.1) rfl
end PVF
