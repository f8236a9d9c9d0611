/-! one property; all of an object -/
section PWP
variable {tk : TK} {lb lb0 : LB} {co : CO} {L0 : List Nd} {st : ST} {gt : gT} {ge ge0 : gE} {gp gp0 : gP} {gq : gQ} {a mk p aO : Nat} {li : Int32} {g g0 : gN} {mo : MO} {m e : Nat} {ps : List Pt}
variable {Q : Int32 → ST → Int32 → MO → Prop}
variable {E : Int32 → Int32 → Int32 → ST → Rz} {S : Int32 → Int32 → ST → Rz} {F : Int32 → Int32 → ST → Rz} {K : Nat → List Int32 → MO → Rm}
theorem rs_pname (hR : TkR tk gt) (hq : gM gt ge gp gq a li g mo) (ha : a ≤ tkn tk) : (f_Tk_propertyName tk (nI a) = 0 → RefM (f_Mo_propertyName mo) (nI a)) ∧ (¬ f_Tk_propertyName tk (nI a) = 0 → a < tkn tk ∧ f_Mo_propertyName mo = some (.inr (f_Tk_name tk (nI a), s_at mo (q_at mo + 1)))) := by
  have hT := hR.1
  have e2 : q_at mo + 1 - 1 = q_at mo := by rw [gM_at hq, nI_1, nI_pred]
  have fin : a < tkn tk → (if inb (((q_at mo) + 1) - 1) 1001 then (some (.inr (((q_names mo) ((((q_at mo) + 1) - 1) : Int32).toNatClampNeg), (s_at mo ((q_at mo) + 1)))) : Rm) else none) = some (.inr (f_Tk_name tk (nI a), s_at mo (q_at mo + 1))) := by
    intro hl
    rw [e2, if_pos (gM_inb hq (by omega)), (gM_word hR hq hl).2.1, (tk_in hT hl).2.1]
  unfold f_Tk_propertyName f_Mo_propertyName
  rw [rs_kind hR hq ha (k := 1) (by decide), bndM_some]
  by_cases k1 : f_Tk_kind tk (nI a) = 1
  · have hl := lt_of_kind hT (by omega) k1 (by decide)
    rw [if_pos k1, if_pos k1, if_neg n10]
    exact ⟨fun h => absurd h (by decide), fun _ => ⟨hl, fin hl⟩⟩
  · rw [if_neg k1, if_neg k1, if_pos rfl, rs_kind hR hq ha (k := 2) (by decide), bndM_some]
    by_cases k2 : f_Tk_kind tk (nI a) = 2
    · have hl := lt_of_kind hT (by omega) k2 (by decide)
      rw [if_pos k2, if_pos k2, if_neg n10]
      exact ⟨fun h => absurd h (by decide), fun _ => ⟨hl, fin hl⟩⟩
    · rw [if_neg k2, if_neg k2, if_pos rfl, rs_kind hR hq ha (k := 3) (by decide), bndM_some]
      by_cases k3 : f_Tk_kind tk (nI a) = 3
      · have hl := lt_of_kind hT (by omega) k3 (by decide)
        rw [if_pos k3, if_neg n10]
        exact ⟨fun h => absurd h (by decide), fun _ => ⟨hl, fin hl⟩⟩
      · rw [if_neg k3, if_pos rfl, gM_at hq]
        exact ⟨fun _ => RefM_bnd (RefM_refuse _ _), fun h => absurd rfl h⟩
theorem Wf_gp {gp' : gP} {pr : Nat} (h : Wf tk gt co lb ge gp a) (h1 : gp'.1 = nI pr) (h2 : pr ≤ a) : Wf tk gt co lb ge gp' a := by
  obtain ⟨a1, a2, a3, a5, a7, a8, a10, a13, _⟩ := h
  exact ⟨a1, a2, a3, a5, a7, a8, a10, a13, pr, h1, h2⟩
theorem Fr_gpn {j : Nat} {x y z : Int32} (h : Fr (lbn lb0) lb0 lb ge0 ge gp0 (nI mk, gp.2)) (hmk : gp0.1 = nI mk) (hb : mk < 2 ^ 31) (hj : mk ≤ j) : Fr (lbn lb0) lb0 lb ge0 ge gp0 (nI mk, (z, upd gp.2.1 j x, upd gp.2.2 j y).2) := by
  obtain ⟨a1, a2, a3, a4, a5, a6⟩ := h
  refine ⟨a1, a2, a3, a4, a5, ?_⟩
  intro i hi hib
  have him : i < mk := by rw [hmk] at hi; exact (nI_ltI hib hb).mp hi
  obtain ⟨b1, b2⟩ := a6 i hi hib
  refine ⟨?_, ?_⟩
  · show upd gp.2.1 j x i = _
    rw [up_ne (by omega)]; exact b1
  · show upd gp.2.2 j y i = _
    rw [up_ne (by omega)]; exact b2
theorem sm_prop (he : HC 1 2 XA (E 0 (nI (e + 1)) 1) (K 1 [nI (e + 1), 1]) (e + 1)) (h8 : HC 1 2 XL (F 48 (nI e)) (fun mo => f_Mo_function K mo 48 (nI e)) e) (h9 : HC 1 2 XL (F 49 (nI e)) (fun mo => f_Mo_function K mo 49 (nI e)) e)
    (hO : OS tk gt co lb0 ge0 gp0 gq mk p aO L0 g0 ps lb ge gp a li g m st mo) (hlb : lbn lb0 < e) (b6 : L0.length ≤ 2 * aO + 2) (b7 : p ≤ 2 * aO + 2) (hmk : gp0.1 = nI mk) {k : Int32 → ST → Rz} {k' : Int32 → MO → Rm}
    (hk : ∀ st' mo' lb' ge' gp' a' li' g' m' ps', OS tk gt co lb0 ge0 gp0 gq mk p aO L0 g0 ps' lb' ge' gp' a' li' g' m' st' mo' → a < a' → Sim (k 0 st') (k' 0 mo') Q) :
    Sim (bnd (f_Pa_openProperty st (nI L0.length)) (fun r_8 st_8 => (if (f_Tr_kind (sTr st_8) r_8) = 47 then (bnd (E 0 (nI e + 1) 1 st_8) (fun _ st_12 => (bnd (p_close st_12 r_8) k))) else (bnd (F (f_Tr_kind (sTr st_8) r_8) (nI e) st_8) (fun _ st_10 => (bnd (p_close st_10 r_8) k)))))) (bndM (f_Mo_property K mo (nI p) (nI mk) (nI e)) k') Q := by
  obtain ⟨⟨hw, hc, hq, hd⟩, hP, hFr, hFN, hOp, o1, o2, o3, o4, o5⟩ := hO
  have hT := hw.1.1
  have ha := hw.2.1
  have hs3 : ge.1 = 0 ∨ ge.1 = 1 := by rw [hw.2.2.1.1]; exact hw.2.2.1.2
  have hgs : ge.1 = co.2.2.1 := hw.2.2.1.1
  have hll : (L0 ++ (46, 0, nI aO, 1) :: flatP ps).length = L0.length + 1 + (flatP ps).length := by simp; omega
  have etk := gC_tk hc
  have eat := gC_at hc
  obtain ⟨pn1, pn2⟩ := rs_pname hw.1 hq ha
  -- a property of data
  have dat : ¬ f_Tk_propertyName tk (nI a) = 0 → Sim (bnd (bnd (f_Cu_expect (setAt st (nI a + 1)) 70) (fun _ st_3 => (bnO (f_Pa_clashes st_3 (nI L0.length) 47 (f_Tk_name (sTk st_3) (nI a))) (fun v_4 => (if v_4 = 0 then (bnd (p_open st_3 47 (f_Tk_name (sTk st_3) (nI a)) (nI a)) (fun r_6 st_6 => (some (.inr (r_6, st_6))))) else (bnd (f_Cu_refuse st_3 (nI a)) (fun _ st_7 => (bnd (p_open st_7 47 (f_Tk_name (sTk st_3) (nI a)) (nI a)) (fun r_8 st_8 => (some (.inr (r_8, st_8)))))))))))) (fun r_8 st_8 => (if (f_Tr_kind (sTr st_8) r_8) = 47 then (bnd (E 0 (nI e + 1) 1 st_8) (fun _ st_12 => (bnd (p_close st_12 r_8) k))) else (bnd (F (f_Tr_kind (sTr st_8) r_8) (nI e) st_8) (fun _ st_10 => (bnd (p_close st_10 r_8) k))))))
      (bndM (f_Mo_expect (s_at mo (q_at mo + 1)) 70) (fun _ mo_4 => (bndM (f_Mo_tell mo_4 (nI mk) (f_Tk_name tk (nI a)) 0 (q_at mo)) (fun _ mo_5 => (bndM (f_Mo_make mo_5 47 (f_Tk_name tk (nI a)) (q_at mo)) (fun r_6 mo_6 => (bndM (f_Mo_hang mo_6 (nI p) r_6) (fun _ mo_7 => (bndM (K 1 [(nI e + 1), 1] mo_7) (fun r_8 mo_8 => (bndM (f_Mo_hang mo_8 r_6 r_8) (fun _ mo_9 => k' 0 mo_9)))))))))))) Q := by
    intro hpn
    obtain ⟨hl, _⟩ := pn2 hpn
    rw [bnd_as]
    refine sm_expect hw.1 (show a + 1 ≤ tkn tk by omega) (gC_at' hc (Nat.le_succ a) (nI_1 a)) (gM_inc hq) (by decide) ?_
    intro hl1 hs1 st1 mo1 c1 q1
    rw [gC_tk c1, cs_cl c1 (by omega), bnO_some, gM_at hq]
    obtain ⟨tl1, tl2⟩ := rs_tell q1 hs3 hP (by omega) 47 (f_Tk_name tk (nI a)) (Or.inl rfl) (nI a)
    have hsrt : srt 47 = 0 := rfl
    rw [hsrt] at tl1 tl2
    rw [hgs] at tl1 tl2
    by_cases hh : ∃ q ∈ ps, hit co.2.2.1 47 (f_Tk_name tk (nI a)) q
    · rw [if_pos hh, if_neg n10]
      exact Sim_rr (p := nI a) (Ref_bnd (Ref_bnd (Ref_refuse c1 _))) (RefM_bnd (tl1 hh)) (at_ne hw.1 ha)
    · rw [if_neg hh, if_pos rfl, bnd_as]
      obtain ⟨mo2, e2, q2⟩ := tl2 hh
      refine Sim_m e2 ?_
      obtain ⟨st3, e3, c3⟩ := cs_open c1 (by omega) hT 47 (f_Tk_name tk (nI a)) (nI a)
      refine Sim_c e3 ?_
      rw [bnd_some]
      obtain ⟨mo4, g4, e4, q4, on4, f4, d4⟩ := rs_make' q2 hd (show m < 2600 by omega) 47 (f_Tk_name tk (nI a)) (nI a)
      refine Sim_m e4 ?_
      have hOp4 := Opn_fr hOp (f4 m (Nat.le_refl _)) (Nat.le_refl _) o1
      obtain ⟨mo5, e5, q5⟩ := rs_hang (n := m) q4 hOp4.2.2.2.2.2 hOp4.1 (nI m)
      refine Sim_m e5 ?_
      have one0 := Opn_one (on4 (m + 1) (m + 1)) (show m ≤ m + 1 by omega) (Nat.le_refl _) (Nat.le_refl _) (Nat.lt_succ_self _)
      have dh := (Opn_hang hOp4 one0 (Nat.le_refl _) (by omega) (Or.inl o1)).2.2
      have hk47 : f_Tr_kind (sTr st3) (nI (L0 ++ (46, 0, nI aO, 1) :: flatP ps).length) = 47 := (tr_at c3 (by simp; omega)).1
      rw [hk47, if_pos rfl, nI_1]
      exact sm_pval (a := a) he (Or.inl rfl) (Wf_gp (Wf_up hw (show a ≤ a + 1 + 1 by omega) (by omega)) rfl (show mk + ps.length + 1 ≤ a + 1 + 1 by omega)) c3 q5 (dh.trans d4) hOp4 (on4 _ _) o1 (fun sg => PpR_snoc hP (by omega) 47 _ _ sg (Or.inl rfl)) (Fr_gpn hFr hmk (by omega) (by omega)) (FrN_trans hFN (f4 p (by omega)) (Nat.le_refl _)) (by omega) o2 (by omega) o3 (by omega) o5 b6 b7 hmk (fun st' mo' lb' ge' gp' a' li' g' m' sg h1 h2 => hk st' mo' lb' ge' gp' a' li' g' m' _ h1 h2)
  -- a getter or a setter
  have acc : ∀ (kk : Int32) (w : Int32), kk = 48 ∨ kk = 49 → w = srt kk → HC 1 2 XL (F kk (nI e)) (fun mo => f_Mo_function K mo kk (nI e)) e → ¬ f_Tk_propertyName tk (nI a) = 0 → ¬ f_Tk_propertyName tk (nI (a + 1)) = 0 →
      Sim (bnd (bnO (f_Pa_clashes (setAt st (nI a + 1 + 1)) (nI L0.length) kk (f_Tk_name tk (nI a + 1))) (fun v_17 => (if v_17 = 0 then (bnd (p_open (setAt st (nI a + 1 + 1)) kk (f_Tk_name tk (nI a + 1)) (nI a)) (fun r_19 st_19 => (some (.inr (r_19, st_19))))) else (bnd (f_Cu_refuse (setAt st (nI a + 1 + 1)) (nI a + 1)) (fun _ st_20 => (bnd (p_open st_20 kk (f_Tk_name tk (nI a + 1)) (nI a)) (fun r_21 st_21 => (some (.inr (r_21, st_21)))))))))) (fun r_8 st_8 => (if (f_Tr_kind (sTr st_8) r_8) = 47 then (bnd (E 0 (nI e + 1) 1 st_8) (fun _ st_12 => (bnd (p_close st_12 r_8) k))) else (bnd (F (f_Tr_kind (sTr st_8) r_8) (nI e) st_8) (fun _ st_10 => (bnd (p_close st_10 r_8) k))))))
      (bndM (f_Mo_make (s_at mo (q_at mo + 1)) kk 0 (q_at mo)) (fun r_19 mo_19 => (bndM (f_Mo_propertyName mo_19) (fun r_20 mo_20 => (if inb r_19 2600 then (bndM (f_Mo_tell (s_value mo_20 (upd (q_value mo_20) (r_19 : Int32).toNatClampNeg r_20)) (nI mk) ((upd (q_value mo_20) (r_19 : Int32).toNatClampNeg r_20) (r_19 : Int32).toNatClampNeg) w (q_at (s_at mo (q_at mo + 1)))) (fun _ mo_22 => (bndM (f_Mo_hang mo_22 (nI p) r_19) (fun _ mo_23 => (bndM (f_Mo_function K mo_23 kk (nI e)) (fun r_24 mo_24 => (bndM (f_Mo_hang mo_24 r_19 r_24) (fun _ mo_25 => k' 0 mo_25)))))))) else none))))) Q := by
    intro kk w hkk hw9 hF9 hpn hpn2
    obtain ⟨hl, _⟩ := pn2 hpn
    have hkk3 : kk = 47 ∨ kk = 48 ∨ kk = 49 := Or.inr hkk
    subst hw9
    have cA : gC tk lb co (a + 1 + 1) li (L0 ++ (46, 0, nI aO, 1) :: flatP ps) (setAt st (nI a + 1 + 1)) := gC_at' hc (by omega) (by rw [nI_1, nI_1])
    have eqa : q_at (s_at mo (q_at mo + 1)) = nI (a + 1) := gM_at (gM_inc hq)
    obtain ⟨mo4, g4, e4, q4, on4, f4, d4⟩ := rs_make' (gM_inc hq) hd (show m < 2600 by omega) kk 0 (q_at mo)
    refine Sim_m e4 ?_
    rw [gM_at hq] at on4
    obtain ⟨_, pp2⟩ := rs_pname hw.1 q4 (show a + 1 ≤ tkn tk by omega)
    obtain ⟨hl1, epn⟩ := pp2 hpn2
    rw [epn, bndM_some, if_pos (inbN (show m < 2600 by omega)), clN (show m < 2600 by omega), up_eq, eqa, nI_1]
    have q5 := gM_sv (gM_inc q4) (p := m) (f_Tk_name tk (nI (a + 1)))
    have on5 := fun lo hi => Opn_sv (f_Tk_name tk (nI (a + 1))) (on4 lo hi)
    have hOp5 : Opn (svN g4 m (f_Tk_name tk (nI (a + 1)))) p 46 0 (nI aO) (flatP ps) (p + 1) m := Opn_fr (Opn_fr hOp (f4 m (Nat.le_refl _)) (Nat.le_refl _) o1) (FrN_sv g4 m _ (Nat.le_refl _)) (Nat.le_refl _) o1
    rw [nI_1] at cA
    rw [cs_cl cA (by omega), bnO_some]
    obtain ⟨tl1, tl2⟩ := rs_tell q5 hs3 hP (by omega) kk (f_Tk_name tk (nI (a + 1))) hkk3 (nI (a + 1))
    rw [hgs] at tl1 tl2
    by_cases hh : ∃ q ∈ ps, hit co.2.2.1 kk (f_Tk_name tk (nI (a + 1))) q
    · rw [if_pos hh, if_neg n10]
      exact Sim_rr (p := nI (a + 1)) (Ref_bnd (Ref_bnd (Ref_refuse cA _))) (RefM_bnd (tl1 hh)) (at_ne hw.1 (by omega))
    · rw [if_neg hh, if_pos rfl, bnd_as]
      obtain ⟨mo6, e6, q6⟩ := tl2 hh
      refine Sim_m e6 ?_
      obtain ⟨st7, e7, c7⟩ := cs_open cA (by omega) hT kk (f_Tk_name tk (nI (a + 1))) (nI a)
      refine Sim_c e7 ?_
      rw [bnd_some]
      obtain ⟨mo8, e8, q8⟩ := rs_hang (n := m) q6 hOp5.2.2.2.2.2 hOp5.1 (nI m)
      refine Sim_m e8 ?_
      have one0 := Opn_one (on5 (m + 1) (m + 1)) (show m ≤ m + 1 by omega) (Nat.le_refl _) (Nat.le_refl _) (Nat.lt_succ_self _)
      have dh := (Opn_hang hOp5 one0 (Nat.le_refl _) (by omega) (Or.inl o1)).2.2
      have hkT : f_Tr_kind (sTr st7) (nI (L0 ++ (46, 0, nI aO, 1) :: flatP ps).length) = kk := (tr_at c7 (by simp; omega)).1
      have hk47 : ¬ kk = 47 := by rcases hkk with rfl | rfl <;> decide
      rw [hkT, if_neg hk47]
      exact sm_pval (a := a) hF9 hkk3 (Wf_gp (Wf_up hw (show a ≤ a + 1 + 1 by omega) (by omega)) rfl (show mk + ps.length + 1 ≤ a + 1 + 1 by omega)) c7 q8 (dh.trans d4) hOp5 (on5 _ _) o1 (fun sg => PpR_snoc hP (by omega) kk _ _ sg hkk3) (Fr_gpn hFr hmk (by omega) (by omega)) (FrN_trans (FrN_trans hFN (f4 p (by omega)) (Nat.le_refl _)) (FrN_sv g4 m _ (by omega)) (Nat.le_refl _)) (by omega) o2 (by omega) o3 (by omega) o5 b6 b7 hmk (fun st' mo' lb' ge' gp' a' li' g' m' sg h1 h2 => hk st' mo' lb' ge' gp' a' li' g' m' _ h1 h2)
  unfold f_Pa_openProperty f_Mo_property
  simp only [bndM_as, bndM_ite, bndM_none, bndM_some]
  rw [rs_kind hw.1 hq ha (k := 1) (by decide), bndM_some, etk, eat]
  by_cases hpn : f_Tk_propertyName tk (nI a) = 0
  · -- no name of a property
    have k1 : ¬ f_Tk_kind tk (nI a) = 1 := by
      intro k1
      unfold f_Tk_propertyName at hpn
      rw [if_pos k1] at hpn
      exact absurd hpn (by decide)
    have hpk : f_Pa_propertyKind st = 47 := by unfold f_Pa_propertyKind; rw [etk, eat, if_neg k1]
    rw [hpk, if_pos rfl, if_pos hpn]
    exact Sim_rr (p := nI a) (Ref_bnd (Ref_bnd (Ref_refuse hc _))) (RefM_bnd (pn1 hpn)) (at_ne hw.1 ha)
  · obtain ⟨hl, epn⟩ := pn2 hpn
    rw [epn, bndM_some]
    simp only [t01]
    by_cases k1 : f_Tk_kind tk (nI a) = 1
    · rw [if_neg (show ¬ ¬ f_Tk_kind tk (nI a) = 1 from fun h => h k1)]
      by_cases n2 : f_Tk_name tk (nI a) = 2
      · rw [if_pos n2, rs_sign hw.1 (gM_inc hq) (show a + 1 ≤ tkn tk by omega) (s := 70) (by decide), bndM_some]
        by_cases pa : f_Tk_propertyName tk (nI (a + 1)) = 0
        · have hpk : f_Pa_propertyKind st = 47 := by unfold f_Pa_propertyKind; rw [etk, eat, if_pos k1, nI_1, if_pos pa]
          rw [hpk, if_pos rfl, if_neg hpn]
          by_cases c70 : f_Tk_sign tk (nI (a + 1)) = 70
          · rw [if_pos c70, if_neg n10]
            exact dat hpn
          · rw [if_neg c70, if_pos rfl]
            obtain ⟨mo4, g4, e4, q4, on4, f4, d4⟩ := rs_make' (gM_inc hq) hd (show m < 2600 by omega) 48 0 (q_at mo)
            rw [e4, bndM_some]
            refine Sim_rr (p := nI (a + 1)) (Ref_bnd (Ref_bnd ?_)) (RefM_bnd ((rs_pname hw.1 q4 (show a + 1 ≤ tkn tk by omega)).1 pa)) (at_ne hw.1 (show a + 1 ≤ tkn tk by omega))
            have cB : gC tk lb co (a + 1) li (L0 ++ (46, 0, nI aO, 1) :: flatP ps) (setAt st (nI a + 1)) := gC_at' hc (by omega) (by rw [nI_1])
            unfold f_Cu_expect
            rw [gC_tk cB, gC_at cB, if_neg c70]
            exact Ref_bnd (Ref_refuse cB _)
        · have k4 : ¬ f_Tk_kind tk (nI (a + 1)) = 4 := by
            intro k4
            apply pa
            unfold f_Tk_propertyName
            rw [k4]
            rfl
          have c70 : ¬ f_Tk_sign tk (nI (a + 1)) = 70 := by rw [tk_nosign hT (by omega) k4]; decide
          have hpk : f_Pa_propertyKind st = 48 := by unfold f_Pa_propertyKind; rw [etk, eat, if_pos k1, nI_1, if_neg pa, if_pos n2]
          have hpa : ¬ f_Tk_propertyName tk (nI a + 1) = 0 := by rw [nI_1]; exact pa
          rw [if_neg c70, if_pos rfl, hpk, if_neg (show ¬ (48 : Int32) = 47 by decide), if_neg hpa]
          exact acc 48 _ (Or.inl rfl) (by rw [n2]; decide) h8 hpn pa
      · by_cases n3 : f_Tk_name tk (nI a) = 3
        · rw [if_neg n2, if_pos n3, rs_sign hw.1 (gM_inc hq) (show a + 1 ≤ tkn tk by omega) (s := 70) (by decide), bndM_some]
          by_cases pa : f_Tk_propertyName tk (nI (a + 1)) = 0
          · have hpk : f_Pa_propertyKind st = 47 := by unfold f_Pa_propertyKind; rw [etk, eat, if_pos k1, nI_1, if_pos pa]
            rw [hpk, if_pos rfl, if_neg hpn]
            by_cases c70 : f_Tk_sign tk (nI (a + 1)) = 70
            · rw [if_pos c70, if_neg n10]
              exact dat hpn
            · rw [if_neg c70, if_pos rfl]
              obtain ⟨mo4, g4, e4, q4, on4, f4, d4⟩ := rs_make' (gM_inc hq) hd (show m < 2600 by omega) 49 0 (q_at mo)
              rw [e4, bndM_some]
              refine Sim_rr (p := nI (a + 1)) (Ref_bnd (Ref_bnd ?_)) (RefM_bnd ((rs_pname hw.1 q4 (show a + 1 ≤ tkn tk by omega)).1 pa)) (at_ne hw.1 (show a + 1 ≤ tkn tk by omega))
              have cB : gC tk lb co (a + 1) li (L0 ++ (46, 0, nI aO, 1) :: flatP ps) (setAt st (nI a + 1)) := gC_at' hc (by omega) (by rw [nI_1])
              unfold f_Cu_expect
              rw [gC_tk cB, gC_at cB, if_neg c70]
              exact Ref_bnd (Ref_refuse cB _)
          · have k4 : ¬ f_Tk_kind tk (nI (a + 1)) = 4 := by
              intro k4
              apply pa
              unfold f_Tk_propertyName
              rw [k4]
              rfl
            have c70 : ¬ f_Tk_sign tk (nI (a + 1)) = 70 := by rw [tk_nosign hT (by omega) k4]; decide
            have hpk : f_Pa_propertyKind st = 49 := by unfold f_Pa_propertyKind; rw [etk, eat, if_pos k1, nI_1, if_neg pa, if_neg n2, if_pos n3]
            have hpa : ¬ f_Tk_propertyName tk (nI a + 1) = 0 := by rw [nI_1]; exact pa
            rw [if_neg c70, if_pos rfl, hpk, if_neg (show ¬ (49 : Int32) = 47 by decide), if_neg hpa]
            exact acc 49 _ (Or.inr rfl) (by rw [n3]; decide) h9 hpn pa
        · have hpk : f_Pa_propertyKind st = 47 := by
            unfold f_Pa_propertyKind
            rw [etk, eat, if_pos k1]
            split
            · rfl
            · first | rfl | rw [if_neg n2, if_neg n3]
          rw [if_neg n2, if_neg n3, hpk, if_pos rfl, if_neg hpn]
          exact dat hpn
    · rw [if_pos k1]
      have hpk : f_Pa_propertyKind st = 47 := by unfold f_Pa_propertyKind; rw [etk, eat, if_neg k1]
      rw [hpk, if_pos rfl, if_neg hpn]
      exact dat hpn
end PWP
