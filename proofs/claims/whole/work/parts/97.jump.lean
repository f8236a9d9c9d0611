/-! break and continue -/
section PVD
variable {tk : TK} {lb lb0 : LB} {co : CO} {L L0 : List Nd} {st : ST} {gt : gT} {ge ge0 : gE} {gp gp0 : gP} {gq : gQ} {a aS : Nat} {li : Int32} {g g0 : gN} {mo : MO} {m m0 e n : Nat} {k v : Int32} {bd sg : List Nd}
theorem SN_sv (h : SN tk gt co lb0 ge0 gp0 gq aS L0 g0 m0 k v bd lb ge gp a li g m st mo) (x : Int32) : ∃ st1, p_setValue st (nI L0.length) x = some (.inr (0, st1)) ∧ SN tk gt co lb0 ge0 gp0 gq aS L0 g0 m0 k x bd lb ge gp a li (svN g m0 x) m st1 (s_value mo (upd (q_value mo) m0 x)) := by
  obtain ⟨⟨hw, hc, hq, hd⟩, b2, b3, b4, b5, b6, b7, b8, b9, b10, b11⟩ := h
  have hT := hw.1.1
  have ha := hw.2.1
  have hll : (L0 ++ (k, v, nI aS, (1 : Int32)) :: bd).length = L0.length + 1 + bd.length := by simp; omega
  obtain ⟨st1, e1, c1⟩ := cs_setV (pre := L0) (k := k) (v := v) (w := nI aS) (z := 1) (x := x) (bd := bd) hc rfl (by omega) rfl
  exact ⟨st1, e1, ⟨hw, c1, gM_sv hq x, hd⟩, b2, FrN_trans b3 (FrN_sv g m0 x (Nat.le_refl _)) (Nat.le_refl _), Opn_sv x b4, b5, b6, b7, b8, b9, b10, b11⟩
theorem sm_jump (hR : RR tk gt co lb ge gp gq a li g m L st mo) (hlab : LabR co lb ge) (hL : L.length ≤ 2 * a + 1) (hm : m ≤ 2 * a + 1) (hl : a < tkn tk) (hk1 : f_Tk_kind tk (nI a) = 1) {kd : Int32} (hkd : kd = 11 ∨ kd = 12) :
    Sim (f_Pa_jump st kd) (f_Mo_leave mo kd) (PX 0 (lbn lb) (XS tk a) tk gt co lb ge gp gq a g m L) := by
  have hw := hR.1
  have hT := hR.1.1.1
  have ha := hR.1.2.1
  have hs3 : ge.1 = 0 ∨ ge.1 = 1 := by rw [hw.2.2.1.1]; exact hw.2.2.1.2
  have hgs : ge.1 = co.2.2.1 := hw.2.2.1.1
  have hX : ∀ a' sg, XS tk a a' sg := fun _ _ => XS_of (by rw [hk1]; decide)
  obtain ⟨st1, mo1, g1, e1, e2, c1, q1, s0⟩ := SN_0 hR hl (by omega) (by omega) (by omega) kd
  obtain ⟨v1, v2, v3, v5, v7, ⟨v8, v9⟩, ⟨v10, ff, v11, v12⟩, ⟨pp, ww, x1, x2, x3, x4, x5⟩, v18⟩ := hw
  have hpp : (nI pp = 0) = (pp = 0) := propext (nI_eq (a := pp) (b := 0) (by omega) (by omega))
  have hww : (nI ww = 0) = (ww = 0) := propext (nI_eq (a := ww) (b := 0) (by omega) (by omega))
  have hpw : (nI (pp + ww) = 0) = (pp + ww = 0) := propext (nI_eq (a := pp + ww) (b := 0) (by omega) (by omega))
  have c1' := gC_inc c1
  have eP : coP st1 = nI pp := by have := gC_co c1; show st1.2.2.2.1.2.2.2.1 = _; rw [show st1.2.2.2.1 = co from this]; exact x1
  have eW : coW st1 = nI ww := by have := gC_co c1; show st1.2.2.2.1.2.2.2.2 = _; rw [show st1.2.2.2.1 = co from this]; exact x2
  have eL : coL st1 = nI ff := by have := gC_co c1; show st1.2.2.2.1.2.1 = _; rw [show st1.2.2.2.1 = co from this]; exact v11
  have elo : q_loops mo1 = nI pp := by show mo1.2.2.2.1.2.2.2.2.2.1 = _; rw [gM_ge q1]; exact x3
  have ebr : q_breakables mo1 = nI (pp + ww) := by show mo1.2.2.2.1.2.2.2.2.2.2.1 = _; rw [gM_ge q1]; exact x4
  have eow : q_ownLabels mo1 = nI ff := by show mo1.2.2.2.1.2.2.2.2.1 = _; rw [gM_ge q1, v10, v11]
  have est : q_strict mo1 = co.2.2.1 := by show mo1.2.2.2.1.1 = _; rw [gM_ge q1]; exact hgs
  have hm9 : m < 2600 := by omega
  have esp : q_spot mo1 (nI m).toNatClampNeg = nI a := by rw [clN hm9]; show mo1.2.1.2.2.1 m = _; rw [gM_g q1]; exact s0.2.2.2.1.2.2.2.1
  have hfl : co.2.1.toNatClampNeg = ff := by rw [v11, nI_clamp (by omega)]
  unfold f_Pa_jump f_Mo_leave
  rw [gC_at hR.2.1, e1, e2, bnd_some, bndM_some, cu_id c1', gC_tk c1, gC_at c1, gC_lb c1, nI_1 a, rs_kind v1 q1 (show a + 1 ≤ tkn tk by omega) (k := 1) (by decide), bndM_some, eP, eW, eL]
  rw [gC_at c1, nI_1 a] at c1'
  simp only [t01]
  -- the jump without a name
  have semi : Sim (bnd (f_Cu_semicolon (setAt st1 (nI (a + 1)))) (fun _ st_4 => (some (.inr (0, st_4))))) (bndM (f_Mo_semicolon mo1) (fun _ mo_6 => (some (.inr (nI m, mo_6))))) (PX 0 (lbn lb) (XS tk a) tk gt co lb ge gp gq a g m L) := by
    refine sm_semi v1 (show a + 1 ≤ tkn tk by omega) c1' q1 ?_
    intro a3 st3 mo3 _ h1 h2 c3 q3
    exact Sim_ret (SN_leaf (SN_at s0 h1 h2 c3 q3) (hX _ _) 0)
  have plain : Sim (if nI pp = 0 then (if kd = 11 then (bnd (f_Cu_refuse (setAt st1 (nI (a + 1))) (nI a)) (fun _ st_6 => (bnd (f_Cu_semicolon st_6) (fun _ st_7 => (some (.inr (0, st_7))))))) else (if nI ww = 0 then (bnd (f_Cu_refuse (setAt st1 (nI (a + 1))) (nI a)) (fun _ st_10 => (bnd (f_Cu_semicolon st_10) (fun _ st_11 => (some (.inr (0, st_11))))))) else (bnd (f_Cu_semicolon (setAt st1 (nI (a + 1)))) (fun _ st_9 => (some (.inr (0, st_9))))))) else (bnd (f_Cu_semicolon (setAt st1 (nI (a + 1)))) (fun _ st_4 => (some (.inr (0, st_4))))))
      (if kd = 12 then (if (q_breakables mo1) = 0 then (if inb (nI m) 2600 then (bndM (f_Mo_refuse mo1 ((q_spot mo1) (nI m : Int32).toNatClampNeg)) (fun _ mo_13 => (bndM (f_Mo_semicolon mo_13) (fun _ mo_14 => (some (.inr (nI m, mo_14))))))) else none) else (bndM (f_Mo_semicolon mo1) (fun _ mo_11 => (some (.inr (nI m, mo_11)))))) else (if (q_loops mo1) = 0 then (if inb (nI m) 2600 then (bndM (f_Mo_refuse mo1 ((q_spot mo1) (nI m : Int32).toNatClampNeg)) (fun _ mo_8 => (bndM (f_Mo_semicolon mo_8) (fun _ mo_9 => (some (.inr (nI m, mo_9))))))) else none) else (bndM (f_Mo_semicolon mo1) (fun _ mo_6 => (some (.inr (nI m, mo_6))))))) (PX 0 (lbn lb) (XS tk a) tk gt co lb ge gp gq a g m L) := by
    rw [ebr, elo, if_pos (inbN hm9), esp]
    simp only [hpp, hww, hpw]
    have rf : ∀ (k1 : Int32 → ST → Rz) (k2 : Int32 → MO → Rm), Sim (bnd (f_Cu_refuse (setAt st1 (nI (a + 1))) (nI a)) k1) (bndM (f_Mo_refuse mo1 (nI a)) k2) (PX 0 (lbn lb) (XS tk a) tk gt co lb ge gp gq a g m L) := fun k1 k2 => gC_refuse c1' (at_ne v1 ha) rfl
    rcases hkd with rfl | rfl
    · rw [if_neg (show ¬ (11 : Int32) = 12 by decide), if_pos rfl]
      by_cases p0 : pp = 0
      · rw [if_pos p0, if_pos p0]; exact rf _ _
      · rw [if_neg p0, if_neg p0]; exact semi
    · rw [if_pos rfl, if_neg (show ¬ (12 : Int32) = 11 by decide)]
      by_cases p0 : pp = 0
      · by_cases w0 : ww = 0
        · rw [if_pos p0, if_pos w0, if_pos (show pp + ww = 0 by omega)]; exact rf _ _
        · rw [if_pos p0, if_neg w0, if_neg (show ¬ pp + ww = 0 by omega)]; exact semi
      · rw [if_neg p0, if_neg (show ¬ pp + ww = 0 by omega)]; exact semi
  by_cases hi : f_Tk_identifier tk (nI (a + 1)) co.2.2.1 = 0
  · rw [if_pos hi]
    by_cases k1 : f_Tk_kind tk (nI (a + 1)) = 1
    · have hl1 := lt_of_kind hT (by omega) k1 (by decide)
      have eln : q_lines mo1 (q_at mo1).toNatClampNeg = tkL tk (a + 1) := (gM_word v1 q1 hl1).2.2
      rw [if_neg (show ¬ ¬ f_Tk_kind tk (nI (a + 1)) = 1 from fun h => h k1), if_pos (gM_inb q1 (by omega)), eln, est, rs_res v1 q1 k1 (by omega) v3.2, bndM_some, if_pos hi, if_neg n10]
      by_cases l0 : tkL tk (a + 1) = 0
      · rw [if_pos l0]; exact plain
      · rw [if_neg l0]; exact plain
    · rw [if_pos k1]
      exact plain
  · rw [if_neg hi]
    obtain ⟨hl1, k1⟩ := id_kind v1 (show a + 1 ≤ tkn tk by omega) hi
    have eln : q_lines mo1 (q_at mo1).toNatClampNeg = tkL tk (a + 1) := (gM_word v1 q1 hl1).2.2
    have h01 := (v1.2.2 (a + 1) hl1).2.2.2.2.1
    rw [if_neg (show ¬ ¬ f_Tk_kind tk (nI (a + 1)) = 1 from fun h => h k1), if_pos (gM_inb q1 (by omega)), eln, est, rs_res v1 q1 k1 (by omega) v3.2, bndM_some, if_neg hi, if_pos rfl, (tk_in hT hl1).2.2.1]
    by_cases l0 : tkL tk (a + 1) = 0
    · rw [l0, if_neg (show ¬ (0 : Int32) = 1 by decide), if_pos rfl, if_pos rfl]
      obtain ⟨_, r, t1, t2, t3⟩ := rs_leaveL v9 v1 q1 hl1 v8 kd (lbn lb - ff) 5000 ff v12 rfl (by omega)
      rw [eow, t1, bndM_some]
      have go : Sim (bnd (p_setValue (setAt st1 (nI (a + 1))) (nI L.length) (f_Tk_name tk (nI (a + 1)) + 1)) (fun _ st_28 => (bnd (f_Cu_semicolon (setAt st_28 ((sAt st_28) + 1))) (fun _ st_29 => (some (.inr (0, st_29))))))) (if inb (q_at mo1) 1001 then (if inb (nI m) 2600 then (bndM (f_Mo_semicolon (s_at (s_value mo1 (upd (q_value mo1) (nI m : Int32).toNatClampNeg (((q_names mo1) ((q_at mo1) : Int32).toNatClampNeg) + 1))) ((q_at mo1) + 1))) (fun _ mo_46 => (some (.inr (nI m, mo_46))))) else none) else none) (PX 0 (lbn lb) (XS tk a) tk gt co lb ge gp gq a g m L) := by
        have s1 : SN tk gt co lb ge gp gq a L g m kd 0 [] lb ge gp (a + 1) li g1 (m + 1) (setAt st1 (nI (a + 1))) mo1 := SN_at s0 (Nat.le_refl _) (by omega) c1' q1
        obtain ⟨st2, e3, s2⟩ := SN_sv s1 (f_Tk_name tk (nI (a + 1)) + 1)
        have enm : q_names mo1 (q_at mo1).toNatClampNeg = f_Tk_name tk (nI (a + 1)) := by rw [(gM_word v1 q1 hl1).2.1, (tk_in hT hl1).2.1]
        rw [if_pos (gM_inb q1 (by omega)), if_pos (inbN hm9), clN hm9, enm]
        refine Sim_c e3 ?_
        have c3 := gC_inc s2.1.2.1
        have q3 := gM_inc s2.1.2.2.1
        refine sm_semi v1 (show a + 1 + 1 ≤ tkn tk by omega) c3 q3 ?_
        intro a4 st4 mo4 _ h1 h2 c4 q4
        exact Sim_ret (SN_leaf (SN_at s2 (show a + 1 ≤ a4 by omega) h2 c4 q4) (hX _ _) 0)
      have rf : ∀ (k1 : Int32 → ST → Rz) (k2 : Int32 → MO → Rm), Sim (bnd (f_Cu_refuse (setAt st1 (nI (a + 1))) (nI (a + 1))) k1) (bndM (f_Mo_refuse mo1 (q_at mo1)) k2) (PX 0 (lbn lb) (XS tk a) tk gt co lb ge gp gq a g m L) := fun k1 k2 => gC_refuse c1' (at_ne v1 (show a + 1 ≤ tkn tk by omega)) (gM_at q1)
      rcases cs_find lb (f_Tk_name tk (nI (a + 1))) v9 v12 with ⟨i, i1, i2, i3, i4⟩ | ⟨i1, i2⟩
      · have hne : ¬ nI i = -1 := m1_ne i (by omega)
        obtain ⟨l1, l2, l3, l4⟩ := hlab i (by omega) i2
        rw [i4, bnO_some]
        simp only [hne, if_false]
        have eol : f_La_ofLoop lb (nI i) = if lbL lb i = 0 then 0 else 1 := by
          unfold f_La_ofLoop
          rw [if_neg (nI_pos (by omega)), if_neg (nI_ge i2 (by omega)), nI_clamp (by omega)]
        rw [eol]
        rcases hkd with rfl | rfl
        · rw [if_neg (show ¬ (11 : Int32) = 12 by decide)]
          by_cases z0 : lbL lb i = 0
          · rw [if_pos z0, if_pos rfl]
            have hr0 : r = 0 := by
              rcases t2 with h | h
              · exact h
              · exfalso
                obtain ⟨j, j1, j2, j3, j4⟩ := t3.mp h
                have hj := hlab j (by omega) j2
                have : i = j := l4 j (by omega) j2 (by rw [i3, hj.1]; exact j3.symm)
                subst this
                rcases j4 with h9 | h9
                · exact absurd h9 (by decide)
                · exact h9 (by rw [← l2]; exact z0)
            rw [if_pos hr0]
            exact rf _ _
          · rw [if_neg z0, if_neg n10]
            have hr1 : r = 1 := t3.mpr ⟨i, i1, i2, by rw [← l1]; exact i3, Or.inr (by rw [← l2]; exact z0)⟩
            rw [if_neg (by rw [hr1]; exact n10)]
            exact go
        · rw [if_pos rfl]
          have hr1 : r = 1 := t3.mpr ⟨i, i1, i2, by rw [← l1]; exact i3, Or.inl rfl⟩
          rw [if_neg (by rw [hr1]; exact n10)]
          exact go
      · have hr0 : r = 0 := by
          rcases t2 with h | h
          · exact h
          · exfalso
            obtain ⟨j, j1, j2, j3, j4⟩ := t3.mp h
            have hj := hlab j (by omega) j2
            exact i1 j j1 j2 (by rw [hj.1]; exact j3)
        rw [i2, bnO_some, if_pos hr0]
        have eol : f_La_ofLoop lb (-1) = 0 := if_pos (by decide)
        rw [eol]
        rcases hkd with rfl | rfl
        · rw [if_neg (show ¬ (11 : Int32) = 12 by decide), if_pos rfl, if_pos rfl]
          exact rf _ _
        · rw [if_pos rfl, if_pos rfl]
          exact rf _ _
    · have l1 := h01.resolve_left l0
      rw [if_pos l1, if_neg n10, if_neg l0]
      exact plain
end PVD
