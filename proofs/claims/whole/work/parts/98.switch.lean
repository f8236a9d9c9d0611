/-! switch -/
abbrev upB (ge : gE) (x : Int32) : gE := (ge.1, ge.2.1, ge.2.2.1, ge.2.2.2.1, ge.2.2.2.2.1, ge.2.2.2.2.2.1, x, ge.2.2.2.2.2.2.2)
abbrev upW (co : CO) (x : Int32) : CO := (co.1, co.2.1, co.2.2.1, co.2.2.2.1, x)
section PVE
variable {tk : TK} {lb lb0 : LB} {co : CO} {L L0 : List Nd} {st : ST} {gt : gT} {ge ge0 : gE} {gp gp0 : gP} {gq : gQ} {a aS : Nat} {li : Int32} {g g0 : gN} {mo : MO} {m m0 e n : Nat} {k v : Int32} {bd sg : List Nd}
variable {E : Int32 → Int32 → Int32 → ST → Rz} {S : Int32 → Int32 → ST → Rz} {F : Int32 → Int32 → ST → Rz} {K : Nat → List Int32 → MO → Rm}
theorem SN_sw (h : SN tk gt co lb0 ge0 gp0 gq aS L0 g0 m0 k v bd lb ge gp a li g m st mo) {p w : Nat} (h1 : co.2.2.2.1 = nI p) (h2 : ge.2.2.2.2.2.1 = nI p) (h3 : p + w ≤ a) : SN tk gt (upW co (nI w)) lb0 (upB ge0 (nI (p + w))) gp0 gq aS L0 g0 m0 k v bd lb (upB ge (nI (p + w))) gp a li g m (setCo st (upW co (nI w))) (s_breakables mo (nI (p + w))) := by
  obtain ⟨⟨⟨v1, v2, v3, v5, v7, v8, ⟨v10, ff, v11, v12⟩, _, v18⟩, hc, hq, hd⟩, ⟨c1, c2, c3, ⟨d1, d2, d3, d4, d5, d6, d7⟩, c5, c6⟩, b3⟩ := h
  refine ⟨⟨⟨v1, v2, v3, v5, v7, v8, ⟨v10, ff, v11, v12⟩, ⟨p, w, h1, rfl, h2, rfl, h3⟩, v18⟩, gC_setCo hc _, ?_, hd⟩, ⟨c1, c2, c3, ⟨d1, d2, d3, d4, d5, d6, rfl⟩, c5, c6⟩, b3⟩
  obtain ⟨th, rfl⟩ := hq; exact ⟨th, rfl⟩
/-- the statements of a clause -/
theorem sm_clauseL (hs : HSt (fun o st => S (nI (e + 1)) o st) (fun o mo => K 5 [nI (e + 1), o] mo) (e + 1)) (hlab : LabR co lb0 ge0) (hlb : lbn lb0 < e + 1) :
    ∀ (fu fm x : Nat) (bd : List Nd) (lb : LB) (ge : gE) (gp : gP) (a : Nat) (li : Int32) (g : gN) (m : Nat) (st : ST) (mo : MO), SN tk gt co lb0 ge0 gp0 gq aS L0 g0 m0 k v bd lb ge gp a li g m st mo → tkn tk - a < fu → tkn tk - a < fm → x ≤ a →
      Sim (f_Pa_switchStatement_L141 E S F (nI e) fu (nI x) st) (f_Mo_choice_L134 K (nI e) (nI m0) fm mo) (fun _ st' _ mo' => ∃ bd lb ge gp a' li g m, a ≤ a' ∧ SN tk gt co lb0 ge0 gp0 gq aS L0 g0 m0 k v bd lb ge gp a' li g m st' mo') := by
  intro fu
  induction fu with
  | zero => intro fm x bd lb ge gp a li g m st mo _ h; omega
  | succ fu ih =>
    intro fm x bd lb ge gp a li g m st mo hN hfu hfm hx
    have hN' := hN
    obtain ⟨⟨hw, hc, hq, hd⟩, b2, b3, b4, b5, b6, b7, b8, b9, b10, b11⟩ := hN
    have hT := hw.1.1
    have ha := hw.2.1
    obtain ⟨fm', rfl⟩ : ∃ q, fm = q + 1 := ⟨fm - 1, by omega⟩
    unfold f_Pa_switchStatement_L141 f_Mo_choice_L134 f_Pa_atClauseEnd
    rw [if_neg (x_le hx ha hT), rs_sign hw.1 hq ha (s := 65) (by decide), bndM_some, rs_word hw.1 hq ha (s := 1) (by decide) (by decide), bndM_some, rs_word hw.1 hq ha (s := 5) (by decide) (by decide), bndM_some, cu_word hc, cu_word hc, cu_sign hc, nI_1 x, nI_1 e]
    simp only [t01]
    have fin : Sim (some (.inr (0, st))) (some (.inr (0, mo))) (fun _ st' _ mo' => ∃ bd lb ge gp a' li g m, a ≤ a' ∧ SN tk gt co lb0 ge0 gp0 gq aS L0 g0 m0 k v bd lb ge gp a' li g m st' mo') := Sim_ret ⟨bd, lb, ge, gp, a, li, g, m, Nat.le_refl _, hN'⟩
    by_cases c65 : f_Tk_sign tk (nI a) = 65
    · have k4 := sign_kind hT (by omega) c65 (by decide)
      have w0 := (tk_noword hT (by omega) (show ¬ f_Tk_kind tk (nI a) = 1 by rw [k4]; decide)).1
      rw [w0, c65]
      simp only [show ¬ (-1 : Int32) = 1 by decide, show ¬ (-1 : Int32) = 5 by decide, not_true, not_false_iff, if_true, if_false, i10]
      exact fin
    · by_cases w1 : f_Tk_keyword tk (nI a) = 1
      · rw [w1]
        simp only [c65, not_true, not_false_iff, if_true, if_false, i10]
        exact fin
      · by_cases w5 : f_Tk_keyword tk (nI a) = 5
        · rw [w5]
          simp only [c65, show ¬ (5 : Int32) = 1 by decide, not_true, not_false_iff, if_true, if_false, i10]
          exact fin
        · simp only [c65, w1, w5, not_false_iff, if_true]
          refine Sim_bind (SN_S hs hN' (LabR_fr hlab b2) hlb) ?_
          rintro r st6 n mo6 ⟨lb6, ge6, gp6, a6, li6, g6, m6, sg6, n6, rfl, p6, x6, l6, l6'⟩
          obtain ⟨mo7, g7, e7, s7⟩ := PD_hang p6
          refine Sim_m e7 ?_
          refine Sim_mono (ih fm' (x + 1) _ _ _ _ _ _ _ _ _ _ s7 (by have := s7.1.1.2.1; omega) (by have := s7.1.1.2.1; omega) (by omega)) ?_
          rintro r st9 n9 mo9 ⟨z1, z2, z3, z4, a9, z6, z7, z8, h1, h2⟩
          exact ⟨z1, z2, z3, z4, a9, z6, z7, z8, by omega, h2⟩
theorem sm_choiceL (he : HC 1 2 XL (E (-1) (nI (e + 1)) 1) (K 0 [nI (e + 1), 1]) (e + 1)) (hs : HSt (fun o st => S (nI (e + 1)) o st) (fun o mo => K 5 [nI (e + 1), o] mo) (e + 1)) (hlab : LabR co lb0 ge0) (hlb : lbn lb0 < e + 1) (r0 : Int32) :
    ∀ (fu fm x : Nat) (t : Int32) (bd : List Nd) (lb : LB) (ge : gE) (gp : gP) (a : Nat) (li : Int32) (g : gN) (m : Nat) (st : ST) (mo : MO), (t = 0 ∨ t = 1) → SN tk gt co lb0 ge0 gp0 gq aS L0 g0 m0 k v bd lb ge gp a li g m st mo → tkn tk - a < fu → tkn tk - a < fm → x ≤ a →
      Sim (f_Pa_switchStatement_L70 E S F (nI e) fu t (nI x) st) (bndM (f_Mo_choice_L35 K (nI e) (nI m0) fm t mo) (fun _ se_5 => some (.inr (r0, (s_at (s_breakables se_5 ((q_breakables se_5) - 1)) ((q_at se_5) + 1)))))) (fun _ st' n' mo' => n' = r0 ∧ ∃ bd lb ge gp a li g m mo1, mo' = s_breakables mo1 (q_breakables mo1 - 1) ∧ SN tk gt co lb0 ge0 gp0 gq aS L0 g0 m0 k v bd lb ge gp a li g m st' mo1) := by
  intro fu
  induction fu with
  | zero => intro fm x t bd lb ge gp a li g m st mo _ _ h; omega
  | succ fu ih =>
    intro fm x t bd lb ge gp a li g m st mo ht hN hfu hfm hx
    have hN' := hN
    obtain ⟨⟨hw, hc, hq, hd⟩, b2, b3, b4, b5, b6, b7, b8, b9, b10, b11⟩ := hN
    have hT := hw.1.1
    have ha := hw.2.1
    obtain ⟨fm', rfl⟩ : ∃ q, fm = q + 1 := ⟨fm - 1, by omega⟩
    unfold f_Pa_switchStatement_L70 f_Mo_choice_L35
    rw [if_neg (x_le hx ha hT), rs_sign hw.1 hq ha (s := 65) (by decide), bndM_some, rs_word hw.1 hq ha (s := 1) (by decide) (by decide), bndM_some, rs_word hw.1 hq ha (s := 5) (by decide) (by decide), bndM_some, nI_1 x, nI_1 e]
    by_cases c65 : f_Tk_sign tk (nI a) = 65
    · have hl := lt_of_sign hT (by omega) c65 (by decide)
      obtain ⟨st1, e1, c1⟩ := cs_acc hc c65
      rw [e1, bnd_some, if_neg n10, if_pos c65, if_neg n10, bndM_some]
      exact Sim_ret ⟨rfl, bd, lb, ge, gp, a + 1, li, g, m, s_at mo (q_at mo + 1), rfl, SN_at hN' (Nat.le_succ _) (by omega) c1 (gM_inc hq)⟩
    · rw [cs_nacc hc c65, bnd_some, if_pos rfl, if_neg c65, if_pos rfl, cu_word hc]
      have hll : (L0 ++ (k, v, nI aS, (1 : Int32)) :: bd).length = L0.length + 1 + bd.length := by simp; omega
      -- behind the clause's head
      have tail : ∀ (kc : Int32) (t' : Int32) (bdc : List Nd) (gc : gN) (lbc : LB) (gec : gE) (gpc : gP) (ac : Nat) (lic : Int32) (mc : Nat) (stc : ST) (moc : MO), (t' = 0 ∨ t' = 1) → SN tk gt co lb ge gp gq a (L0 ++ (k, v, nI aS, 1) :: bd) g m kc 0 bdc lbc gec gpc ac lic gc mc stc moc →
          Sim (bnd (f_Cu_expect stc 70) (fun _ st_39 => (bnd (f_Pa_switchStatement_L141 E S F (nI e) 5000 0 st_39) (fun _ sx_40 => (bnd (p_close sx_40 (nI (L0 ++ (k, v, nI aS, 1) :: bd).length)) (fun _ st_42 => (f_Pa_switchStatement_L70 E S F (nI e) fu t' (nI (x + 1)) st_42)))))))
            (bndM (f_Mo_expect moc 70) (fun _ mo_62 => (bndM (f_Mo_choice_L134 K (nI e) (nI m) 5000  mo_62) (fun _ se_63 => (bndM (f_Mo_hang se_63 (nI m0) (nI m)) (fun _ mo_66 => (bndM (f_Mo_choice_L35 K (nI e) (nI m0) fm' t' mo_66) (fun _ se_5 => some (.inr (r0, (s_at (s_breakables se_5 ((q_breakables se_5) - 1)) ((q_at se_5) + 1))))))))))))
            (fun _ st' n' mo' => n' = r0 ∧ ∃ bd lb ge gp a li g m mo1, mo' = s_breakables mo1 (q_breakables mo1 - 1) ∧ SN tk gt co lb0 ge0 gp0 gq aS L0 g0 m0 k v bd lb ge gp a li g m st' mo1) := by
        intro kc t' bdc gc lbc gec gpc ac lic mc stc moc ht' hC
        refine sm_expect hw.1 hC.1.1.2.1 hC.1.2.1 hC.1.2.2.1 (by decide) ?_
        intro hl1 hs1 st2 mo2 c2 q2
        have s2 := SN_at hC (Nat.le_succ _) (by omega) c2 q2
        refine Sim_bind (sm_clauseL (E := E) (F := F) hs (LabR_fr hlab b2) (by rw [b2.1]; exact hlb) 5000 5000 0 _ _ _ _ _ _ _ _ _ _ s2 (by omega) (by omega) (by omega)) ?_
        rintro r st3 n3 mo3 ⟨bd3, lb3, ge3, gp3, a3, li3, g3, m3, l3, s3⟩
        obtain ⟨st4, e4, px⟩ := SN_close (X := fun _ _ => True) s3 trivial
        refine Sim_c e4 ?_
        obtain ⟨lb5, ge5, gp5, a5, li5, g5, m5, sg5, n5, e5, p5, _, l5, _⟩ := SN_px hN' (by rw [b2.1]; exact Nat.le_refl _) (px 0)
        rw [e5]
        obtain ⟨mo6, g6, e6, s6⟩ := PD_hang p5
        refine Sim_m e6 ?_
        exact ih fm' (x + 1) t' _ _ _ _ _ _ _ _ _ _ ht' s6 (by have := s6.1.1.2.1; omega) (by have := s6.1.1.2.1; omega) (by omega)
      have hrf : ∀ (k1 : Int32 → ST → Rz) (k2 : Int32 → MO → Rm), Sim (bnd (f_Cu_refuse st (nI a)) k1) (bndM (f_Mo_refuse mo (nI a)) k2) (fun _ st' n' mo' => n' = r0 ∧ ∃ bd lb ge gp a li g m mo1, mo' = s_breakables mo1 (q_breakables mo1 - 1) ∧ SN tk gt co lb0 ge0 gp0 gq aS L0 g0 m0 k v bd lb ge gp a li g m st' mo1) := fun k1 k2 => gC_refuse hc (at_ne hw.1 ha) rfl
      unfold f_Pa_openClause
      by_cases w1 : f_Tk_keyword tk (nI a) = 1
      · have hl := lt_of_word hT (by omega) w1 (by decide)
        obtain ⟨st1, mo1, g1, e1, e2, c1, q1, s0⟩ := SN_0 ⟨hw, hc, hq, hd⟩ hl (by omega) (by omega) (by omega) 16
        have ex : f_Cu_expectWord st1 1 = some (.inr (0, setAt st1 (sAt st1 + 1))) := by
          unfold f_Cu_expectWord; rw [gC_tk c1, gC_at c1, if_pos w1]
        rw [w1, if_neg (show ¬ (1 : Int32) = 5 by decide), if_pos rfl, gC_at hc, e1, bnd_some, ex, bnd_some, bnd_some]
        rw [if_pos (show (1 : Int32) = 1 from rfl), e2]
        simp only [i10, if_false, if_true, bndM_some]
        have body : ∀ t' : Int32, (t' = 0 ∨ t' = 1) → Sim (bnd (E (-1) (nI (e + 1)) 1 (setAt st1 (sAt st1 + 1))) (fun _ st_31 => (bnd (f_Cu_expect st_31 70) (fun _ st_32 => (bnd (f_Pa_switchStatement_L141 E S F (nI e) 5000 0 st_32) (fun _ sx_33 => (bnd (p_close sx_33 (nI (L0 ++ (k, v, nI aS, 1) :: bd).length)) (fun _ st_35 => (f_Pa_switchStatement_L70 E S F (nI e) fu t' (nI (x + 1)) st_35)))))))))
            (bndM (bndM (K 0 [nI (e + 1), 1] mo1) (fun r_28 mo_28 => (bndM (f_Mo_hang mo_28 (nI m) r_28) (fun _ mo_29 => (bndM (f_Mo_expect mo_29 70) (fun _ mo_30 => (bndM (f_Mo_choice_L134 K (nI e) (nI m) 5000  mo_30) (fun _ se_31 => (bndM (f_Mo_hang se_31 (nI m0) (nI m)) (fun _ mo_34 => (f_Mo_choice_L35 K (nI e) (nI m0) fm' t' mo_34))))))))))) (fun _ se_5 => some (.inr (r0, (s_at (s_breakables se_5 ((q_breakables se_5) - 1)) ((q_at se_5) + 1))))))
            (fun _ st' n' mo' => n' = r0 ∧ ∃ bd lb ge gp a li g m mo1, mo' = s_breakables mo1 (q_breakables mo1 - 1) ∧ SN tk gt co lb0 ge0 gp0 gq aS L0 g0 m0 k v bd lb ge gp a li g m st' mo1) := by
          intro t' ht'
          simp only [bndM_as]
          refine Sim_bind (SN_E he s0 (by rw [b2.1]; exact hlb)) ?_
          rintro r st3 n mo3 ⟨lb3, ge3, gp3, a3, li3, g3, m3, sg3, n3, rfl, p3, x3, l3, l3'⟩
          obtain ⟨mo5, g5, e5, s5⟩ := PD_hang p3
          refine Sim_m e5 ?_
          exact tail 16 t' _ _ _ _ _ _ _ _ _ _ ht' s5
        rcases ht with rfl | rfl
        · simp only [if_true]
          exact body 0 (Or.inl rfl)
        · simp only [i10, if_false]
          exact body 1 (Or.inr rfl)
      · rw [if_neg w1, if_pos rfl]
        by_cases w5 : f_Tk_keyword tk (nI a) = 5
        · have hl := lt_of_word hT (by omega) w5 (by decide)
          rw [if_pos w5, if_neg n10, if_neg n10, gC_at hc]
          rcases ht with rfl | rfl
          · obtain ⟨st1, mo1, g1, e1, e2, c1, q1, s0⟩ := SN_0 ⟨hw, hc, hq, hd⟩ hl (by omega) (by omega) (by omega) 17
            have ex : f_Cu_expectWord st1 5 = some (.inr (0, setAt st1 (sAt st1 + 1))) := by
              unfold f_Cu_expectWord; rw [gC_tk c1, gC_at c1, if_pos w5]
            rw [if_pos rfl, if_pos rfl, e1, bnd_some, ex, bnd_some, bnd_some, if_pos rfl, if_neg n10, e2, bndM_some]
            simp only [bndM_as]
            exact tail 17 1 _ _ _ _ _ _ _ _ _ _ (Or.inr rfl) s0
          · rw [if_neg n10, if_neg n10]
            simp only [bnd_as, bndM_as, gM_at hq]
            exact hrf _ _
        · rw [if_neg w5, if_pos rfl, if_pos rfl, gC_at hc]
          refine Sim_rr (p := nI a) (Ref_bnd ?_) ?_ (at_ne hw.1 ha)
          · obtain ⟨st1, e1, c1⟩ := cs_open hc (by omega) hT 16 0 (nI a)
            rw [e1, bnd_some]
            unfold f_Cu_expectWord
            rw [gC_tk c1, gC_at c1, if_neg w1]
            exact Ref_bnd (Ref_bnd (Ref_refuse c1 _))
          · rw [gM_at hq]
            exact RefM_bnd (RefM_bnd (RefM_refuse _ _))
theorem sm_switch (he : HC 1 2 XL (E (-1) (nI (e + 1)) 1) (K 0 [nI (e + 1), 1]) (e + 1)) (hs : HSt (fun o st => S (nI (e + 1)) o st) (fun o mo => K 5 [nI (e + 1), o] mo) (e + 1)) (hR : RR tk gt co lb ge gp gq a li g m L st mo) (hlab : LabR co lb ge) (hlb : lbn lb < e) (hL : L.length ≤ 2 * a + 1) (hm : m ≤ 2 * a + 1) (hkw : f_Tk_keyword tk (nI a) = 17) :
    Sim (f_Pa_switchStatement E S F st (nI e)) (f_Mo_choice K mo (nI e)) (PX 0 (lbn lb) (XS tk a) tk gt co lb ge gp gq a g m L) := by
  have hT := hR.1.1.1
  have ha := hR.1.2.1
  have hl := lt_of_word hT (by omega) hkw (by decide)
  have hk := word_kind hT (by omega) hkw (by decide)
  have hX : ∀ a' sg, XS tk a a' sg := fun _ _ => XS_of (by rw [hk]; decide)
  unfold f_Pa_switchStatement f_Mo_choice f_Mo_head
  obtain ⟨st1, mo1, g1, e1, e2, c1, q1, s0⟩ := SN_0 hR hl (by omega) (by omega) (by omega) 15
  rw [gC_at hR.2.1, e1, e2, bnd_some, bndM_some, nI_1]
  simp only [bndM_as, bndM_some]
  refine sm_expect hR.1.1 (show a + 1 ≤ tkn tk by omega) (gC_inc c1) q1 (by decide) ?_
  intro hl1 hs1 st2 mo2 c2 q2
  have s2 := SN_at s0 (Nat.le_succ _) (by omega) c2 q2
  refine Sim_bind (SN_E he s2 (by omega)) ?_
  rintro r st3 n mo3 ⟨lb3, ge3, gp3, a3, li3, g3, m3, sg3, n3, rfl, p3, x3, l3, l3'⟩
  have w3 := p3.1
  refine sm_expect w3.1.1 w3.1.2.1 w3.2.1 w3.2.2.1 (by decide) ?_
  intro hl4 hs4 st4 mo4 c4 q4
  obtain ⟨mo5, g5, e5, s5⟩ := PD_hang (PD_at p3 (Nat.le_succ _) (by omega) c4 q4)
  refine Sim_m e5 ?_
  have w5 := s5.1
  refine sm_expect w5.1.1 w5.1.2.1 w5.2.1 w5.2.2.1 (by decide) ?_
  intro hl6 hs6 st6 mo6 c6 q6
  have s6 := SN_at s5 (Nat.le_succ _) (by omega) c6 q6
  obtain ⟨p, w, x1, x2, x3', x4, x5⟩ := hR.1.2.2.2.2.2.2.2.1
  have f5 := s5.2.1.2.2.2.1
  have y3 : ge3.2.2.2.2.2.1 = nI p := f5.2.2.2.2.2.1.trans x3'
  have y4 : ge3.2.2.2.2.2.2.1 = nI (p + w) := f5.2.2.2.2.2.2.trans x4
  have eco : ((coF st6), (coL st6), (coS st6), (coP st6), ((coW st6) + 1)) = upW co (nI (w + 1)) := by
    have := gC_co c6
    show (st6.2.2.2.1.1, st6.2.2.2.1.2.1, st6.2.2.2.1.2.2.1, st6.2.2.2.1.2.2.2.1, st6.2.2.2.1.2.2.2.2 + 1) = _
    rw [show st6.2.2.2.1 = co from this, x2, nI_1]
  have ebr : q_breakables mo6 + 1 = nI (p + (w + 1)) := by
    have : q_breakables mo6 = nI (p + w) := by show mo6.2.2.2.1.2.2.2.2.2.2.1 = _; rw [gM_ge q6]; exact y4
    rw [this, nI_1]; rfl
  rw [eco, ebr]
  have s7 := SN_sw s6 (p := p) (w := w + 1) x1 y3 (by omega)
  have hlab7 : LabR (upW co (nI (w + 1))) lb (upB ge (nI (p + (w + 1)))) := hlab
  refine Sim_bindC (sm_choiceL (E := E) (F := F) he hs hlab7 (by omega) (nI m) 5000 5000 0 0 _ _ _ _ _ _ _ _ _ _ (Or.inl rfl) s7 (by omega) (by omega) (by omega)) ?_
  rintro r st8 n8 mo8 ⟨rfl, bd8, lb8, ge8, gp8, a8, li8, g8, m8, mo9, rfl, s8⟩
  have w8 := s8.1
  have eco8 : ((coF st8), (coL st8), (coS st8), (coP st8), ((coW st8) - 1)) = upW (upW co (nI (w + 1))) (nI w) := by
    have := gC_co w8.2.1
    show (st8.2.2.2.1.1, st8.2.2.2.1.2.1, st8.2.2.2.1.2.2.1, st8.2.2.2.1.2.2.2.1, st8.2.2.2.1.2.2.2.2 - 1) = _
    rw [show st8.2.2.2.1 = upW co (nI (w + 1)) from this]
    show (co.1, co.2.1, co.2.2.1, co.2.2.2.1, nI (w + 1) - 1) = _
    rw [nI_pred]
  have f8 := s8.2.1.2.2.2.1
  have ebr8 : q_breakables mo9 - 1 = nI (p + w) := by
    have : q_breakables mo9 = nI (p + (w + 1)) := by show mo9.2.2.2.1.2.2.2.2.2.2.1 = _; rw [gM_ge w8.2.2.1]; exact f8.2.2.2.2.2.2
    rw [this, ← Nat.add_assoc, nI_pred]
  rw [eco8, ebr8]
  have s9 := SN_sw s8 (p := p) (w := w) x1 (f8.2.2.2.2.2.1.trans x3') (by have := s8.2.2.2.2.2.1; omega)
  have ec : upW (upW co (nI (w + 1))) (nI w) = co := by
    show (co.1, co.2.1, co.2.2.1, co.2.2.2.1, nI w) = co
    rw [← x2]
  have eg : upB (upB ge (nI (p + (w + 1)))) (nI (p + w)) = ge := by
    show (ge.1, ge.2.1, ge.2.2.1, ge.2.2.2.1, ge.2.2.2.2.1, ge.2.2.2.2.2.1, nI (p + w), ge.2.2.2.2.2.2.2) = ge
    rw [← x4]
  rw [ec, eg] at s9
  rw [ec]
  obtain ⟨st10, e10, px⟩ := SN_close (X := XS tk a) s9 (hX _ _)
  refine Sim_c e10 ?_
  exact Sim_ret (px 0)
end PVE
