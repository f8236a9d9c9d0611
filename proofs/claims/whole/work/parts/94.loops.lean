/-! loops -/
def mkG (ge : gE) (o nl : Nat) : gE := (ge.1, ge.2.1, ge.2.2.1, ge.2.2.2.1, ge.2.2.2.2.1, ge.2.2.2.2.2.1, ge.2.2.2.2.2.2.1, ge.2.2.2.2.2.2.2.1, fun i => if o ≤ i ∧ i < nl then 1 else ge.2.2.2.2.2.2.2.2 i)
/-- labels from o on are marked -/
def Mkd (lb lbM : LB) (o : Nat) : Prop := lbn lbM = lbn lb ∧ (∀ i, lbN lbM i = lbN lb i) ∧ ∀ i, lbL lbM i = if o ≤ i ∧ i < lbn lb then 1 else lbL lb i
section PVB
variable {tk : TK} {lb lbM lb1 : LB} {co : CO} {L L0 : List Nd} {st : ST} {gt : gT} {ge ge1 : gE} {gp gp0 gp1 : gP} {gq : gQ} {a aS : Nat} {li : Int32} {g g0 : gN} {mo : MO} {m m0 e o : Nat} {k v : Int32} {bd : List Nd}
variable {E : Int32 → Int32 → Int32 → ST → Rz} {S : Int32 → Int32 → ST → Rz} {F : Int32 → Int32 → ST → Rz} {K : Nat → List Int32 → MO → Rm}
variable {Q : Int32 → ST → Int32 → MO → Prop}
theorem PX_base {sl nf : Nat} {X : Nat → List Nd → Prop} {r n : Int32} (hM : Mkd lb lbM o) (ho : o ≤ nf) (h : PX sl nf X tk gt co lbM (mkG ge o (lbn lb)) gp gq a g m L r st n mo) : PX sl o X tk gt co lb ge gp gq a g m L r st n mo := by
  obtain ⟨lb', ge', gp', a', li', g', m', sg, n', h1, h2, h3, h4⟩ := h
  refine ⟨lb', ge', gp', a', li', g', m', sg, n', h1, h2, ?_, h4⟩
  have hb : Fr o lb lbM ge (mkG ge o (lbn lb)) gp gp := by
    refine ⟨hM.1, fun i _ => ⟨hM.2.1 i, rfl⟩, fun i hi => ⟨?_, ?_⟩, ⟨rfl, rfl, rfl, rfl, rfl, rfl, rfl⟩, rfl, fun _ _ _ => ⟨rfl, rfl⟩⟩
    · rw [hM.2.2 i, if_neg (by omega)]
    · show (if o ≤ i ∧ i < lbn lb then (1 : Int32) else ge.2.2.2.2.2.2.2.2 i) = _
      rw [if_neg (by omega)]
  exact Fr_trans hb h3 ho
/-- the class marks -/
theorem cs_mk (hc : gC tk lb co a li L st) (h1 : lbn lb ≤ 100) (h2 : o ≤ lbn lb) : ∃ lbM, Mkd lb lbM o ∧ p_lab st (l_markAsLoops (sLb st) (nI o)) = some (.inr (0, setLb st lbM)) ∧ gC tk lbM co a li L (setLb st lbM) := by
  obtain ⟨L', e1, e2⟩ := cs_mark lb h1 h2
  refine ⟨(lbN lb, L', lbn lb), ⟨rfl, fun _ => rfl, e2⟩, ?_, gC_setLb hc _⟩
  rw [gC_lb hc, e1]
  exact if_pos h1
theorem RR_mk (hM : Mkd lb lbM o) (hR : RR tk gt co lb ge gp gq a li g m L st mo) : RR tk gt co lbM ge gp gq a li g m L (setLb st lbM) mo := by
  obtain ⟨w, c, q, d⟩ := hR
  refine ⟨?_, gC_setLb c lbM, q, d⟩
  obtain ⟨v1, v2, v3, v5, v7, ⟨v8, v9⟩, ⟨v10, ff, v11, v12⟩, v13⟩ := w
  exact ⟨v1, v2, v3, v5, v7, ⟨by rw [hM.1]; exact v8, by rw [hM.1]; exact v9⟩, ⟨v10, ff, v11, by rw [hM.1]; exact v12⟩, v13⟩
theorem sm_body (hs : HSt (fun o st => S (nI (e + 1)) o st) (fun o mo => K 5 [nI (e + 1), o] mo) (e + 1)) (hM : Mkd lb lbM o) (hwS : Wf tk gt co lb ge gp0 aS) (hlab : LabR co lb ge) (ho : o ≤ lbn lb) (hlb : lbn lb < e) (hN : SN tk gt co lbM ge gp0 gq aS L0 g0 m0 k v bd lb1 ge1 gp1 a li g m st mo) {kk : ST → Rz} {k' : Int32 → MO → Rm}
    (hk : ∀ (lb2 : LB) (ge2 : gE) (gp2 : gP) (a2 : Nat) (li2 : Int32) (g2 : gN) (m2 : Nat) (sg : List Nd) (n : Nat) (st2 : ST) (mo2 : MO), PD tk gt co lbM (mkG ge o (lbn lb)) gp0 gq aS L0 g0 m0 k v bd sg n lb2 ge2 gp2 a2 li2 g2 m2 st2 mo2 → a < a2 → Sim (kk st2) (k' (nI n) mo2) Q) :
    Sim (bnd (S (nI (e + 1)) (f_La_count (sLb st)) (setCo st ((coF st), (coL st), (coS st), ((coP st) + 1), (coW st)))) (fun _ st_6 => kk (setCo st_6 ((coF st_6), (coL st_6), (coS st_6), ((coP st_6) - 1), (coW st_6))))) (bndM (f_Mo_body K mo (nI e) (nI o)) k') Q := by
  obtain ⟨⟨hw, hc, hq, hd⟩, b2, b3, b4, b5, b6, b7, b8, b9, b10, b11⟩ := hN
  have hT := hw.1.1
  have ha := hw.2.1
  have hl1 : lbn lb1 = lbn lb := b2.1.trans hM.1
  obtain ⟨v1, v2, ⟨v3, v4⟩, ⟨v5, v6⟩, v7, ⟨v8, v9⟩, ⟨v10, ff, v11, v12⟩, ⟨pp, ww, x1, x2, x3, x4, x5⟩, pr, x6, x7⟩ := hw
  unfold f_Mo_body
  obtain ⟨mo1, L', e1, q1, hL'⟩ := rs_mark (K := K) (nl := lbn lb) (by omega) (nI e) (nI o) (lbn lb - o) 5000 o ge1 mo hq (by rw [← hl1]; exact v8) ho rfl (by omega)
  simp only [bndM_as]
  refine Sim_m e1 ?_
  have hflag : ∀ i, i < lbn lb → L' i = lbL lb1 i ∨ i < co.2.1.toNatClampNeg := by
    intro i hi
    by_cases ci : i < co.2.1.toNatClampNeg
    · exact Or.inr ci
    · left
      obtain ⟨l1, l2, l3, l4⟩ := hlab i (by omega) hi
      obtain ⟨f1, f2⟩ := b2.2.2.1 i (by rw [hM.1]; exact hi)
      rw [hL' i, f2, f1, hM.2.2 i, l2]
  have eP : coP st = nI pp := by have := gC_co hc; show st.2.2.2.1.2.2.2.1 = _; rw [show st.2.2.2.1 = co from this]; exact x1
  have eco : ((coF st), (coL st), (coS st), ((coP st) + 1), (coW st)) = (co.1, co.2.1, co.2.2.1, nI (pp + 1), co.2.2.2.2) := by
    have := gC_co hc
    rw [eP, nI_1]
    show (st.2.2.2.1.1, st.2.2.2.1.2.1, st.2.2.2.1.2.2.1, nI (pp + 1), st.2.2.2.1.2.2.2.2) = _
    rw [show st.2.2.2.1 = co from this]
  rw [eco, la_c hc]
  have eql : q_labels mo1 = nI (lbn lb1) := by show mo1.2.2.2.1.2.2.2.1 = _; rw [gM_ge q1]; exact v8
  have elo : q_loops mo1 = nI pp := by show mo1.2.2.2.1.2.2.2.2.2.1 = _; rw [gM_ge q1]; exact x3
  have ebr : q_breakables mo1 = nI (pp + ww) := by show mo1.2.2.2.1.2.2.2.2.2.2.1 = _; rw [gM_ge q1]; exact x4
  rw [eql, elo, ebr, nI_1, nI_1, nI_1]
  have c2 := gC_setCo hc (co.1, co.2.1, co.2.2.1, nI (pp + 1), co.2.2.2.2)
  have q2 : gM gt (ge1.1, ge1.2.1, ge1.2.2.1, ge1.2.2.2.1, ge1.2.2.2.2.1, nI (pp + 1), nI (pp + ww + 1), ge1.2.2.2.2.2.2.2.1, L') gp1 gq a li g (s_breakables (s_loops mo1 (nI (pp + 1))) (nI (pp + ww + 1))) := by obtain ⟨th, rfl⟩ := q1; exact ⟨th, rfl⟩
  have hpw : pp + ww + 1 ≤ a := by
    obtain ⟨p', w', y1, y2, y3, y4, y5⟩ := hwS.2.2.2.2.2.2.2.1
    have haS := hwS.2.1
    have h1 : pp = p' := (nI_eq (by omega) (by omega)).mp (x1.symm.trans y1)
    have h2 : ww = w' := (nI_eq (by omega) (by omega)).mp (x2.symm.trans y2)
    omega
  have hw2 : Wf tk gt (co.1, co.2.1, co.2.2.1, nI (pp + 1), co.2.2.2.2) lb1 (ge1.1, ge1.2.1, ge1.2.2.1, ge1.2.2.2.1, ge1.2.2.2.2.1, nI (pp + 1), nI (pp + ww + 1), ge1.2.2.2.2.2.2.2.1, L') gp1 a := ⟨v1, v2, ⟨v3, v4⟩, ⟨v5, v6⟩, v7, ⟨v8, v9⟩, ⟨v10, ff, v11, v12⟩, ⟨pp + 1, ww, rfl, x2, rfl, (by rw [Nat.add_right_comm]), by omega⟩, pr, x6, x7⟩
  have hlab2 : LabR (co.1, co.2.1, co.2.2.1, nI (pp + 1), co.2.2.2.2) lb1 (ge1.1, ge1.2.1, ge1.2.2.1, ge1.2.2.2.1, ge1.2.2.2.2.1, nI (pp + 1), nI (pp + ww + 1), ge1.2.2.2.2.2.2.2.1, L') := by
    intro i h1 h2
    have h1' : co.2.1.toNatClampNeg ≤ i := h1
    have h2' : i < lbn lb := by rw [← hl1]; exact h2
    obtain ⟨l1, l2, l3, l4⟩ := hlab i h1' h2'
    obtain ⟨n1, n2⟩ := b2.2.1 i (by rw [hM.1]; exact h2')
    obtain ⟨f1, f2⟩ := b2.2.2.1 i (by rw [hM.1]; exact h2')
    refine ⟨?_, ?_, ?_, ?_⟩
    · show lbN lb1 i = ge1.2.2.2.2.2.2.2.1 i
      rw [n1, n2, hM.2.1 i]; exact l1
    · exact ((hflag i h2').resolve_right (by omega)).symm
    · show lbL lb1 i = 0 ∨ lbL lb1 i = 1
      rw [f1, hM.2.2 i]
      split
      · exact Or.inr rfl
      · exact l3
    · intro j h3 h4 h5
      have h4' : j < lbn lb := by rw [← hl1]; exact h4
      have n3 := (b2.2.1 j (by rw [hM.1]; exact h4')).1
      have h6 : lbN lb1 i = lbN lb1 j := h5
      rw [n1, n3, hM.2.1 i, hM.2.1 j] at h6
      exact l4 j h3 h4' h6
  refine Sim_bind (hs tk gt _ lb1 _ gp1 gq a li g m _ _ _ (lbn lb1) ⟨hw2, c2, q2, hd⟩ hlab2 (Nat.le_refl _) (by omega) (by simp; omega) (by omega)) ?_
  intro r st3 n3 mo3 h3
  obtain ⟨lb3, ge3, gp3, a3, li3, g3, m3, sg, n3', rfl, w3, c3, q3, d3, fr3, fn3, o3, l1, l2, l3, l4, l5, l6, l7, _⟩ := PX_le h3
  have eP3 : coP st3 = nI (pp + 1) := by have := gC_co c3; show st3.2.2.2.1.2.2.2.1 = _; rw [show st3.2.2.2.1 = _ from this]
  have eco3 : ((coF st3), (coL st3), (coS st3), ((coP st3) - 1), (coW st3)) = co := by
    have := gC_co c3
    rw [eP3, nI_pred]
    show (st3.2.2.2.1.1, st3.2.2.2.1.2.1, st3.2.2.2.1.2.2.1, nI pp, st3.2.2.2.1.2.2.2.2) = _
    rw [show st3.2.2.2.1 = (co.1, co.2.1, co.2.2.1, nI (pp + 1), co.2.2.2.2) from this, ← x1]
  rw [eco3, bndM_some]
  obtain ⟨z1, z2, z3, ⟨u1, u2, u3, u4, u5, u6, u7⟩, z5, z6⟩ := fr3
  have elo3 : q_loops mo3 - 1 = nI pp := by
    have : q_loops mo3 = nI (pp + 1) := by show mo3.2.2.2.1.2.2.2.2.2.1 = _; rw [gM_ge q3]; exact u6
    rw [this, nI_pred]
  have ebr3 : q_breakables mo3 - 1 = nI (pp + ww) := by
    have : q_breakables mo3 = nI (pp + ww + 1) := by show mo3.2.2.2.1.2.2.2.2.2.2.1 = _; rw [gM_ge q3]; exact u7
    rw [this, nI_pred]
  rw [elo3, ebr3]
  have q4 : gM gt (ge3.1, ge3.2.1, ge3.2.2.1, ge3.2.2.2.1, ge3.2.2.2.2.1, nI pp, nI (pp + ww), ge3.2.2.2.2.2.2.2) gp3 gq a3 li3 g3 (s_breakables (s_loops mo3 (nI pp)) (nI (pp + ww))) := by obtain ⟨th, rfl⟩ := q3; exact ⟨th, rfl⟩
  have hFr : Fr (lbn lbM) lbM lb3 (mkG ge o (lbn lb)) (ge3.1, ge3.2.1, ge3.2.2.1, ge3.2.2.2.1, ge3.2.2.2.2.1, nI pp, nI (pp + ww), ge3.2.2.2.2.2.2.2) gp0 gp3 := by
    obtain ⟨t1, t2, t3, ⟨s1, s2, s3, s4, s5, s6, s7⟩, t5, t6⟩ := b2
    refine ⟨z1.trans t1, ?_, ?_, ⟨u1.trans s1, u2.trans s2, u3.trans s3, u4.trans s4, u5.trans s5, ?_, ?_⟩, z5.trans t5, ?_⟩
    · intro i hi
      obtain ⟨y1, y2⟩ := z2 i (by rw [hl1, ← hM.1]; exact hi)
      obtain ⟨y3, y4⟩ := t2 i hi
      exact ⟨y1.trans y3, y2.trans y4⟩
    · intro i hi
      obtain ⟨y1, y2⟩ := z3 i (by rw [hl1, ← hM.1]; exact hi)
      obtain ⟨y3, y4⟩ := t3 i hi
      refine ⟨y1.trans y3, y2.trans ?_⟩
      show L' i = if o ≤ i ∧ i < lbn lb then 1 else ge.2.2.2.2.2.2.2.2 i
      rw [hL' i, y4]
    · show nI pp = ge.2.2.2.2.2.1
      rw [← s6]; exact x3.symm
    · show nI (pp + ww) = ge.2.2.2.2.2.2.1
      rw [← s7]; exact x4.symm
    · intro i hi hib
      obtain ⟨y1, y2⟩ := z6 i (by rw [t5]; exact hi) hib
      obtain ⟨y3, y4⟩ := t6 i hi hib
      exact ⟨y1.trans y3, y2.trans y4⟩
  have hw4 : Wf tk gt co lb3 (ge3.1, ge3.2.1, ge3.2.2.1, ge3.2.2.2.1, ge3.2.2.2.2.1, nI pp, nI (pp + ww), ge3.2.2.2.2.2.2.2) gp3 a3 := by
    obtain ⟨r1, r2, r3, r5, r7, r8, ⟨r10, r11⟩, _, r13⟩ := w3
    exact ⟨r1, r2, r3, r5, r7, r8, ⟨r10, r11⟩, ⟨pp, ww, x1, x2, rfl, rfl, by omega⟩, r13⟩
  refine hk lb3 _ gp3 a3 li3 g3 m3 sg n3' _ _ ⟨⟨hw4, ?_, q4, d3⟩, hFr, FrN_trans b3 fn3 (by omega), ⟨m, Opn_fr b4 fn3 (Nat.le_refl _) b5, o3, b5⟩, by omega, by omega, by omega, b9, b10, by omega⟩ l1
  have c4 := gC_setCo c3 co
  rw [List.append_assoc] at c4
  exact c4
/-- while -/
theorem sm_while (he : HC 1 2 XL (E (-1) (nI (e + 1)) 1) (K 0 [nI (e + 1), 1]) (e + 1)) (hs : HSt (fun o st => S (nI (e + 1)) o st) (fun o mo => K 5 [nI (e + 1), o] mo) (e + 1)) (hR : RR tk gt co lb ge gp gq a li g m L st mo) (hlab : LabR co lb ge) (ho : o ≤ lbn lb) (hlb : lbn lb < e) (hL : L.length ≤ 2 * a + 1) (hm : m ≤ 2 * a + 1) (hkw : f_Tk_keyword tk (nI a) = 24) :
    Sim (f_Pa_whileStatement E S F st (nI e) (nI o)) (f_Mo_whileLoop K mo (nI e) (nI o)) (PX 0 o (XS tk a) tk gt co lb ge gp gq a g m L) := by
  have hT := hR.1.1.1
  have ha := hR.1.2.1
  have hl := lt_of_word hT (by omega) hkw (by decide)
  have hk := word_kind hT (by omega) hkw (by decide)
  have hX : ∀ a' sg, XS tk a a' sg := fun _ _ => XS_of (by rw [hk]; decide)
  have h100 := hR.1.2.2.2.2.2.1.2
  obtain ⟨lbM, hM, e0, _⟩ := cs_mk hR.2.1 h100 ho
  have hR1 := RR_mk hM hR
  unfold f_Pa_whileStatement f_Mo_whileLoop f_Mo_head
  refine Sim_c e0 ?_
  obtain ⟨st1, mo1, g1, e1, e2, c1, q1, s0⟩ := SN_0 hR1 hl (by omega) (by omega) (by omega) 8
  rw [gC_at hR1.2.1, e1, e2, bnd_some, bndM_some, nI_1]
  simp only [bndM_as, bndM_some]
  refine sm_expect hR.1.1 (show a + 1 ≤ tkn tk by omega) (gC_inc c1) q1 (by decide) ?_
  intro hl1 hs1 st2 mo2 c2 q2
  have s2 := SN_at s0 (Nat.le_succ _) (by omega) c2 q2
  refine Sim_bind (SN_E he s2 (by rw [hM.1]; omega)) ?_
  rintro r st3 n mo3 ⟨lb3, ge3, gp3, a3, li3, g3, m3, sg3, n3, rfl, p3, x3, l3, l3'⟩
  have w3 := p3.1
  refine sm_expect w3.1.1 w3.1.2.1 w3.2.1 w3.2.2.1 (by decide) ?_
  intro hl4 hs4 st4 mo4 c4 q4
  obtain ⟨mo5, g5, e5, s5⟩ := PD_hang (PD_at p3 (Nat.le_succ _) (by omega) c4 q4)
  refine Sim_m e5 ?_
  refine sm_body (kk := fun s => bnd (p_close s (nI L.length)) (fun _ st_7 => (some (.inr (0, st_7))))) hs hM hR.1 hlab ho hlb s5 ?_
  intro lb6 ge6 gp6 a6 li6 g6 m6 sg6 n6 st6 mo6 p6 l6
  obtain ⟨mo7, g7, e7, s7⟩ := PD_hang p6
  refine Sim_m e7 ?_
  obtain ⟨st11, e11, px⟩ := SN_close (X := XS tk a) s7 (hX _ _)
  refine Sim_c e11 ?_
  exact Sim_ret (PX_base hM (by rw [hM.1]; exact ho) (px 0))
/-- do -/
theorem sm_do (he : HC 1 2 XL (E (-1) (nI (e + 1)) 1) (K 0 [nI (e + 1), 1]) (e + 1)) (hs : HSt (fun o st => S (nI (e + 1)) o st) (fun o mo => K 5 [nI (e + 1), o] mo) (e + 1)) (hR : RR tk gt co lb ge gp gq a li g m L st mo) (hlab : LabR co lb ge) (ho : o ≤ lbn lb) (hlb : lbn lb < e) (hL : L.length ≤ 2 * a + 1) (hm : m ≤ 2 * a + 1) (hkw : f_Tk_keyword tk (nI a) = 7) :
    Sim (f_Pa_doStatement E S F st (nI e) (nI o)) (f_Mo_doLoop K mo (nI e) (nI o)) (PX 0 o (XS tk a) tk gt co lb ge gp gq a g m L) := by
  have hT := hR.1.1.1
  have ha := hR.1.2.1
  have hl := lt_of_word hT (by omega) hkw (by decide)
  have hk := word_kind hT (by omega) hkw (by decide)
  have hX : ∀ a' sg, XS tk a a' sg := fun _ _ => XS_of (by rw [hk]; decide)
  have h100 := hR.1.2.2.2.2.2.1.2
  obtain ⟨lbM, hM, e0, _⟩ := cs_mk hR.2.1 h100 ho
  have hR1 := RR_mk hM hR
  unfold f_Pa_doStatement f_Mo_doLoop
  refine Sim_c e0 ?_
  obtain ⟨st1, mo1, g1, e1, e2, c1, q1, s0⟩ := SN_0 hR1 hl (by omega) (by omega) (by omega) 7
  rw [gC_at hR1.2.1, e1, e2, bnd_some, bndM_some, nI_1 e]
  refine sm_body (st := setAt st1 (sAt st1 + 1)) (kk := fun s => (bnd (f_Cu_expectWord s 24) (fun _ st_4 => (bnd (f_Cu_expect st_4 60) (fun _ st_5 => (bnd (E (-1) (nI (e + 1)) 1 st_5) (fun _ st_6 => (bnd (f_Cu_expect st_6 61) (fun _ st_7 => (bnd (f_Cu_semicolon st_7) (fun _ st_8 => (bnd (p_close st_8 (nI L.length)) (fun _ st_9 => (some (.inr (0, st_9)))))))))))))))) hs hM hR.1 hlab ho hlb s0 ?_
  intro lb6 ge6 gp6 a6 li6 g6 m6 sg6 n6 st6 mo6 p6 l6
  obtain ⟨mo7, g7, e7, s7⟩ := PD_hang p6
  refine Sim_m e7 ?_
  have w7 := s7.1
  rw [rs_word w7.1.1 w7.2.2.1 w7.1.2.1 (s := 24) (by decide) (by decide), bndM_some]
  by_cases c24 : f_Tk_keyword tk (nI a6) = 24
  · have hl8 := lt_of_word hT (by have := w7.1.2.1; omega) c24 (by decide)
    have ew : f_Cu_expectWord st6 24 = some (.inr (0, setAt st6 (sAt st6 + 1))) := by
      unfold f_Cu_expectWord; rw [gC_tk w7.2.1, gC_at w7.2.1, if_pos c24]
    rw [if_pos c24, if_neg n10]
    refine Sim_c ew ?_
    unfold f_Mo_head
    simp only [bndM_as, bndM_some]
    refine sm_expect w7.1.1 (show a6 + 1 ≤ tkn tk by omega) (gC_inc w7.2.1) (gM_inc w7.2.2.1) (by decide) ?_
    intro hl9 hs9 st9 mo9 c9 q9
    have s9 := SN_at s7 (show a6 ≤ a6 + 1 + 1 by omega) (by omega) c9 q9
    rw [nI_1 e]
    refine Sim_bind (SN_E he s9 (by rw [hM.1]; omega)) ?_
    rintro r st10 n mo10 ⟨lb10, ge10, gp10, a10, li10, g10, m10, sg10, n10', rfl, p10, x10, l10, l10'⟩
    have w10 := p10.1
    refine sm_expect w10.1.1 w10.1.2.1 w10.2.1 w10.2.2.1 (by decide) ?_
    intro hl11 hs11 st11 mo11 c11 q11
    obtain ⟨mo12, g12, e12, s12⟩ := PD_hang (PD_at p10 (Nat.le_succ _) (by omega) c11 q11)
    refine Sim_m e12 ?_
    have w12 := s12.1
    refine sm_semi w12.1.1 w12.1.2.1 w12.2.1 w12.2.2.1 ?_
    intro a13 st13 mo13 _ h1 h2 c13 q13
    obtain ⟨st14, e14, px⟩ := SN_close (X := XS tk a) (SN_at s12 h1 h2 c13 q13) (hX _ _)
    refine Sim_c e14 ?_
    exact Sim_ret (PX_base hM (by rw [hM.1]; exact ho) (px 0))
  · rw [if_neg c24, if_pos rfl, gM_at w7.2.2.1]
    refine Sim_rr (p := nI a6) (Ref_bnd ?_) (RefM_bnd (RefM_refuse _ _)) (at_ne w7.1.1 w7.1.2.1)
    unfold f_Cu_expectWord
    rw [gC_tk w7.2.1, gC_at w7.2.1, if_neg c24]
    exact Ref_bnd (Ref_refuse w7.2.1 _)
end PVB
