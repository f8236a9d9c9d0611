/-! for, the whole of it -/
def fBo (S : Int32 → Int32 → ST → Rz) (d made : Int32) (st : ST) : Rz := bnd (S d (f_La_count (sLb st)) (setCo st ((coF st), (coL st), (coS st), ((coP st) + 1), (coW st)))) (fun _ st_9 => (bnd (p_close (setCo st_9 ((coF st_9), (coL st_9), (coS st_9), ((coP st_9) - 1), (coW st_9))) made) (fun _ st_10 => (some (.inr (0, st_10))))))
def fR2 (E : Int32 → Int32 → Int32 → ST → Rz) (S : Int32 → Int32 → ST → Rz) (d made : Int32) (st : ST) : Rz := if f_Cu_atSign st 61 = 0 then bnd (E (-1) d 1 st) (fun _ st_7 => bnd (f_Cu_expect st_7 61) (fun _ st_8 => fBo S d made st_8)) else bnd (p_open st 59 0 (sAt st)) (fun _ st_11 => bnd (f_Cu_expect st_11 61) (fun _ st_12 => fBo S d made st_12))
def fR1 (E : Int32 → Int32 → Int32 → ST → Rz) (S : Int32 → Int32 → ST → Rz) (d made : Int32) (st : ST) : Rz := if f_Cu_atSign st 67 = 0 then bnd (E (-1) d 1 st) (fun _ st_7 => bnd (f_Cu_expect st_7 67) (fun _ st_8 => fR2 E S d made st_8)) else bnd (p_open st 59 0 (sAt st)) (fun _ st_11 => bnd (f_Cu_expect st_11 67) (fun _ st_12 => fR2 E S d made st_12))
def fIn (E : Int32 → Int32 → Int32 → ST → Rz) (S : Int32 → Int32 → ST → Rz) (d made : Int32) (st : ST) : Rz := bnd (p_setKind st made 10) (fun _ st_28 => bnd (E (-1) d 1 (setAt st_28 ((sAt st_28) + 1))) (fun _ st_29 => bnd (f_Cu_expect st_29 61) (fun _ st_30 => fBo S d made st_30)))
theorem fRest_eq (E : Int32 → Int32 → Int32 → ST → Rz) (S : Int32 → Int32 → ST → Rz) (F : Int32 → Int32 → ST → Rz) (st : ST) (made depth : Int32) : f_Pa_forRest E S F st made depth = (if f_Cu_atWord st 13 = 0 then bnd (f_Cu_expect st 67) (fun _ s => fR1 E S (depth + 1) made s) else bnd (f_Pa_mayTakeKeys st (made + 1)) (fun r s => if r = 0 then bnd (f_Cu_refuse s (sAt s)) (fun _ s2 => fIn E S (depth + 1) made s2) else fIn E S (depth + 1) made s)) := rfl
/-- the other's part of it -/
def fmT (K : Nat → List Int32 → MO → Rm) (d own r_1 : Int32) (mo : MO) : Rm := bndM (f_Mo_expect mo 67) (fun _ mo_13 => bndM (f_Mo_part K mo_13 r_1 d 67) (fun _ mo_14 => bndM (f_Mo_part K mo_14 r_1 d 61) (fun _ mo_15 => bndM (f_Mo_body K mo_15 d own) (fun r_16 mo_16 => bndM (f_Mo_hang mo_16 r_1 r_16) (fun _ mo_17 => some (.inr (r_1, mo_17)))))))
def fmI (K : Nat → List Int32 → MO → Rm) (d own r_1 : Int32) (mo : MO) : Rm := if inb r_1 2600 then bndM (K 0 [(d + 1), 1] (s_at (s_kind mo (upd (q_kind mo) (r_1 : Int32).toNatClampNeg 10)) ((q_at mo) + 1))) (fun r_19 mo_19 => bndM (f_Mo_hang mo_19 r_1 r_19) (fun _ mo_20 => bndM (f_Mo_expect mo_20 61) (fun _ mo_21 => bndM (f_Mo_body K mo_21 d own) (fun r_22 mo_22 => bndM (f_Mo_hang mo_22 r_1 r_22) (fun _ mo_23 => some (.inr (r_1, mo_23))))))) else none
theorem fLoop_eq (K : Nat → List Int32 → MO → Rm) (mo : MO) (d own : Int32) : f_Mo_forLoop K mo d own = bndM (f_Mo_plain mo 9) (fun r_1 mo_1 => bndM (f_Mo_expect mo_1 60) (fun _ mo_2 => bndM (f_Mo_isWord mo_2 22) (fun r_3 mo_3 => if r_3 = 0 then
    bndM (f_Mo_isSign mo_3 67) (fun r_5 mo_5 => if r_5 = 0 then bndM (K 0 [(d + 1), 0] mo_5) (fun r_7 mo_7 => bndM (f_Mo_hang mo_7 r_1 r_7) (fun _ mo_8 => bndM (f_Mo_isWord mo_8 13) (fun r_9 mo_9 => if r_9 = 0 then bndM (f_Mo_isWord mo_9 13) (fun r_11 mo_11 => if r_11 = 0 then fmT K d own r_1 mo_11 else fmI K d own r_1 mo_11) else bndM (f_Mo_changed mo_9 r_7 (q_at mo_9)) (fun _ mo_24 => bndM (f_Mo_isWord mo_24 13) (fun r_25 mo_25 => if r_25 = 0 then fmT K d own r_1 mo_25 else fmI K d own r_1 mo_25)))))
      else bndM (f_Mo_none mo_5 r_1) (fun _ mo_38 => fmT K d own r_1 mo_38))
    else bndM (f_Mo_plain mo_3 2) (fun r_44 mo_44 => bndM (f_Mo_declarations K mo_44 r_44 d 0) (fun r_45 mo_45 => if r_45 = 1 then bndM (f_Mo_hang mo_45 r_1 r_44) (fun _ mo_53 => bndM (f_Mo_isWord mo_53 13) (fun r_54 mo_54 => if r_54 = 0 then fmT K d own r_1 mo_54 else fmI K d own r_1 mo_54)) else bndM (f_Mo_hang mo_45 r_1 r_44) (fun _ mo_47 => fmT K d own r_1 mo_47)))))) := rfl
section PVD
variable {tk : TK} {lb lbM lb1 : LB} {co : CO} {L : List Nd} {st : ST} {gt : gT} {ge ge1 : gE} {gp gp1 : gP} {gq : gQ} {a aS : Nat} {li : Int32} {g g0 : gN} {mo : MO} {m m0 e o : Nat} {k : Int32} {bd : List Nd}
variable {E : Int32 → Int32 → Int32 → ST → Rz} {S : Int32 → Int32 → ST → Rz} {F : Int32 → Int32 → ST → Rz} {K : Nat → List Int32 → MO → Rm}
theorem sm_fBo (hs : HSt (fun o st => S (nI (e + 1)) o st) (fun o mo => K 5 [nI (e + 1), o] mo) (e + 1)) (hM : Mkd lb lbM o) (hwS : Wf tk gt co lb ge gp aS) (hlab : LabR co lb ge) (ho : o ≤ lbn lb) (hlb : lbn lb < e) (hk : ¬ f_Tk_kind tk (nI aS) = 3) (hN : SN tk gt co lbM ge gp gq aS L g0 m0 k 0 bd lb1 ge1 gp1 a li g m st mo) :
    Sim (fBo S (nI (e + 1)) (nI L.length) st) (bndM (f_Mo_body K mo (nI e) (nI o)) (fun r_16 mo_16 => bndM (f_Mo_hang mo_16 (nI m0) r_16) (fun _ mo_17 => some (.inr (nI m0, mo_17))))) (PX 0 o (XS tk aS) tk gt co lb ge gp gq aS g0 m0 L) := by
  unfold fBo
  refine sm_body (kk := fun s => bnd (p_close s (nI L.length)) (fun _ st_7 => (some (.inr (0, st_7))))) hs hM hwS hlab ho hlb hN ?_
  intro lb6 ge6 gp6 a6 li6 g6 m6 sg6 n6 st6 mo6 p6 l6
  obtain ⟨mo7, g7, e7, s7⟩ := PD_hang p6
  refine Sim_m e7 ?_
  obtain ⟨st11, e11, px⟩ := SN_close (X := XS tk aS) s7 (XS_of hk)
  refine Sim_c e11 ?_
  exact Sim_ret (PX_base hM (by rw [hM.1]; exact ho) (px 0))
/-- one of the two parts behind the first semicolon -/
theorem sm_part (he : HC 1 2 XL (E (-1) (nI (e + 1)) 1) (K 0 [nI (e + 1), 1]) (e + 1)) (hlb : lbn lbM < e + 1) {s : Int32} (hs1 : ¬ s = -1) (hN : SN tk gt co lbM ge gp gq aS L g0 m0 k 0 bd lb1 ge1 gp1 a li g m st mo) {kk : ST → Rz} {k' : MO → Rm} {Q : Int32 → ST → Int32 → MO → Prop}
    (hk : ∀ (bd2 : List Nd) (lb2 : LB) (ge2 : gE) (gp2 : gP) (a2 : Nat) (li2 : Int32) (g2 : gN) (m2 : Nat) (st2 : ST) (mo2 : MO), SN tk gt co lbM ge gp gq aS L g0 m0 k 0 bd2 lb2 ge2 gp2 a2 li2 g2 m2 st2 mo2 → Sim (kk st2) (k' mo2) Q) :
    Sim (if f_Cu_atSign st s = 0 then bnd (E (-1) (nI (e + 1)) 1 st) (fun _ st_7 => bnd (f_Cu_expect st_7 s) (fun _ st_8 => kk st_8)) else bnd (p_open st 59 0 (sAt st)) (fun _ st_11 => bnd (f_Cu_expect st_11 s) (fun _ st_12 => kk st_12))) (bndM (f_Mo_part K mo (nI m0) (nI e) s) (fun _ mo_14 => k' mo_14)) Q := by
  have hN' := hN
  obtain ⟨⟨hw, hc, hq, hd⟩, _⟩ := hN
  have hT := hw.1.1
  unfold f_Mo_part
  rw [cu_sign hc, rs_sign hw.1 hq hw.2.1 hs1, bndM_some, nI_1 e]
  by_cases c : f_Tk_sign tk (nI a) = s
  · rw [if_pos c, if_neg n10, if_neg n10]
    obtain ⟨st1, mo1, g1, e1, e2, c1, q1, ex, ey, s1⟩ := SN_none hN' c hs1
    rw [e1, e2, bnd_some, bndM_some, ex, ey, bnd_some, bndM_some, bndM_some]
    exact hk _ _ _ _ _ _ _ _ _ _ s1
  · rw [if_neg c, if_pos rfl, if_pos rfl]
    simp only [bndM_as, bndM_some]
    refine Sim_bind (SN_E he hN' hlb) ?_
    rintro r st3 n mo3 ⟨lb3, ge3, gp3, a3, li3, g3, m3, sg3, n3, rfl, p3, x3, l3, l3'⟩
    obtain ⟨mo5, g5, e5, s5⟩ := PD_hang p3
    refine Sim_m e5 ?_
    have w5 := s5.1
    refine sm_expect w5.1.1 w5.1.2.1 w5.2.1 w5.2.2.1 hs1 ?_
    intro hl4 hs4 st4 mo4 c4 q4
    exact hk _ _ _ _ _ _ _ _ _ _ (SN_at s5 (Nat.le_succ _) (by omega) c4 q4)
theorem sm_fmT (he : HC 1 2 XL (E (-1) (nI (e + 1)) 1) (K 0 [nI (e + 1), 1]) (e + 1)) (hs : HSt (fun o st => S (nI (e + 1)) o st) (fun o mo => K 5 [nI (e + 1), o] mo) (e + 1)) (hM : Mkd lb lbM o) (hwS : Wf tk gt co lb ge gp aS) (hlab : LabR co lb ge) (ho : o ≤ lbn lb) (hlb : lbn lb < e) (hk : ¬ f_Tk_kind tk (nI aS) = 3) (hN : SN tk gt co lbM ge gp gq aS L g0 m0 k 0 bd lb1 ge1 gp1 a li g m st mo) :
    Sim (bnd (f_Cu_expect st 67) (fun _ s => fR1 E S (nI (e + 1)) (nI L.length) s)) (fmT K (nI e) (nI o) (nI m0) mo) (PX 0 o (XS tk aS) tk gt co lb ge gp gq aS g0 m0 L) := by
  have w := hN.1
  unfold fmT
  refine sm_expect w.1.1 w.1.2.1 w.2.1 w.2.2.1 (by decide) ?_
  intro hl1 hs1 st1 mo1 c1 q1
  have s1 := SN_at hN (Nat.le_succ _) (by omega) c1 q1
  unfold fR1
  refine sm_part he (by rw [hM.1]; omega) (by decide) s1 ?_
  intro bd2 lb2 ge2 gp2 a2 li2 g2 m2 st2 mo2 s2
  unfold fR2
  refine sm_part he (by rw [hM.1]; omega) (by decide) s2 ?_
  intro bd3 lb3 ge3 gp3 a3 li3 g3 m3 st3 mo3 s3
  exact sm_fBo hs hM hwS hlab ho hlb hk s3
theorem sm_fmI (he : HC 1 2 XL (E (-1) (nI (e + 1)) 1) (K 0 [nI (e + 1), 1]) (e + 1)) (hs : HSt (fun o st => S (nI (e + 1)) o st) (fun o mo => K 5 [nI (e + 1), o] mo) (e + 1)) (hM : Mkd lb lbM o) (hwS : Wf tk gt co lb ge gp aS) (hlab : LabR co lb ge) (ho : o ≤ lbn lb) (hlb : lbn lb < e) (hk : ¬ f_Tk_kind tk (nI aS) = 3) (hl : a < tkn tk) (hN : SN tk gt co lbM ge gp gq aS L g0 m0 k 0 bd lb1 ge1 gp1 a li g m st mo) :
    Sim (fIn E S (nI (e + 1)) (nI L.length) st) (fmI K (nI e) (nI o) (nI m0) mo) (PX 0 o (XS tk aS) tk gt co lb ge gp gq aS g0 m0 L) := by
  have hm0 : m0 < 2600 := hN.2.2.2.1.2.2.2.2.2
  obtain ⟨st1, e1, s1⟩ := SN_sk hN 10
  unfold fIn fmI
  rw [if_pos (inbN hm0), clN hm0, nI_1 e]
  refine Sim_c e1 ?_
  have w1 := s1.1
  have eat : q_at mo = q_at (s_kind mo (upd (q_kind mo) m0 10)) := rfl
  rw [eat]
  have s2 := SN_at s1 (Nat.le_succ _) (by omega) (gC_inc w1.2.1) (gM_inc w1.2.2.1)
  refine Sim_bind (SN_E he s2 (by rw [hM.1]; omega)) ?_
  rintro r st3 n mo3 ⟨lb3, ge3, gp3, a3, li3, g3, m3, sg3, n3, rfl, p3, x3, l3, l3'⟩
  obtain ⟨mo5, g5, e5, s5⟩ := PD_hang p3
  refine Sim_m e5 ?_
  have w5 := s5.1
  refine sm_expect w5.1.1 w5.1.2.1 w5.2.1 w5.2.2.1 (by decide) ?_
  intro hl4 hs4 st4 mo4 c4 q4
  exact sm_fBo hs hM hwS hlab ho hlb hk (SN_at s5 (Nat.le_succ _) (by omega) c4 q4)
theorem sm_for (he : HC 1 2 XL (E (-1) (nI (e + 1)) 1) (K 0 [nI (e + 1), 1]) (e + 1)) (he0 : HC 1 2 XL (E (-1) (nI (e + 1)) 0) (K 0 [nI (e + 1), 0]) (e + 1)) (hv0 : HC 1 2 XA (E 0 (nI (e + 1)) 0) (K 1 [nI (e + 1), 0]) (e + 1)) (hs : HSt (fun o st => S (nI (e + 1)) o st) (fun o mo => K 5 [nI (e + 1), o] mo) (e + 1)) (hR : RR tk gt co lb ge gp gq a li g m L st mo) (hlab : LabR co lb ge) (ho : o ≤ lbn lb) (hlb : lbn lb < e) (hL : L.length ≤ 2 * a + 1) (hm : m ≤ 2 * a + 1) (hkw : f_Tk_keyword tk (nI a) = 10) :
    Sim (bnd (f_Pa_openFor st (nI o)) (fun r_15 st_15 => (if (f_Cu_atWord st_15 22) = 0 then (bnd (f_Pa_forInitial E S F st_15 (nI e)) (fun _ st_17 => (bnd (f_Pa_forRest E S F st_17 r_15 (nI e)) (fun _ st_18 => (some (.inr (0, st_18))))))) else (bnd (f_Pa_variables E S F st_15 (nI e) 0) (fun _ st_19 => (bnd (f_Pa_forRest E S F st_19 r_15 (nI e)) (fun _ st_20 => (some (.inr (0, st_20)))))))))) (f_Mo_forLoop K mo (nI e) (nI o)) (PX 0 o (XS tk a) tk gt co lb ge gp gq a g m L) := by
  have hT := hR.1.1.1
  have ha := hR.1.2.1
  have hl := lt_of_word hT (by omega) hkw (by decide)
  have hk1 := word_kind hT (by omega) hkw (by decide)
  have hk : ¬ f_Tk_kind tk (nI a) = 3 := by rw [hk1]; decide
  have h100 := hR.1.2.2.2.2.2.1.2
  obtain ⟨lbM, hM, e0, _⟩ := cs_mk hR.2.1 h100 ho
  have hR1 := RR_mk hM hR
  unfold f_Pa_openFor
  rw [fLoop_eq]
  simp only [bnd_as]
  refine Sim_c e0 ?_
  obtain ⟨st1, mo1, g1, e1, e2, c1, q1, s0⟩ := SN_0 hR1 hl (by omega) (by omega) (by omega) 9
  rw [gC_at hR1.2.1, e1, e2, bnd_some, bndM_some]
  refine sm_expect hR.1.1 (show a + 1 ≤ tkn tk by omega) (gC_inc c1) q1 (by decide) ?_
  intro hl1 hs1 st2 mo2 c2 q2
  have s2 := SN_at s0 (Nat.le_succ _) (by omega) c2 q2
  have w2 := s2.1
  rw [bnd_some, cu_word c2, rs_word w2.1.1 q2 w2.1.2.1 (s := 22) (by decide) (by decide), bndM_some, nI_1 e]
  have hret : ∀ (x : Rz) (y : Rm), Sim x y (PX 0 o (XS tk a) tk gt co lb ge gp gq a g m L) → Sim (bnd x (fun _ st_18 => (some (.inr (0, st_18))))) y (PX 0 o (XS tk a) tk gt co lb ge gp gq a g m L) := fun x y h => Sim_bindC h (fun _ _ _ _ h => Sim_ret h)
  have ll : ∀ {bd lb3 ge3 gp3 a3 li3 g3 m3 st3 mo3}, SN tk gt co lbM ge gp gq a L g m 9 0 bd lb3 ge3 gp3 a3 li3 g3 m3 st3 mo3 → (L ++ (9, 0, nI a, (1 : Int32)) :: bd).length < 3000 := by
    intro bd lb3 ge3 gp3 a3 li3 g3 m3 st3 mo3 h
    have h1 := h.1.1.2.1
    have h2 := h.2.2.2.2.2.2.2.2.2.2
    simp
    omega
  by_cases c22 : f_Tk_keyword tk (nI (a + 1 + 1)) = 22
  · -- with declarations
    rw [if_pos c22, if_neg n10, if_neg n10]
    have hl3 := lt_of_word hT (by omega) c22 (by decide)
    have em : ∀ (f : Int32 → Int32 → MO → Rm), (bndM (f_Mo_plain mo2 2) (fun r_44 mo_44 => bndM (f_Mo_declarations K mo_44 r_44 (nI e) 0) (fun r_45 mo_45 => f r_44 r_45 mo_45))) = (bndM (f_Mo_plain mo2 2) (fun r_44 mo_44 => bndM (f_Mo_declarations K mo_44 r_44 (nI e) 0) (fun r_45 mo_45 => f (nI (m + 1)) r_45 mo_45))) := by
      intro f
      obtain ⟨mo9, g9, e9, _⟩ := rs_plain q2 w2.2.2.2 (show m + 1 < 2600 by omega) 2
      rw [e9, bndM_some, bndM_some]
    rw [em (fun r_44 r_45 mo_45 => if r_45 = 1 then bndM (f_Mo_hang mo_45 (nI m) r_44) (fun _ mo_53 => bndM (f_Mo_isWord mo_53 13) (fun r_54 mo_54 => if r_54 = 0 then fmT K (nI e) (nI o) (nI m) mo_54 else fmI K (nI e) (nI o) (nI m) mo_54)) else bndM (f_Mo_hang mo_45 (nI m) r_44) (fun _ mo_47 => fmT K (nI e) (nI o) (nI m) mo_47))]
    refine sm_vars hv0 w2 (by rw [hM.1]; omega) (by simp; omega) (by omega) c22 ?_
    intro ds lb3 ge3 gp3 a3 li3 g3 m3 st3 st4 mo3 _ px
    obtain ⟨lb4, ge4, gp4, a4, li4, g4, m4, sg, n4, en4, p4, x4, l4, l4'⟩ := SN_px s2 (Nat.le_refl _) (px 0)
    have en5 : n4 = m + 1 := by
      have := One_in p4.2.2.2.1.choose_spec.2.1
      refine ((nI_eq (by omega) ?_).mp en4).symm
      have := p4.2.2.2.1.choose_spec.2.1.1
      omega
    subst en5
    subst x4
    have hds : ds.length < 2 ^ 31 := by
      have h1 := flatP_len ds
      have h2 := p4.2.2.2.2.2.2.2.2.2
      have h3 := p4.1.1.2.1
      simp at h2
      omega
    obtain ⟨mo5, g5, e5, s5⟩ := PD_hang p4
    have w5 := s5.1
    rw [fRest_eq, cu_word w5.2.1, nI_1 e]
    refine hret _ _ ?_
    have kd : f_Tr_kind (sTr st4) (nI L.length + 1) = 2 ∧ f_Tr_children (sTr st4) (nI L.length + 1) = some (nI ds.length) := by
      have e9 : L ++ (9, 0, nI a, 1) :: ([] ++ (2, 0, nI (a + 1 + 1), nI ((flatP ds).length + 1)) :: flatP ds) = (L ++ [(9, 0, nI a, 1)]) ++ (2, 0, nI (a + 1 + 1), nI ((flatP ds).length + 1)) :: (flatP ds ++ []) := by simp
      have c5 := w5.2.1
      have h9 := ll s5
      rw [e9] at c5 h9
      have hidx : nI L.length + 1 = nI (L ++ [((9, 0, nI a, 1) : Nd)]).length := by rw [nI_1]; simp
      rw [hidx]
      exact ⟨(tr_at c5 (by omega)).1, cs_child c5 h9⟩
    have hmk : f_Pa_mayTakeKeys st4 (nI L.length + 1) = some (.inr ((if nI ds.length = 1 then 1 else 0), st4)) := by
      unfold f_Pa_mayTakeKeys
      rw [kd.1, if_pos rfl, kd.2, bnO_some]
      split <;> rfl
    by_cases c1 : nI ds.length = 1
    · rw [if_pos c1, e5, bndM_some, rs_word w5.1.1 w5.2.2.1 w5.1.2.1 (s := 13) (by decide) (by decide), bndM_some]
      by_cases c13 : f_Tk_keyword tk (nI a4) = 13
      · have hl5 := lt_of_word hT (by have := w5.1.2.1; omega) c13 (by decide)
        rw [if_pos c13, if_neg n10, if_neg n10, hmk, bnd_some, if_pos c1, if_neg n10]
        exact sm_fmI he hs hM hR.1 hlab ho hlb hk hl5 s5
      · rw [if_neg c13, if_pos rfl, if_pos rfl]
        exact sm_fmT he hs hM hR.1 hlab ho hlb hk s5
    · rw [if_neg c1, e5, bndM_some]
      by_cases c13 : f_Tk_keyword tk (nI a4) = 13
      · rw [if_pos c13, if_neg n10, hmk, bnd_some, if_neg c1, if_pos rfl, gC_at w5.2.1]
        refine Sim_rr (p := nI a4) (Ref_bnd (Ref_refuse w5.2.1 _)) ?_ (at_ne w5.1.1 w5.1.2.1)
        unfold fmT f_Mo_expect
        have k13 := word_kind hT (by have := w5.1.2.1; omega) c13 (by decide)
        have s67 : ¬ f_Tk_sign tk (nI a4) = 67 := by rw [tk_nosign hT (by have := w5.1.2.1; omega) (by rw [k13]; decide)]; decide
        rw [rs_sign w5.1.1 w5.2.2.1 w5.1.2.1 (s := 67) (by decide), bndM_some, if_neg s67, if_pos rfl, gM_at w5.2.2.1]
        exact RefM_bnd (RefM_bnd (RefM_refuse _ _))
      · rw [if_neg c13, if_pos rfl]
        exact sm_fmT he hs hM hR.1 hlab ho hlb hk s5
  · rw [if_neg c22, if_pos rfl, if_pos rfl]
    unfold f_Pa_forInitial
    rw [cu_sign c2, rs_sign w2.1.1 q2 w2.1.2.1 (s := 67) (by decide), bndM_some, nI_1 e]
    by_cases c67 : f_Tk_sign tk (nI (a + 1 + 1)) = 67
    · -- nothing ahead of the semicolon
      rw [if_pos c67, if_neg n10, if_neg n10]
      obtain ⟨st3, mo3, g3, e3, e4, c3, q3, ex, ey, s3⟩ := SN_none s2 c67 (by decide)
      simp only [bnd_as]
      rw [e3, e4, bnd_some, bndM_some, bnd_some]
      have k4 := sign_kind hT (by omega) c67 (by decide)
      have w13 : ¬ f_Tk_keyword tk (nI (a + 1 + 1)) = 13 := by rw [(tk_noword hT (by omega) (by rw [k4]; decide)).1]; decide
      rw [fRest_eq, cu_word c3, if_neg w13, if_pos rfl, nI_1 e]
      refine hret _ _ ?_
      unfold fmT
      rw [ex, ey, bnd_some, bndM_some]
      unfold fR1
      refine sm_part he (by rw [hM.1]; omega) (by decide) s3 ?_
      intro bd5 lb5 ge5 gp5 a5 li5 g5 m5 st5 mo5 s5
      unfold fR2
      refine sm_part he (by rw [hM.1]; omega) (by decide) s5 ?_
      intro bd6 lb6 ge6 gp6 a6 li6 g6 m6 st6 mo6 s6
      exact sm_fBo hs hM hR.1 hlab ho hlb hk s6
    · rw [if_neg c67, if_pos rfl, if_pos rfl]
      simp only [bnd_as]
      refine Sim_bind (SN_E he0 s2 (by rw [hM.1]; omega)) ?_
      rintro r st3 n mo3 ⟨lb3, ge3, gp3, a3, li3, g3, m3, sg3, n3, rfl, p3, x3, l3, l3'⟩
      rw [bnd_some]
      obtain ⟨mid, op, on, omid⟩ := p3.2.2.2.1
      have hn3 : n3 < 2600 := on.1
      have h28 : nK g3 n3 = 28 → ¬ nV g3 n3 < 0 := XN_28 (tk := tk) (co := co) (a0 := a + 1 + 1) (a' := a3) on (XL_XN x3)
      obtain ⟨zz, tt, es⟩ := One_hd on
      obtain ⟨mo5, e5a, q5a⟩ := rs_hang (n := n3) p3.1.2.2.1 op.2.2.2.2.2 op.1 (nI n3)
      obtain ⟨mo5', g5, e5, s5⟩ := PD_hang p3
      have hmm : mo5' = mo5 := by
        rw [e5a] at e5
        exact (congrArg (fun q : Int32 × MO => q.2) (Sum.inr.inj (Option.some.inj e5))).symm
      subst hmm
      have w5 := s5.1
      refine Sim_m e5 ?_
      rw [fRest_eq, cu_word w5.2.1, nI_1 e, rs_word w5.1.1 w5.2.2.1 w5.1.2.1 (s := 13) (by decide) (by decide), bndM_some]
      refine hret _ _ ?_
      by_cases c13 : f_Tk_keyword tk (nI a3) = 13
      · have hl5 := lt_of_word hT (by have := w5.1.2.1; omega) c13 (by decide)
        rw [if_pos c13, if_neg n10, if_neg n10]
        have eK : nK (hgN g3 m (nI n3)) n3 = nK g3 n3 := by rw [hgN_K]
        have eV : nV (hgN g3 m (nI n3)) n3 = nV g3 n3 := by unfold hgN; split <;> rfl
        have kd : f_Tr_kind (sTr st3) (nI L.length + 1) = nK g3 n3 ∧ f_Pa_assignable st3 (nI L.length + 1) = asg co.2.2.1 (nK g3 n3) (nV g3 n3) := by
          have e9 : L ++ (9, 0, nI a, 1) :: ([] ++ sg3) = (L ++ [(9, 0, nI a, 1)]) ++ (nK g3 n3, nV g3 n3, nS g3 n3, zz) :: tt := by rw [es]; simp
          have c5 := w5.2.1
          have h9 := ll s5
          rw [e9] at c5 h9
          have hidx : nI L.length + 1 = nI (L ++ [((9, 0, nI a, 1) : Nd)]).length := by rw [nI_1]; simp
          rw [hidx]
          exact ⟨(tr_at c5 (by omega)).1, cs_asg c5 (by omega)⟩
        have n2 : ¬ nK g3 n3 = 2 := by
          intro h2
          rw [h2] at es
          exact x3.2.2 _ _ _ _ es
        have hmk : f_Pa_mayTakeKeys st3 (nI L.length + 1) = some (.inr (asg co.2.2.1 (nK g3 n3) (nV g3 n3), st3)) := by
          unfold f_Pa_mayTakeKeys
          rw [kd.1, if_neg n2, kd.2]
        rw [hmk, bnd_some]
        have hgs : ge3.1 = co.2.2.1 := w5.1.2.2.1.1
        have q5b := q5a
        by_cases ca : asg co.2.2.1 (nK g3 n3) (nV g3 n3) = 0
        · rw [if_pos ca, gC_at w5.2.1, gM_at w5.2.2.1]
          exact Sim_rr (p := nI a3) (Ref_bnd (Ref_refuse w5.2.1 _)) (RefM_bnd (RefM_chg q5b hn3 (by rw [eK, eV]; exact h28) (by rw [eK, eV, hgs]; exact ca) _)) (at_ne w5.1.1 w5.1.2.1)
        · rw [if_neg ca, rs_chg q5b hn3 (by rw [eK, eV]; exact h28) (by rw [eK, eV, hgs]; exact ca), bndM_some, rs_word w5.1.1 w5.2.2.1 w5.1.2.1 (s := 13) (by decide) (by decide), bndM_some, if_pos c13, if_neg n10]
          exact sm_fmI he hs hM hR.1 hlab ho hlb hk hl5 s5
      · rw [if_neg c13, if_pos rfl, if_pos rfl, rs_word w5.1.1 w5.2.2.1 w5.1.2.1 (s := 13) (by decide) (by decide), bndM_some, if_neg c13, if_pos rfl]
        exact sm_fmT he hs hM hR.1 hlab ho hlb hk s5
end PVD
