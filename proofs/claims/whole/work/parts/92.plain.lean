/-! statements of an expression, and labels -/
def HAl (K : Nat → List Int32 → MO → Rm) (e1 : Nat) : Prop :=
  (e1 ≤ 100 → ∀ (tk : TK) (gt : gT) (ge : gE) (gp : gP) (gq : gQ) (a : Nat) (li : Int32) (g : gN) (m : Nat) (mo : MO), TkR tk gt → gM gt ge gp gq a li g mo → nM g = nI m → m < 2600 → (ge.1 = 0 ∨ ge.1 = 1) → a + 1 < tkn tk → (f_Tk_kind tk (nI a) = 3 ∨ f_Tk_kind tk (nI a) = 1 ∧ ¬ f_Tk_identifier tk (nI a) ge.1 = 0) → (f_Tk_sign tk (nI (a + 1)) = 67 ∨ f_Tk_sign tk (nI (a + 1)) = 70) →
    ∃ mo' g' li' kd val, K 0 [nI e1, 1] mo = some (.inr (nI m, mo')) ∧ gM gt ge gp gq (a + 1) li' g' mo' ∧ (∀ lo hi, Opn g' m kd val (nI a) [] lo hi) ∧ (∀ z, z ≤ m → FrN g g' z) ∧ nM g' = nI (m + 1) ∧ (f_Tk_kind tk (nI a) = 1 → kd = 28 ∧ li' = li)) ∧
  (¬ e1 ≤ 100 → ∀ (gt : gT) (ge : gE) (gp : gP) (gq : gQ) (a : Nat) (li : Int32) (g : gN) (mo : MO), gM gt ge gp gq a li g mo → RefM (K 0 [nI e1, 1] mo) (nI a))
section PWW
variable {tk : TK} {lb : LB} {co : CO} {L : List Nd} {st : ST} {gt : gT} {ge : gE} {gp : gP} {gq : gQ} {a : Nat} {li : Int32} {g : gN} {mo : MO} {m e o : Nat}
variable {E : Int32 → Int32 → Int32 → ST → Rz} {S : Int32 → Int32 → ST → Rz} {F : Int32 → Int32 → ST → Rz} {K : Nat → List Int32 → MO → Rm}
theorem sm_exprS (he : HC 1 2 XL (E (-1) (nI (e + 1)) 1) (K 0 [nI (e + 1), 1]) (e + 1)) (hal : HAl K (e + 1)) (hR : RR tk gt co lb ge gp gq a li g m L st mo) (hlb : lbn lb < e) (hee : e ≤ 100) (hL : L.length ≤ 2 * a + 1) (hm : m ≤ 2 * a + 1) (h11 : ¬ f_Tk_keyword tk (nI a) = 11) (hno : f_Tk_identifier tk (nI a) co.2.2.1 = 0 ∨ ¬ f_Tk_sign tk (nI (a + 1)) = 70) :
    Sim (f_Pa_expressionStatement E S F st (nI e)) (f_Mo_plainStatement K mo (nI e) (nI o)) (PX 0 (lbn lb) (XS tk a) tk gt co lb ge gp gq a g m L) := by
  obtain ⟨hw, hc, hq, hd⟩ := hR
  have hT := hw.1.1
  have ha := hw.2.1
  have hs3 : ge.1 = 0 ∨ ge.1 = 1 := by rw [hw.2.2.1.1]; exact hw.2.2.1.2
  unfold f_Pa_expressionStatement f_Mo_plainStatement
  rw [cu_word hc, if_neg h11, if_pos rfl, gC_at hc, rs_kind hw.1 hq ha (k := 1) (by decide), bndM_some, gM_at hq, nI_1]
  obtain ⟨st1, e1, c1⟩ := cs_open hc (by omega) hT 5 0 (nI a)
  refine Sim_c e1 ?_
  refine Sim_bindE (he tk gt co lb ge gp gq a li g m _ st1 mo ⟨hw, c1, hq, hd⟩ (by omega) (by simp; omega) (by omega)) ?_
  intro r st2 n mo2 hy h2
  obtain ⟨lb2, ge2, gp2, a2, li2, g2, m2, sg, n2, rfl, w2, c2, q2, d2, f2, fn2, o2, l1, l2, l3, l4, l5, l6, l7, xl⟩ := PX_le h2
  have hn2 : n2 < 2600 := o2.1
  have hll : (L ++ [((5, 0, nI a, 1) : Nd)] ++ sg).length = L.length + 1 + sg.length := by simp; omega
  obtain ⟨zz, tt, es⟩ := One_hd o2
  -- when the first token is a text with a semicolon behind it, the expression is that token
  have text : f_Tk_kind tk (nI a) = 3 → f_Tk_sign tk (nI (a + 1)) = 67 → a2 = a + 1 := by
    intro k3 s67
    have hl1 := lt_of_sign hT (by omega) s67 (by decide)
    by_cases h100 : e + 1 ≤ 100
    · obtain ⟨mo', g', li', kd, val, y1, y2, _⟩ := hal.1 h100 tk gt ge gp gq a li g m mo hw.1 hq hd (by omega) hs3 hl1 (Or.inl k3) (Or.inl s67)
      rw [hy] at y1
      have : mo2 = mo' := congrArg (fun q : Int32 × MO => q.2) (Sum.inr.inj (Option.some.inj y1))
      subst this
      have h3 := (gM_at q2).symm.trans (gM_at y2)
      exact (nI_eq (by omega) (by omega)).mp h3
    · obtain ⟨mo9, y1, _⟩ := hal.2 h100 gt ge gp gq a li g mo hq
      rw [hy] at y1
      exact absurd (Option.some.inj y1) (by simp)
  -- the end of the statement
  have fin : Sim (bnd (f_Cu_semicolon st2) (fun _ st_4 => (bnd (p_close st_4 (nI L.length)) (fun _ st_5 => (some (.inr (0, st_5))))))) (bndM (f_Mo_make mo2 5 0 (nI a)) (fun r_4 mo_4 => (bndM (f_Mo_hang mo_4 r_4 (nI n2)) (fun _ mo_5 => (bndM (f_Mo_semicolon mo_5) (fun _ mo_6 => (some (.inr (r_4, mo_6))))))))) (PX 0 (lbn lb) (XS tk a) tk gt co lb ge gp gq a g m L) := by
    obtain ⟨mo3, g3, e3, q3, o3, f3, d3⟩ := rs_make' q2 d2 (show m2 < 2600 by omega) 5 0 (nI a)
    refine Sim_m e3 ?_
    have on := One_fr o2 (f3 m2 (Nat.le_refl _)) (Nat.le_refl _)
    obtain ⟨mo4, g4, e4, q4, o4, f4, d4⟩ := rs_hang' q3 (o3 m m) on (Nat.le_refl _) (Nat.le_refl _) (Or.inr (Nat.le_refl _))
    refine Sim_m e4 ?_
    rw [List.nil_append] at o4
    refine sm_semi w2.1 l2 c2 q4 ?_
    intro a3 st5 mo5 hor h1 h2' c5 q5
    obtain ⟨st6, e6, c6⟩ := cs_close (pre := L) (k := 5) (v := 0) (w := nI a) (z := 1) (bd := sg) c5 (by simp) (by omega) rfl
    refine Sim_c e6 ?_
    have hone := Opn_one o4 (Nat.le_refl _) (Nat.le_succ m2) (by omega) (Nat.lt_succ_self _)
    refine Sim_ret ⟨lb2, ge2, gp2, a3, li2, g4, m2 + 1, _, m2, rfl, ⟨Wf_up w2 h1 h2', c6, q5, d4.trans d3⟩, f2, ?_, hone, by omega, by simp; omega, by omega, ?_⟩
    · exact FrN_trans (FrN_trans fn2 (f3 m (by omega)) (Nat.le_refl _)) (f4 m (Nat.le_refl _) (by omega)) (Nat.le_refl _)
    · intro k3
      refine ⟨0, nI a, nI (sg.length + 1), _, tt, by rw [es], ?_⟩
      have hiff := xl.1 k3 _ _ _ _ _ es
      show nK g2 n2 = 30 ↔ _
      rw [hiff]
      rcases hor with ⟨s67, e9⟩ | ⟨s67, e9⟩
      · constructor
        · intro h; right; subst h; exact ⟨by omega, s67⟩
        · rintro (h | ⟨h, hs⟩)
          · omega
          · omega
      · constructor
        · intro h; left; omega
        · rintro (h | ⟨h, hs⟩)
          · omega
          · exact text k3 hs
  by_cases k1 : f_Tk_kind tk (nI a) = 1
  · have ek : q_kind mo2 (nI n2).toNatClampNeg = nK g2 n2 := by rw [clN hn2]; show mo2.2.1.1 n2 = _; rw [gM_g q2]
    rw [if_pos k1, if_neg n10, if_pos (inbN hn2), ek, gM_at q2, nI_1]
    by_cases c28 : nK g2 n2 = 28
    · rw [if_pos c28]
      by_cases ca : a2 = a + 1
      · subst ca
        rw [if_pos rfl, rs_sign w2.1 q2 l2 (s := 70) (by decide), bndM_some]
        have hid : ¬ f_Tk_identifier tk (nI a) co.2.2.1 = 0 := by
          rw [c28] at es
          exact (xl.2.1 _ _ _ _ es).2 k1
        rw [if_neg (hno.resolve_left hid), if_pos rfl]
        exact fin
      · rw [if_neg (fun h => ca ((nI_eq (by omega) (by omega)).mp h))]
        exact fin
    · rw [if_neg c28]
      exact fin
  · rw [if_neg k1, if_pos rfl]
    exact fin
theorem sm_label (hs : HSt (fun o st => S (nI (e + 1)) o st) (fun o mo => K 5 [nI (e + 1), o] mo) (e + 1)) (hal : HAl K (e + 1)) (hR : RR tk gt co lb ge gp gq a li g m L st mo) (hlab : LabR co lb ge) (ho : o ≤ lbn lb) (hlb : lbn lb < e) (hee : e ≤ 100) (hL : L.length ≤ 2 * a + 1) (hm : m ≤ 2 * a + 1) (hid : ¬ f_Tk_identifier tk (nI a) co.2.2.1 = 0) (h70 : f_Tk_sign tk (nI (a + 1)) = 70) :
    Sim (f_Pa_labelled E S F st (nI e) (nI o)) (f_Mo_plainStatement K mo (nI e) (nI o)) (PX 0 o (XS tk a) tk gt co lb ge gp gq a g m L) := by
  obtain ⟨hw, hc, hq, hd⟩ := hR
  have hT := hw.1.1
  have ha := hw.2.1
  have hs3 : ge.1 = 0 ∨ ge.1 = 1 := by rw [hw.2.2.1.1]; exact hw.2.2.1.2
  have hgs : ge.1 = co.2.2.1 := hw.2.2.1.1
  obtain ⟨hl, k1⟩ := id_kind hw.1 ha hid
  have hl1 := lt_of_sign hT (by omega) h70 (by decide)
  unfold f_Pa_labelled f_Mo_plainStatement
  rw [nI_1, rs_kind hw.1 hq ha (k := 1) (by decide), bndM_some, if_pos k1]
  by_cases h100 : e + 1 ≤ 100
  · rw [cs_guard st h100, bnd_some, gC_tk hc, gC_at hc, gC_lb hc]
    obtain ⟨mo1, g1, li1, kd, val, y1, q1, o1, f1, d1, y28⟩ := hal.1 h100 tk gt ge gp gq a li g m mo hw.1 hq hd (by omega) hs3 hl1 (Or.inr ⟨k1, by rw [hgs]; exact hid⟩) (Or.inr h70)
    obtain ⟨rfl, rfl⟩ := y28 k1
    have hm9 : m < 2600 := by omega
    have ek : q_kind mo1 (nI m).toNatClampNeg = 28 := by rw [clN hm9]; show mo1.2.1.1 m = _; rw [gM_g q1]; exact (o1 0 0).2.1
    rw [y1, bndM_some, if_neg n10, if_pos (inbN hm9), ek, if_pos rfl, gM_at q1, gM_at hq, nI_1 a, if_pos rfl, rs_sign hw.1 q1 (by omega) (s := 70) (by decide), bndM_some, if_pos h70, if_neg n10]
    have q2 : gM gt ge gp gq (a + 2) li1 g1 (s_at mo1 (q_at mo1 + 1)) := gM_inc q1
    obtain ⟨w1, w2, w3, w5, w7, ⟨w8, w9⟩, ⟨w10, ff, w11, w12⟩, w13, w18⟩ := hw
    have hw : Wf tk gt co lb ge gp a := ⟨w1, w2, w3, w5, w7, ⟨w8, w9⟩, ⟨w10, ff, w11, w12⟩, w13, w18⟩
    have ecl : coL st = nI ff := by have := gC_co hc; show st.2.2.2.1.2.1 = _; rw [show st.2.2.2.1 = co from this]; exact w11
    have eow : q_ownLabels (s_at mo1 (q_at mo1 + 1)) = nI ff := by show mo1.2.2.2.1.2.2.2.2.1 = _; rw [gM_ge q1, w10, w11]
    have enm : q_names (s_at mo1 (q_at mo1 + 1)) (nI a).toNatClampNeg = f_Tk_name tk (nI a) := by
      rw [nI_clamp (by omega)]
      show mo1.1.2.2.1 a = _
      rw [gM_gt q1, (w1.2.2 a hl).2.2.1, (tk_in hT hl).2.1]
    have hfl : co.2.1.toNatClampNeg = ff := by rw [w11, nI_clamp (by omega)]
    unfold f_Mo_labelled
    rw [if_pos (nI_in (c := a) (N := 1001) (by omega) (by decide)), enm, eow, ecl, nI_1 e]
    obtain ⟨t1, t2⟩ := rs_lab14 (K := K) w9 q2 w8 (nI e) (nI o) (nI a) (f_Tk_name tk (nI a)) (lbn lb - ff) 5000 ff w12 rfl (by omega)
    simp only [bndM_as, bndM_ite, bndM_none, bndM_some]
    rcases cs_find lb (f_Tk_name tk (nI a)) w9 w12 with ⟨i, i1, i2, i3, i4⟩ | ⟨i1, i2⟩
    · have hne : ¬ nI i = -1 := m1_ne i (by omega)
      rw [i4, bnO_some, if_neg hne]
      refine Sim_rr (p := nI a) (Ref_bnd (Ref_refuse hc _)) (RefM_bnd (t1 ⟨i, i1, i2, ?_⟩)) (at_ne w1 ha)
      rw [← (hlab i (by omega) i2).1]; exact i3
    · have hn : ∀ i, ff ≤ i → i < lbn lb → ¬ ge.2.2.2.2.2.2.2.1 i = f_Tk_name tk (nI a) := by
        intro i h1 h2
        rw [← (hlab i (by omega) h2).1]; exact i1 i h1 h2
      rw [i2, bnO_some, if_pos rfl, t2 hn, bndM_some]
      obtain ⟨st3, e3, c3⟩ := cs_open hc (by omega) hT 18 (f_Tk_name tk (nI a)) (nI a)
      refine Sim_c e3 ?_
      obtain ⟨mo4, g4, e4, q4, o4, f4, d4⟩ := rs_make' q2 d1 (show m + 1 < 2600 by omega) 18 (f_Tk_name tk (nI a)) (nI a)
      refine Sim_m e4 ?_
      have eql : q_labels mo4 = nI (lbn lb) := by show mo4.2.2.2.1.2.2.2.1 = _; rw [gM_ge q4]; exact w8
      have epush : l_push (sLb st3) (f_Tk_name tk (nI a)) = some (upd (lbN lb) (lbn lb) (f_Tk_name tk (nI a)), upd (lbL lb) (lbn lb) 0, lbn lb + 1) := by
        rw [gC_lb c3]
        unfold l_push
        rw [if_neg (nI_ge (a := lbn lb) (b := 100) (by omega) (by decide))]
      have c3' : gC tk lb co (a + 2) li1 (L ++ [(18, f_Tk_name tk (nI a), nI a, 1)]) (setAt st3 (sAt st3 + 2)) := gC_at' c3 (by omega) (by rw [gC_at c3]; exact nI_add a 2)
      have ep : p_lab (setAt st3 (sAt st3 + 2)) (l_push (sLb st3) (f_Tk_name tk (nI a))) = some (.inr (0, setLb (setAt st3 (sAt st3 + 2)) (upd (lbN lb) (lbn lb) (f_Tk_name tk (nI a)), upd (lbL lb) (lbn lb) 0, lbn lb + 1))) := by
        rw [epush]
        exact if_pos (show lbn lb + 1 ≤ 100 by omega)
      refine Sim_c ep ?_
      have c5 := gC_setLb c3' (upd (lbN lb) (lbn lb) (f_Tk_name tk (nI a)), upd (lbL lb) (lbn lb) 0, lbn lb + 1)
      rw [eql, if_pos (nI_in (c := lbn lb) (N := 1000) (by omega) (by decide)), nI_clamp (by omega), nI_1 (lbn lb)]
      have elbl : q_label mo4 = ge.2.2.2.2.2.2.2.1 := by show mo4.2.2.2.1.2.2.2.2.2.2.2.1 = _; rw [gM_ge q4]
      have elop : q_loopLabel mo4 = ge.2.2.2.2.2.2.2.2 := by show mo4.2.2.2.1.2.2.2.2.2.2.2.2 = _; rw [gM_ge q4]
      rw [elbl, elop]
      have q5 : gM gt (ge.1, ge.2.1, ge.2.2.1, nI (lbn lb + 1), ge.2.2.2.2.1, ge.2.2.2.2.2.1, ge.2.2.2.2.2.2.1, upd ge.2.2.2.2.2.2.2.1 (lbn lb) (f_Tk_name tk (nI a)), upd ge.2.2.2.2.2.2.2.2 (lbn lb) 0) gp gq (a + 2) li1 g4 (s_loopLabel (s_label (s_labels mo4 (nI (lbn lb + 1))) (upd ge.2.2.2.2.2.2.2.1 (lbn lb) (f_Tk_name tk (nI a)))) (upd ge.2.2.2.2.2.2.2.2 (lbn lb) 0)) := by
        obtain ⟨th, rfl⟩ := q4; exact ⟨th, rfl⟩
      have hw5 : Wf tk gt co (upd (lbN lb) (lbn lb) (f_Tk_name tk (nI a)), upd (lbL lb) (lbn lb) 0, lbn lb + 1) (ge.1, ge.2.1, ge.2.2.1, nI (lbn lb + 1), ge.2.2.2.2.1, ge.2.2.2.2.2.1, ge.2.2.2.2.2.2.1, upd ge.2.2.2.2.2.2.2.1 (lbn lb) (f_Tk_name tk (nI a)), upd ge.2.2.2.2.2.2.2.2 (lbn lb) 0) gp (a + 2) := by
        obtain ⟨v1, v2, v3, v5, v7, v8, v10, ⟨pp, ww, x1, x2, x3, x4, x5⟩, pr, x6, x7⟩ := hw
        exact ⟨v1, by omega, v3, v5, v7, ⟨rfl, show lbn lb + 1 ≤ 100 by omega⟩, ⟨w10, ff, w11, show ff ≤ lbn lb + 1 by omega⟩, ⟨pp, ww, x1, x2, x3, x4, by omega⟩, pr, x6, by omega⟩
      have hlab5 : LabR co (upd (lbN lb) (lbn lb) (f_Tk_name tk (nI a)), upd (lbL lb) (lbn lb) 0, lbn lb + 1) (ge.1, ge.2.1, ge.2.2.1, nI (lbn lb + 1), ge.2.2.2.2.1, ge.2.2.2.2.2.1, ge.2.2.2.2.2.2.1, upd ge.2.2.2.2.2.2.2.1 (lbn lb) (f_Tk_name tk (nI a)), upd ge.2.2.2.2.2.2.2.2 (lbn lb) 0) := by
        intro i h1 h2
        have h2' : i < lbn lb + 1 := h2
        rw [hfl] at h1
        by_cases ci : i = lbn lb
        · subst ci
          refine ⟨?_, ?_, Or.inl ?_, ?_⟩
          · show upd (lbN lb) (lbn lb) (f_Tk_name tk (nI a)) (lbn lb) = upd ge.2.2.2.2.2.2.2.1 (lbn lb) (f_Tk_name tk (nI a)) (lbn lb)
            rw [up_eq, up_eq]
          · show upd (lbL lb) (lbn lb) 0 (lbn lb) = upd ge.2.2.2.2.2.2.2.2 (lbn lb) 0 (lbn lb)
            rw [up_eq, up_eq]
          · show upd (lbL lb) (lbn lb) 0 (lbn lb) = 0
            exact up_eq
          · intro j h3 h4 h5
            have h4' : j < lbn lb + 1 := h4
            rw [hfl] at h3
            by_cases cj : j = lbn lb
            · exact cj.symm
            · exfalso
              have h6 : upd (lbN lb) (lbn lb) (f_Tk_name tk (nI a)) (lbn lb) = upd (lbN lb) (lbn lb) (f_Tk_name tk (nI a)) j := h5
              rw [up_eq, up_ne cj] at h6
              exact i1 j h3 (by omega) h6.symm
        · obtain ⟨l1, l2, l3, l4⟩ := hlab i (by omega) (by omega)
          refine ⟨?_, ?_, ?_, ?_⟩
          · show upd (lbN lb) (lbn lb) (f_Tk_name tk (nI a)) i = upd ge.2.2.2.2.2.2.2.1 (lbn lb) (f_Tk_name tk (nI a)) i
            rw [up_ne ci, up_ne ci]; exact l1
          · show upd (lbL lb) (lbn lb) 0 i = upd ge.2.2.2.2.2.2.2.2 (lbn lb) 0 i
            rw [up_ne ci, up_ne ci]; exact l2
          · show upd (lbL lb) (lbn lb) 0 i = 0 ∨ upd (lbL lb) (lbn lb) 0 i = 1
            rw [up_ne ci]; exact l3
          · intro j h3 h4 h5
            have h4' : j < lbn lb + 1 := h4
            rw [hfl] at h3
            have h6 : upd (lbN lb) (lbn lb) (f_Tk_name tk (nI a)) i = upd (lbN lb) (lbn lb) (f_Tk_name tk (nI a)) j := h5
            by_cases cj : j = lbn lb
            · exfalso
              subst cj
              rw [up_eq, up_ne ci] at h6
              exact i1 i h1 (by omega) h6
            · rw [up_ne ci, up_ne cj] at h6
              exact l4 j (by omega) (by omega) h6
      refine Sim_bind (hs tk gt co _ _ gp gq (a + 2) li1 g4 (m + 1 + 1) _ _ _ o ⟨hw5, c5, q5, d4⟩ hlab5 (show o ≤ lbn lb + 1 by omega) (show lbn lb + 1 < e + 1 by omega) (by simp; omega) (by omega)) ?_
      intro r st6 n6 mo6 h6
      obtain ⟨lb6, ge6, gp6, a6, li6, g6, m6, sg, n6', rfl, w6, c6, q6, d6, fr6, fn6, o6, l1, l2, l3, l4, l5, l6, l7, _⟩ := PX_le h6
      have hO := Opn_fr (o4 (m + 1 + 1) (m + 1 + 1)) fn6 (Nat.le_refl _) (by omega)
      obtain ⟨mo7, g7, e7, q7, o7, f7, d7⟩ := rs_hang' q6 hO o6 (Nat.le_refl _) (Nat.le_refl _) (Or.inl (by omega))
      refine Sim_m e7 ?_
      rw [List.nil_append] at o7
      have hnl6 : lbn lb6 = lbn lb + 1 := l3
      have epop : p_lab st6 (l_pop (sLb st6)) = some (.inr (0, setLb st6 (lbN lb6, lbL lb6, lbn lb))) := by
        rw [gC_lb c6]
        have : l_pop lb6 = some (lbN lb6, lbL lb6, lbn lb) := by
          unfold l_pop
          rw [if_neg (by omega), hnl6]
          rfl
        rw [this]
        exact if_pos (show lbn lb ≤ 100 by omega)
      refine Sim_c epop ?_
      have c7 := gC_setLb c6 (lbN lb6, lbL lb6, lbn lb)
      have hll : (L ++ [((18, f_Tk_name tk (nI a), nI a, 1) : Nd)] ++ sg).length = L.length + 1 + sg.length := by simp; omega
      obtain ⟨st8, e8, c8⟩ := cs_close (pre := L) (k := 18) (v := f_Tk_name tk (nI a)) (w := nI a) (z := 1) (bd := sg) c7 (by simp) (by omega) rfl
      refine Sim_c e8 ?_
      obtain ⟨z1, z2, z3, ⟨u1, u2, u3, u4, u5, u6, u7⟩, z5, z6⟩ := fr6
      have eql7 : q_labels mo7 - 1 = nI (lbn lb) := by
        have : q_labels mo7 = nI (lbn lb + 1) := by show mo7.2.2.2.1.2.2.2.1 = _; rw [gM_ge q7]; exact u4
        rw [this, nI_pred]
      rw [eql7]
      have q8 : gM gt (ge6.1, ge6.2.1, ge6.2.2.1, nI (lbn lb), ge6.2.2.2.2) gp6 gq a6 li6 g7 (s_labels mo7 (nI (lbn lb))) := by obtain ⟨th, rfl⟩ := q7; exact ⟨th, rfl⟩
      have hFr : Fr o lb (lbN lb6, lbL lb6, lbn lb) ge (ge6.1, ge6.2.1, ge6.2.2.1, nI (lbn lb), ge6.2.2.2.2) gp gp6 := by
        refine ⟨rfl, ?_, ?_, ⟨u1, u2, u3, w8.symm, u5, u6, u7⟩, z5, z6⟩
        · intro i hi
          obtain ⟨v1, v2⟩ := z2 i (show i < lbn lb + 1 by omega)
          refine ⟨v1.trans ?_, v2.trans ?_⟩
          · show upd (lbN lb) (lbn lb) (f_Tk_name tk (nI a)) i = _
            exact up_ne (by omega)
          · show upd ge.2.2.2.2.2.2.2.1 (lbn lb) (f_Tk_name tk (nI a)) i = _
            exact up_ne (by omega)
        · intro i hi
          obtain ⟨v1, v2⟩ := z3 i hi
          refine ⟨v1.trans ?_, v2.trans ?_⟩
          · show upd (lbL lb) (lbn lb) 0 i = _
            exact up_ne (by omega)
          · show upd ge.2.2.2.2.2.2.2.2 (lbn lb) 0 i = _
            exact up_ne (by omega)
      refine Sim_ret ⟨_, _, gp6, a6, li6, g7, m6, _, m + 1, rfl, ⟨Wf_fr hw hFr (by omega) l2, c8, q8, d7.trans d6⟩, hFr, ?_, Opn_one o7 (show m ≤ m + 1 + 1 by omega) (Nat.le_refl _) (by omega) (by omega), by omega, by simp; omega, by omega, XS_of (by rw [k1]; decide)⟩
      exact FrN_trans (FrN_trans (FrN_trans (f1 m (Nat.le_refl _)) (f4 m (by omega)) (Nat.le_refl _)) (FrN_less fn6 (by omega)) (Nat.le_refl _)) (f7 m (by omega) (by omega)) (Nat.le_refl _)
  · exact Sim_rr (p := nI a) (Ref_bnd (Ref_guard hc h100 (by omega))) (RefM_bnd (hal.2 h100 gt ge gp gq a li g mo hq)) (at_ne hw.1 ha)
end PWW
