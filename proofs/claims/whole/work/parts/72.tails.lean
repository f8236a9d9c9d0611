/-! what stands behind an operand -/
def asg (s k v : Int32) : Int32 := if k = 28 then (if s = 0 then 1 else (if f_Tk_evalOrArguments v = 0 then 1 else 0)) else (if k = 36 then 1 else (if k = 37 then 1 else 0))
/-- where an expression's parts stand between two steps -/
def CU (nf : Nat) (tk : TK) (gt : gT) (co : CO) (lb0 : LB) (ge0 : gE) (gp0 : gP) (gq : gQ) (a0 : Nat) (g0 : gN) (m0 : Nat) (L0 : List Nd) (lb : LB) (ge : gE) (gp : gP) (a : Nat) (li : Int32) (g : gN) (m : Nat) (sg : List Nd) (n : Nat) (st : ST) (mo : MO) : Prop :=
  RR tk gt co lb ge gp gq a li g m (L0 ++ sg) st mo ∧ Fr nf lb0 lb ge0 ge gp0 gp ∧ FrN g0 g m0 ∧ One g n sg m0 m ∧ a0 < a ∧ sg.length + 1 ≤ 2 * (a - a0) ∧ m + 1 ≤ m0 + 2 * (a - a0) ∧ L0.length ≤ 2 * a0 + 2 ∧ m0 ≤ 2 * a0 + 2
section PUT
variable {tk : TK} {lb lb0 : LB} {co : CO} {L L0 : List Nd} {st : ST} {gt : gT} {ge ge0 : gE} {gp gp0 : gP} {gq : gQ} {a a0 : Nat} {li : Int32} {g g0 : gN} {mo : MO} {m m0 e n nf : Nat} {sg : List Nd}
variable {E : Int32 → Int32 → Int32 → ST → Rz} {S : Int32 → Int32 → ST → Rz} {F : Int32 → Int32 → ST → Rz} {K : Nat → List Int32 → MO → Rm}
theorem CU_PX {X : Nat → List Nd → Prop} (h : CU nf tk gt co lb0 ge0 gp0 gq a0 g0 m0 L0 lb ge gp a li g m sg n st mo) (hX : X a sg) (r : Int32) : PX 1 nf X tk gt co lb0 ge0 gp0 gq a0 g0 m0 L0 r st (nI n) mo := by
  obtain ⟨h1, h2, h3, h4, h5, h6, h7, _⟩ := h
  exact ⟨lb, ge, gp, a, li, g, m, sg, n, rfl, h1, h2, h3, h4, h5, h6, h7, hX⟩
theorem PX_CU {X : Nat → List Nd → Prop} {r n0 : Int32} (h : PX 1 nf X tk gt co lb0 ge0 gp0 gq a0 g0 m0 L0 r st n0 mo) (hL : L0.length ≤ 2 * a0 + 2) (hm : m0 ≤ 2 * a0 + 2) : ∃ lb ge gp a li g m sg n, n0 = nI n ∧ CU nf tk gt co lb0 ge0 gp0 gq a0 g0 m0 L0 lb ge gp a li g m sg n st mo ∧ X a sg := by
  obtain ⟨lb', ge', gp', a', li', g', m', sg, n', h1, h2, h3, h4, h5, h6, h7, h8, h9⟩ := h
  exact ⟨lb', ge', gp', a', li', g', m', sg, n', h1, ⟨h2, h3, h4, h5, h6, h7, h8, hL, hm⟩, h9⟩
theorem tr_at {k v w z : Int32} {t : List Nd} (h : gC tk lb co a li (L0 ++ (k, v, w, z) :: t) st) (hb : (L0 ++ (k, v, w, z) :: t).length < 2 ^ 20) : f_Tr_kind (sTr st) (nI L0.length) = k ∧ f_Tr_value (sTr st) (nI L0.length) = v ∧ f_Tr_where (sTr st) (nI L0.length) = w := by
  have hL := gC_tr h
  have hx := Tl_at hL
  have hlen : (L0 ++ (k, v, w, z) :: t).length = L0.length + (t.length + 1) := by simp
  have hn : trn (sTr st) = L0.length + (t.length + 1) := by rw [hL.1, hlen]
  have h1 : ¬ nI L0.length < 0 := nI_pos (by omega)
  have h2 : ¬ nI (trn (sTr st)) ≤ nI L0.length := nI_ge (by omega) (by omega)
  have h3 : (nI L0.length).toNatClampNeg = L0.length := nI_clamp (by omega)
  refine ⟨?_, ?_, ?_⟩
  · unfold f_Tr_kind; rw [if_neg h1, if_neg h2, h3]; exact congrArg (fun q : Nd => q.1) hx
  · unfold f_Tr_value; rw [if_neg h1, if_neg h2, h3]; exact congrArg (fun q : Nd => q.2.1) hx
  · unfold f_Tr_where; rw [if_neg h1, if_neg h2, h3]; exact congrArg (fun q : Nd => q.2.2.1) hx
theorem cs_asg {k v w z : Int32} {t : List Nd} (h : gC tk lb co a li (L0 ++ (k, v, w, z) :: t) st) (hb : (L0 ++ (k, v, w, z) :: t).length < 2 ^ 20) : f_Pa_assignable st (nI L0.length) = asg co.2.2.1 k v := by
  obtain ⟨h1, h2, _⟩ := tr_at h hb
  unfold f_Pa_assignable asg
  rw [h1, h2, gC_cs h]
theorem rs_plc (hq : gM gt ge gp gq a li g mo) (hn : n < 2600) : f_Mo_isPlace mo (nI n) = some (.inr ((if nK g n = 28 then 1 else if nK g n = 36 then 1 else if nK g n = 37 then 1 else 0), mo)) := by
  have e1 : q_kind mo (nI n).toNatClampNeg = nK g n := by rw [clN hn]; show mo.2.1.1 n = _; rw [gM_g hq]
  unfold f_Mo_isPlace
  rw [if_pos (inbN hn), e1]
  split
  · rfl
  · split
    · rfl
    · split <;> rfl
theorem rs_chg (hq : gM gt ge gp gq a li g mo) (hn : n < 2600) (h28 : nK g n = 28 → ¬ nV g n < 0) (h : ¬ asg ge.1 (nK g n) (nV g n) = 0) (p : Int32) : f_Mo_changed mo (nI n) p = some (.inr (0, mo)) := by
  have e1 : q_kind mo (nI n).toNatClampNeg = nK g n := by rw [clN hn]; show mo.2.1.1 n = _; rw [gM_g hq]
  have e2 : q_value mo (nI n).toNatClampNeg = nV g n := by rw [clN hn]; show mo.2.1.2.1 n = _; rw [gM_g hq]
  have e3 : q_strict mo = ge.1 := by show mo.2.2.2.1.1 = _; rw [gM_ge hq]
  unfold f_Mo_changed
  rw [rs_plc hq hn, bndM_some]
  unfold asg at h
  by_cases c28 : nK g n = 28
  · rw [if_pos c28] at h ⊢
    rw [if_neg (by decide), e3]
    by_cases cs : ge.1 = 0
    · rw [if_pos cs]
    · rw [if_neg cs] at h ⊢
      rw [if_pos (inbN hn), e1, if_pos c28, e2]
      by_cases ce : f_Tk_evalOrArguments (nV g n) = 0
      · rw [if_pos ((eva (h28 c28)).mp ce)]
      · rw [if_neg ce] at h; exact absurd rfl h
  · rw [if_neg c28] at h ⊢
    by_cases c36 : nK g n = 36
    · rw [if_pos c36, if_neg (by decide)]
      split
      · rfl
      · rw [if_pos (inbN hn), e1, if_neg c28]
    · rw [if_neg c36] at h ⊢
      by_cases c37 : nK g n = 37
      · rw [if_pos c37, if_neg (by decide)]
        split
        · rfl
        · rw [if_pos (inbN hn), e1, if_neg c28]
      · rw [if_neg c37] at h; exact absurd rfl h
theorem RefM_chg (hq : gM gt ge gp gq a li g mo) (hn : n < 2600) (h28 : nK g n = 28 → ¬ nV g n < 0) (h : asg ge.1 (nK g n) (nV g n) = 0) (p : Int32) : RefM (f_Mo_changed mo (nI n) p) p := by
  have e1 : q_kind mo (nI n).toNatClampNeg = nK g n := by rw [clN hn]; show mo.2.1.1 n = _; rw [gM_g hq]
  have e2 : q_value mo (nI n).toNatClampNeg = nV g n := by rw [clN hn]; show mo.2.1.2.1 n = _; rw [gM_g hq]
  have e3 : q_strict mo = ge.1 := by show mo.2.2.2.1.1 = _; rw [gM_ge hq]
  unfold f_Mo_changed
  rw [rs_plc hq hn, bndM_some]
  unfold asg at h
  by_cases c28 : nK g n = 28
  · rw [if_pos c28] at h ⊢
    rw [if_neg (by decide), e3]
    by_cases cs : ge.1 = 0
    · rw [if_pos cs] at h; exact absurd h (by decide)
    · rw [if_neg cs] at h ⊢
      rw [if_pos (inbN hn), e1, if_pos c28, e2]
      by_cases ce : f_Tk_evalOrArguments (nV g n) = 0
      · rw [if_pos ce] at h; exact absurd h (by decide)
      · rw [if_neg (fun h2 => ce ((eva (h28 c28)).mpr h2))]
        exact RefM_bnd (RefM_refuse _ _)
  · rw [if_neg c28] at h ⊢
    by_cases c36 : nK g n = 36
    · rw [if_pos c36] at h; exact absurd h (by decide)
    · rw [if_neg c36] at h ⊢
      by_cases c37 : nK g n = 37
      · rw [if_pos c37] at h; exact absurd h (by decide)
      · rw [if_neg c37, if_pos rfl]
        exact RefM_bnd (RefM_refuse _ _)
theorem sm_tailsL (he : HC 1 2 XA (E 0 (nI (e + 1)) 1) (K 1 [nI (e + 1), 1]) (e + 1)) (h0 : HC 1 2 XL (E (-1) (nI (e + 1)) 1) (K 0 [nI (e + 1), 1]) (e + 1)) (tk : TK) (gt : gT) (co : CO) (lb0 : LB) (ge0 : gE) (gp0 : gP) (gq : gQ) (a0 : Nat) (g0 : gN) (m0 : Nat) (L0 : List Nd) (hlb : lbn lb0 < e + 1) (cl : Int32) :
    ∀ (fu fm x : Nat) (lb : LB) (ge : gE) (gp : gP) (a : Nat) (li : Int32) (g : gN) (m : Nat) (sg : List Nd) (n : Nat) (st : ST) (mo : MO),
      CU (lbn lb0) tk gt co lb0 ge0 gp0 gq a0 g0 m0 L0 lb ge gp a li g m sg n st mo → XL (tk, co) a0 a sg → tkn tk - a + 1 < fu → tkn tk - a + 1 < fm → x ≤ a →
      Sim (f_Pa_tails_L6 E S F (nI L0.length) (nI e) cl fu 1 (nI x) st) (f_Mo_member_L26 K (nI e) cl fm (nI n) 1 mo) (PX 1 (lbn lb0) (XL (tk, co) a0) tk gt co lb0 ge0 gp0 gq a0 g0 m0 L0) := by
  intro fu
  induction fu with
  | zero => intro fm x lb ge gp a li g m sg n st mo _ _ h; omega
  | succ fu ih =>
    intro fm x lb ge gp a li g m sg n st mo hU hX hfu hfm hx
    have hU' := hU
    obtain ⟨⟨hw, hc, hq, hd⟩, hF, hN, hO, h5, h6, h7, h8, h9⟩ := hU
    have hT := hw.1.1
    have ha := hw.2.1
    have hlb2 : lbn lb = lbn lb0 := hF.1
    have hon := One_in hO
    have hlen : (L0 ++ sg).length = L0.length + sg.length := by simp
    obtain ⟨fm', rfl⟩ : ∃ q, fm = q + 1 := ⟨fm - 1, by omega⟩
    unfold f_Pa_tails_L6 f_Mo_member_L26
    rw [if_neg (x_le hx ha hT), if_neg (by decide), if_neg (by decide), rs_sign hw.1 hq ha (s := 66) (by decide), bndM_some, nI_1]
    simp only [t01]
    have stop : ∀ (st9 : ST), st9 = st → Sim (f_Pa_tails_L6 E S F (nI L0.length) (nI e) cl fu 0 (nI (x + 1)) st9) (f_Mo_member_L26 K (nI e) cl fm' (nI n) 0 mo) (PX 1 (lbn lb0) (XL (tk, co) a0) tk gt co lb0 ge0 gp0 gq a0 g0 m0 L0) := by
      intro st9 e9
      subst e9
      obtain ⟨fu', rfl⟩ : ∃ q, fu = q + 1 := ⟨fu - 1, by omega⟩
      obtain ⟨fm'', rfl⟩ : ∃ q, fm' = q + 1 := ⟨fm' - 1, by omega⟩
      unfold f_Pa_tails_L6 f_Mo_member_L26
      rw [if_pos rfl, if_pos rfl]
      split
      · exact Sim_ret (CU_PX hU' hX 0)
      · exact Sim_ret (CU_PX hU' hX 0)
    by_cases c66 : f_Tk_sign tk (nI a) = 66
    · -- a member
      have hl := lt_of_sign hT (by omega) c66 (by decide)
      obtain ⟨st1, e1, c1⟩ := cs_acc hc c66
      refine Sim_c e1 ?_
      rw [if_neg (by decide), if_neg (fun h => h c66)]
      obtain ⟨mo1, g1, e2, q1, o1, f1, d1⟩ := rs_make' hq hd (show m < 2600 by omega) 36 0 (q_at mo)
      refine Sim_m e2 ?_
      rw [gM_at hq] at o1
      have q1' := gM_inc q1
      rw [rs_kind hw.1 q1' (by omega) (k := 1) (by decide), bndM_some]
      simp only [t01]
      unfold f_Pa_member
      rw [gC_tk c1, gC_at c1, gC_at hc]
      by_cases ck : f_Tk_kind tk (nI (a + 1)) = 1
      · have hl2 := lt_of_kind hT (by omega) ck (by decide)
        rw [if_pos ck, if_neg (fun h => h ck)]
        obtain ⟨st2, e3, c2⟩ := cs_wrap (pre := L0) (sg := sg) c1 rfl (One_pos hO) (by omega) hT 36 (f_Tk_name tk (nI (a + 1))) (nI a) rfl
        simp only [bnd_as]
        refine Sim_c e3 ?_
        rw [bnd_some]
        rw [if_pos (gM_inb q1' (by omega)), if_pos (inbN (show m < 2600 by omega)), clN (show m < 2600 by omega)]
        have hnm : q_names (s_at mo1 (q_at mo1 + 1)) (q_at (s_at mo1 (q_at mo1 + 1))).toNatClampNeg = f_Tk_name tk (nI (a + 1)) := by rw [(gM_word hw.1 q1' hl2).2.1, (tk_in hT hl2).2.1]
        rw [hnm]
        have q2 := gM_inc (gM_sv q1' (p := m) (f_Tk_name tk (nI (a + 1))))
        have o2 := fun lo hi => Opn_sv (f_Tk_name tk (nI (a + 1))) (o1 lo hi)
        have f2 : FrN g (svN g1 m (f_Tk_name tk (nI (a + 1)))) m := FrN_trans (f1 m (Nat.le_refl _)) (FrN_sv g1 m _ (Nat.le_refl _)) (Nat.le_refl _)
        have on := One_fr hO f2 (Nat.le_refl _)
        obtain ⟨mo3, g3, e4, q3, o3, f3, d3⟩ := rs_hang' q2 (o2 m0 m0) on (Nat.le_refl _) (Nat.le_refl _) (Or.inr (Nat.le_refl _))
        refine Sim_m e4 ?_
        rw [List.nil_append] at o3
        have hone := Opn_one o3 (Nat.le_refl _) (Nat.le_succ m) (by omega) (Nat.lt_succ_self m)
        refine ih fm' (x + 1) lb ge gp (a + 1 + 1) li g3 (m + 1) _ m _ _ ⟨⟨Wf_up hw (by omega) (by omega), gC_inc c2, q3, d3.trans d1⟩, hF, FrN_trans (FrN_trans hN f2 (by omega)) (f3 m0 (Nat.le_refl _) (by omega)) (Nat.le_refl _), hone, by omega, by simp; omega, by omega, h8, h9⟩ (XL_hd (by decide) (by decide) (by omega)) (by omega) (by omega) (by omega)
      · rw [if_neg ck, if_pos ck]
        refine Sim_rr (p := nI (a + 1)) (Ref_bnd (Ref_bnd (Ref_refuse c1 _))) (RefM_bnd ?_) (at_ne hw.1 (by omega))
        rw [gM_at q1']
        exact RefM_refuse _ _
    · refine Sim_c (cs_nacc hc c66) ?_
      rw [if_pos rfl, if_pos c66, rs_sign hw.1 hq ha (s := 62) (by decide), bndM_some]
      simp only [t01]
      by_cases c62 : f_Tk_sign tk (nI a) = 62
      · -- an index
        have hl := lt_of_sign hT (by omega) c62 (by decide)
        obtain ⟨st1, e1, c1⟩ := cs_acc hc c62
        refine Sim_c e1 ?_
        rw [if_neg (by decide), if_neg (fun h => h c62), nI_1]
        obtain ⟨mo1, g1, e2, q1, o1, f1, d1⟩ := rs_make' hq hd (show m < 2600 by omega) 37 0 (q_at mo)
        refine Sim_m e2 ?_
        rw [gM_at hq] at o1
        have on := One_fr hO (f1 m (Nat.le_refl _)) (Nat.le_refl _)
        obtain ⟨mo2, g2, e3, q2, o2, f2, d2⟩ := rs_hang' (gM_inc q1) (o1 m0 m0) on (Nat.le_refl _) (Nat.le_refl _) (Or.inr (Nat.le_refl _))
        refine Sim_m e3 ?_
        rw [List.nil_append] at o2
        refine Sim_bind (h0 tk gt co lb ge gp gq (a + 1) li g2 (m + 1) _ _ _ ⟨Wf_up hw (by omega) (by omega), c1, q2, d2.trans d1⟩ (by omega) (by omega) (by omega)) ?_
        intro r st3 n3 mo3 h3
        obtain ⟨lb3, ge3, gp3, a3, li3, g3, m3, sg3, n3', rfl, w3, c3, q3, d3, fr3, fn3, o3, l1, l2, l3, l4, l5, l6, l7, _⟩ := PX_le h3
        have o2' := Opn_fr o2 fn3 (Nat.le_succ m) (Nat.lt_succ_self m)
        obtain ⟨mo4, g4, e4, q4, o4, f4, d4⟩ := rs_hang' q3 o2' o3 (Nat.le_succ m) (by omega) (Or.inl (Nat.lt_succ_self m))
        refine Sim_m e4 ?_
        refine sm_expect w3.1 l2 c3 q4 (by decide) ?_
        intro hl5 hs5 st5 mo5 c5 q5
        obtain ⟨st6, e6, c6⟩ := cs_wrap (pre := L0) (sg := sg ++ sg3) c5 (by simp) (by have := One_pos hO; simp; omega) (by omega) hT 37 0 (sAt st) rfl
        refine Sim_c e6 ?_
        rw [gC_at hc] at c6
        have hone := Opn_one o4 (Nat.le_refl _) (Nat.le_refl _) (by omega) (by omega)
        refine ih fm' (x + 1) lb3 ge3 gp3 (a3 + 1) li3 g4 m3 _ m _ _ ⟨⟨Wf_up w3 (by omega) (by omega), c6, q5, d4.trans d3⟩, Fr_trans hF fr3 (by rw [hlb2]; exact Nat.le_refl _), ?_, hone, by omega, by simp; omega, by omega, h8, h9⟩ (XL_hd (by decide) (by decide) (by omega)) (by omega) (by omega) (by omega)
        exact FrN_trans (FrN_trans (FrN_trans (FrN_trans hN (f1 m (Nat.le_refl _)) (by omega)) (f2 m0 (Nat.le_refl _) (by omega)) (Nat.le_refl _)) fn3 (by omega)) (f4 m0 (Nat.le_refl _) (by omega)) (Nat.le_refl _)
      · refine Sim_c (cs_nacc hc c62) ?_
        rw [if_pos rfl, if_pos c62]
        by_cases ccl : cl = 0
        · rw [if_pos ccl, if_pos ccl]
          exact stop st rfl
        · rw [if_neg ccl, if_neg ccl, rs_sign hw.1 hq ha (s := 60) (by decide), bndM_some]
          simp only [t01]
          by_cases c60 : f_Tk_sign tk (nI a) = 60
          · -- a call
            have hl := lt_of_sign hT (by omega) c60 (by decide)
            obtain ⟨st1, e1, c1⟩ := cs_acc hc c60
            refine Sim_c e1 ?_
            rw [if_neg (by decide), if_neg (fun h => h c60)]
            obtain ⟨mo1, g1, e2, q1, o1, f1, d1⟩ := rs_make' hq hd (show m < 2600 by omega) 38 0 (q_at mo)
            refine Sim_m e2 ?_
            rw [gM_at hq] at o1
            have on := One_fr hO (f1 m (Nat.le_refl _)) (Nat.le_refl _)
            obtain ⟨mo2, g2, e3, q2, o2, f2, d2⟩ := rs_hang' q1 (o1 m0 m0) on (Nat.le_refl _) (Nat.le_refl _) (Or.inr (Nat.le_refl _))
            refine Sim_m e3 ?_
            rw [List.nil_append] at o2
            unfold f_Mo_arguments
            have hA := sm_argl2 (S := S) (F := F) (start := nI L0.length) (calls := cl) he (z := m0) (p := m) (lo := m0) ⟨Wf_up hw (show a ≤ a + 1 by omega) (by omega), c1, gM_inc q2, d2.trans d1⟩ (by omega) (by omega) (by omega) (Opn_wd o2 (Nat.le_refl _) (Nat.le_succ m)) (Nat.le_refl _) (by omega) (Nat.lt_succ_self m) (by omega)
            refine Sim_bind hA ?_
            intro r5 st5 n5 mo5 h5'
            obtain ⟨lb', ge', gp', a', li', g', m', sg', ⟨w', c', q', d'⟩, b2, b3, b4, b5, b6, b7, b8, _⟩ := h5'
            have ha' := w'.2.1
            obtain ⟨st6, e6, c6⟩ := cs_wrap (pre := L0) (sg := sg ++ sg') c' (by simp) (by have := One_pos hO; simp; omega) (by simp; omega) hT 38 0 (sAt st) rfl
            refine Sim_c e6 ?_
            rw [gC_at hc] at c6
            have hone := Opn_one b4 (Nat.le_refl _) (Nat.le_refl _) (by omega) (by omega)
            refine ih fm' (x + 1) lb' ge' gp' a' li' g' m' _ m _ _ ⟨⟨w', c6, q', d'⟩, Fr_trans hF b2 (by rw [hlb2]; exact Nat.le_refl _), ?_, hone, by omega, by simp; omega, by omega, h8, h9⟩ (XL_hd (by decide) (by decide) (by omega)) (by omega) (by omega) (by omega)
            exact FrN_trans (FrN_trans (FrN_trans hN (f1 m (Nat.le_refl _)) (by omega)) (f2 m0 (Nat.le_refl _) (by omega)) (Nat.le_refl _)) b3 (Nat.le_refl _)
          · refine Sim_c (cs_nacc hc c60) ?_
            rw [if_pos rfl, if_pos c60]
            exact stop st rfl
end PUT
