/-! an object as a whole; the operand -/
section PWQ
variable {tk : TK} {lb lb0 : LB} {co : CO} {L0 L : List Nd} {st : ST} {gt : gT} {ge ge0 : gE} {gp gp0 : gP} {gq : gQ} {a mk p aO : Nat} {li : Int32} {g g0 : gN} {mo : MO} {m e : Nat} {ps : List Pt}
variable {E : Int32 → Int32 → Int32 → ST → Rz} {S : Int32 → Int32 → ST → Rz} {F : Int32 → Int32 → ST → Rz} {K K' : Nat → List Int32 → MO → Rm}
/-- behind the } of an object -/
def OZ (r0 : Int32) (tk : TK) (gt : gT) (co : CO) (lb0 : LB) (ge0 : gE) (gp0 : gP) (gq : gQ) (mk p aO : Nat) (L0 : List Nd) (g0 : gN) : Int32 → ST → Int32 → MO → Prop := fun _ st n mo =>
  n = r0 ∧ ∃ (ps : List Pt) (lb : LB) (ge : gE) (gp : gP) (a : Nat) (li : Int32) (g : gN) (m : Nat), RR tk gt co lb ge (nI mk, gp.2) gq (a + 1) li g m (L0 ++ (46, 0, nI aO, 1) :: flatP ps) st mo ∧ Fr (lbn lb0) lb0 lb ge0 ge gp0 (nI mk, gp.2) ∧ FrN g0 g p ∧ Opn g p 46 0 (nI aO) (flatP ps) (p + 1) m ∧ p < m ∧ aO < a ∧ (flatP ps).length + 2 ≤ 2 * (a - aO) ∧ m + 1 ≤ p + 2 * (a - aO)
theorem OS_OZ (r0 : Int32) (h : OS tk gt co lb0 ge0 gp0 gq mk p aO L0 g0 ps lb ge gp a li g m st mo) (hl : a < tkn tk) {st' : ST} (hst : gC tk lb co (a + 1) li (L0 ++ (46, 0, nI aO, 1) :: flatP ps) st') (r : Int32) : OZ r0 tk gt co lb0 ge0 gp0 gq mk p aO L0 g0 r st' r0 (s_at (s_properties mo (nI mk)) (q_at mo + 1)) := by
  obtain ⟨⟨hw, hc, hq, hd⟩, hP, hFr, hFN, hOp, o1, o2, o3, o4, o5⟩ := h
  have hT := hw.1.1
  have hq2 : gM gt ge (nI mk, gp.2) gq (a + 1) li g (s_at (s_properties mo (nI mk)) (q_at mo + 1)) := by
    have := gM_at hq
    rw [this, nI_1]
    obtain ⟨th, rfl⟩ := hq
    exact ⟨th, rfl⟩
  exact ⟨rfl, ps, lb, ge, gp, a, li, g, m, ⟨Wf_gp (Wf_up hw (by omega) (by omega)) rfl (show mk ≤ a + 1 by omega), hst, hq2, hd⟩, hFr, hFN, hOp, o1, o2, o3, o4⟩
theorem sm_objP (he : HC 1 2 XA (E 0 (nI (e + 1)) 1) (K 1 [nI (e + 1), 1]) (e + 1)) (h8 : HC 1 2 XL (F 48 (nI e)) (fun mo => f_Mo_function K mo 48 (nI e)) e) (h9 : HC 1 2 XL (F 49 (nI e)) (fun mo => f_Mo_function K mo 49 (nI e)) e)
    (hlb : lbn lb0 < e) (b6 : L0.length ≤ 2 * aO + 2) (b7 : p ≤ 2 * aO + 2) (hmk : gp0.1 = nI mk) (r0 : Int32) :
    ∀ (fu fm x : Nat) (ps : List Pt) (lb : LB) (ge : gE) (gp : gP) (a : Nat) (li : Int32) (g : gN) (m : Nat) (st : ST) (mo : MO), OS tk gt co lb0 ge0 gp0 gq mk p aO L0 g0 ps lb ge gp a li g m st mo → tkn tk - a < fu → tkn tk - a < fm → x ≤ a →
      Sim (bnd (f_Pa_openProperty st (nI L0.length)) (fun r_8 st_8 => (if (f_Tr_kind (sTr st_8) r_8) = 47 then (bnd (E 0 (nI e + 1) 1 st_8) (fun _ st_12 => (bnd (p_close st_12 r_8) (fun _ st_13 => f_Pa_object_L27 E S F (nI e) (nI L0.length) fu (nI (x + 1)) st_13)))) else (bnd (F (f_Tr_kind (sTr st_8) r_8) (nI e) st_8) (fun _ st_10 => (bnd (p_close st_10 r_8) (fun _ st_13 => f_Pa_object_L27 E S F (nI e) (nI L0.length) fu (nI (x + 1)) st_13))))))) (bndM (f_Mo_property K mo (nI p) (nI mk) (nI e)) (fun _ mo_5 => (bndM (f_Mo_isSign mo_5 65) (fun r_6 mo_6 => (if r_6 = 0 then (bndM (f_Mo_expect mo_6 68) (fun _ mo_8 => bndM (f_Mo_object_L12 K (nI e) (nI p) (nI mk) fm mo_8) (fun _ se => some (.inr (r0, s_at (s_properties se (nI mk)) (q_at se + 1)))))) else bndM (f_Mo_object_L12 K (nI e) (nI p) (nI mk) fm mo_6) (fun _ se => some (.inr (r0, s_at (s_properties se (nI mk)) (q_at se + 1))))))))) (OZ r0 tk gt co lb0 ge0 gp0 gq mk p aO L0 g0) := by
  intro fu
  induction fu with
  | zero => intro fm x ps lb ge gp a li g m st mo _ h; omega
  | succ fu ih =>
    intro fm x ps lb ge gp a li g m st mo hO hfu hfm hx
    obtain ⟨fm', rfl⟩ : ∃ q, fm = q + 1 := ⟨fm - 1, by omega⟩
    refine sm_prop he h8 h9 hO hlb b6 b7 hmk ?_
    intro st1 mo1 lb1 ge1 gp1 a1 li1 g1 m1 ps1 hO1 hlt
    have hO1' := hO1
    obtain ⟨⟨hw, hc, hq, hd⟩, hP, hFr, hFN, hOp, o1, o2, o3, o4, o5⟩ := hO1
    have hT := hw.1.1
    have ha := hw.2.1
    unfold f_Pa_object_L27
    rw [if_neg (x_le (x := x + 1) (show x + 1 ≤ a1 by omega) ha hT), rs_sign hw.1 hq ha (s := 65) (by decide), bndM_some]
    have ret : ∀ (a2 : Nat) (mo2 : MO) (fz : Nat), gM gt ge1 gp1 gq a2 li1 g1 mo2 → a2 ≤ tkn tk → f_Tk_sign tk (nI a2) = 65 → f_Mo_object_L12 K (nI e) (nI p) (nI mk) (fz + 1) mo2 = some (.inr (0, mo2)) := by
      intro a2 mo2 fz q2 h2 s2
      unfold f_Mo_object_L12
      rw [rs_sign hw.1 q2 h2 (s := 65) (by decide), bndM_some, if_pos s2, if_neg n10]
    by_cases c65 : f_Tk_sign tk (nI a1) = 65
    · have hl := lt_of_sign hT (by omega) c65 (by decide)
      obtain ⟨st2, e2, c2⟩ := cs_acc hc c65
      have en : f_Cu_nextProperty st1 (nI (x + 1)) = some (.inr (0, st2)) := by
        unfold f_Cu_nextProperty
        rw [e2, bnd_some, if_neg n10]
      rw [en, bnd_some, if_pos rfl, if_pos c65, if_neg n10, ret a1 mo1 fm' hq ha c65, bndM_some]
      exact Sim_ret (OS_OZ r0 hO1' hl c2 0)
    · have en : f_Cu_nextProperty st1 (nI (x + 1)) = bnd (f_Cu_expect st1 68) (fun _ st_6 => (bnd (f_Cu_accept st_6 65) (fun r_7 st_7 => (if r_7 = 0 then (some (.inr (1, st_7))) else (some (.inr (0, st_7))))))) := by
        unfold f_Cu_nextProperty
        rw [cs_nacc hc c65, bnd_some, if_pos rfl, if_neg (nI_nle (by omega) (by omega))]
      rw [en, bnd_as, if_neg c65, if_pos rfl]
      refine sm_expect hw.1 ha hc hq (by decide) ?_
      intro hl2 hs2 st2 mo2 c2 q2
      have hO2 : OS tk gt co lb0 ge0 gp0 gq mk p aO L0 g0 ps1 lb1 ge1 gp1 (a1 + 1) li1 g1 m1 st2 mo2 := ⟨⟨Wf_up hw (by omega) (by omega), c2, q2, hd⟩, hP, hFr, hFN, hOp, o1, by omega, by omega, by omega, by omega⟩
      rw [bnd_as]
      by_cases d65 : f_Tk_sign tk (nI (a1 + 1)) = 65
      · have hl3 := lt_of_sign hT (by omega) d65 (by decide)
        obtain ⟨st3, e3, c3⟩ := cs_acc c2 d65
        rw [e3, bnd_some, if_neg n10, bnd_some, if_pos rfl, ret (a1 + 1) mo2 fm' q2 (by omega) d65, bndM_some]
        exact Sim_ret (OS_OZ r0 hO2 hl3 c3 0)
      · rw [cs_nacc c2 d65, bnd_some, if_pos rfl, bnd_some, if_neg n10, nI_1 (x + 1)]
        have e12 : f_Mo_object_L12 K (nI e) (nI p) (nI mk) (fm' + 1) mo2 = bndM (f_Mo_property K mo2 (nI p) (nI mk) (nI e)) (fun _ mo_5 => (bndM (f_Mo_isSign mo_5 65) (fun r_6 mo_6 => (if r_6 = 0 then (bndM (f_Mo_expect mo_6 68) (fun _ mo_8 => (f_Mo_object_L12 K (nI e) (nI p) (nI mk) fm' mo_8))) else (f_Mo_object_L12 K (nI e) (nI p) (nI mk) fm' mo_6))))) := by
          rw [f_Mo_object_L12.eq_def]
          show bndM (f_Mo_isSign mo2 65) _ = _
          rw [rs_sign hw.1 q2 (show a1 + 1 ≤ tkn tk by omega) (s := 65) (by decide), bndM_some, if_neg d65, if_pos rfl]
        rw [e12]
        simp only [bndM_as, bndM_ite]
        exact ih fm' (x + 1) ps1 lb1 ge1 gp1 (a1 + 1) li1 g1 m1 st2 mo2 hO2 (by omega) (by omega) (by omega)
theorem sm_object (he : HC 1 2 XA (E 0 (nI (e + 1)) 1) (K 1 [nI (e + 1), 1]) (e + 1)) (h8 : HC 1 2 XL (F 48 (nI e)) (fun mo => f_Mo_function K mo 48 (nI e)) e) (h9 : HC 1 2 XL (F 49 (nI e)) (fun mo => f_Mo_function K mo 49 (nI e)) e)
    (hR : RR tk gt co lb ge gp gq a li g m L st mo) (hlb : lbn lb < e) (hL : L.length ≤ 2 * a + 2) (hm : m ≤ 2 * a + 2) (hs : f_Tk_sign tk (nI a) = 64) :
    Sim (f_Pa_object E S F st (nI e)) (f_Mo_object K mo (nI e)) (PX 1 (lbn lb) (XL (tk, co) a) tk gt co lb ge gp gq a g m L) := by
  obtain ⟨hw, hc, hq, hd⟩ := hR
  have hT := hw.1.1
  have ha := hw.2.1
  have hl := lt_of_sign hT (by omega) hs (by decide)
  obtain ⟨mk, hmk, hmkb⟩ := mk_of hw
  unfold f_Pa_object f_Mo_object
  obtain ⟨st1, e1, c1⟩ := cs_open hc (by omega) hT 46 0 (sAt st)
  rw [gC_at hc] at c1
  refine Sim_c e1 ?_
  obtain ⟨mo1, g1, e2, q1, o1, f1, d1⟩ := rs_plain hq hd (show m < 2600 by omega) 46
  refine Sim_m e2 ?_
  have epr : q_properties mo1 = nI mk := by show mo1.2.2.2.2.1.1 = _; rw [gM_gp q1]; exact hmk
  rw [epr]
  have ege : (nI mk, gp.2) = gp := by rw [← hmk]
  have hO : OS tk gt co lb ge gp gq mk m a L g [] lb ge gp (a + 1) li g1 (m + 1) (setAt st1 (sAt st1 + 1)) mo1 := by
    refine ⟨⟨Wf_up hw (by omega) (by omega), gC_inc c1, q1, d1⟩, ⟨hmk, by simp; omega, ?_⟩, by rw [ege]; exact Fr_refl _ _ _ _, f1 m (Nat.le_refl _), o1 _ _, by omega, by omega, by simp [flatP], by omega, by simp; omega⟩
    intro i q h
    simp at h
  have body : Sim (f_Pa_object_L27 E S F (nI e) (nI L.length) 5000 0 (setAt st1 (sAt st1 + 1))) (bndM (f_Mo_object_L12 K (nI e) (nI m) (nI mk) 5000 mo1) (fun _ se => some (.inr (nI m, s_at (s_properties se (nI mk)) (q_at se + 1))))) (OZ (nI m) tk gt co lb ge gp gq mk m a L g) := by
    have c1' := gC_inc c1
    unfold f_Pa_object_L27 f_Mo_object_L12
    rw [if_neg (show ¬ (1000 : Int32) < 0 by decide), rs_sign hw.1 q1 (show a + 1 ≤ tkn tk by omega) (s := 65) (by decide), bndM_some]
    by_cases c65 : f_Tk_sign tk (nI (a + 1)) = 65
    · have hl2 := lt_of_sign hT (by omega) c65 (by decide)
      obtain ⟨st2, e2', c2⟩ := cs_acc c1' c65
      have en : f_Cu_nextProperty (setAt st1 (sAt st1 + 1)) 0 = some (.inr (0, st2)) := by
        unfold f_Cu_nextProperty
        rw [e2', bnd_some, if_neg n10]
      rw [en, bnd_some, if_pos rfl, if_pos c65, if_neg n10, bndM_some]
      exact Sim_ret (OS_OZ (nI m) hO hl2 c2 0)
    · have en : f_Cu_nextProperty (setAt st1 (sAt st1 + 1)) 0 = some (.inr (1, setAt st1 (sAt st1 + 1))) := by
        unfold f_Cu_nextProperty
        rw [cs_nacc c1' c65, bnd_some, if_pos rfl, if_pos (show (0 : Int32) ≤ 0 by decide), cs_nacc c1' c65, bnd_some, if_pos rfl]
      rw [en, bnd_some, if_neg n10, if_neg c65, if_pos rfl]
      simp only [bndM_as, bndM_ite]
      exact sm_objP (S := S) he h8 h9 hlb hL hm hmk (nI m) 4999 4999 0 [] lb ge gp (a + 1) li g1 (m + 1) _ mo1 hO (by omega) (by omega) (by omega)
  refine Sim_bindC body ?_
  rintro r st2 n mo2 ⟨rfl, ps, lb', ge', gp', a', li', g', m', ⟨w', c', q', d'⟩, b2, b3, b4, b5, b6, b7, b8⟩
  have ha' := w'.2.1
  have hll : (L ++ (46, 0, nI a, (1 : Int32)) :: flatP ps).length = L.length + 1 + (flatP ps).length := by simp; omega
  obtain ⟨st3, e3, c3⟩ := cs_close (pre := L) (k := 46) (v := 0) (w := nI a) (z := 1) (bd := flatP ps) c' rfl (by omega) rfl
  refine Sim_c e3 ?_
  exact Sim_ret ⟨lb', ge', (nI mk, gp'.2), a' + 1, li', g', m', _, m, rfl, ⟨w', c3, q', d'⟩, b2, b3, Opn_one b4 (by omega) (Nat.le_refl _) (Nat.le_refl _) (by omega), by omega, by simp; omega, by omega, XL_hk (by rw [sign_kind hT (by omega) hs (by decide)]; decide) (by decide)⟩
/-- the operand -/
theorem sm_prim (hE : HE E K (e + 1)) (h50 : HD 1 2 (Pw 11) XL (F 50 (nI e)) (fun mo => f_Mo_function K mo 50 (nI e)) e) (h8 : HC 1 2 XL (F 48 (nI e)) (fun mo => f_Mo_function K mo 48 (nI e)) e) (h9 : HC 1 2 XL (F 49 (nI e)) (fun mo => f_Mo_function K mo 49 (nI e)) e) (hee : e ≤ 100) : HP E S F K e := by
  obtain ⟨hE0, hE1, hE2, hE3, hE4⟩ := hE
  intro tk gt co lb ge gp gq a li g m L st mo hR hlb hL hm
  have hR' := hR
  obtain ⟨hw, hc, hq, hd⟩ := hR
  have hT := hw.1.1
  have ha := hw.2.1
  have k2 := rs_kind hw.1 hq ha (k := 2) (by decide)
  have k3 := rs_kind hw.1 hq ha (k := 3) (by decide)
  have k5 := rs_kind hw.1 hq ha (k := 5) (by decide)
  have w18 := rs_word hw.1 hq ha (s := 18) (by decide) (by decide)
  have w27 := rs_word hw.1 hq ha (s := 27) (by decide) (by decide)
  have w28 := rs_word hw.1 hq ha (s := 28) (by decide) (by decide)
  have w26 := rs_word hw.1 hq ha (s := 26) (by decide) (by decide)
  have w11 := rs_word hw.1 hq ha (s := 11) (by decide) (by decide)
  have s62 := rs_sign hw.1 hq ha (s := 62) (by decide)
  have s64 := rs_sign hw.1 hq ha (s := 64) (by decide)
  have s60 := rs_sign hw.1 hq ha (s := 60) (by decide)
  show Sim (xPrim E S F st (nI e)) (bndM (f_Mo_isWord mo 15) _) _
  unfold xPrim
  rw [rs_word hw.1 hq ha (s := 15) (by decide) (by decide), bndM_some, cu_sign hc, cu_sign hc, cu_sign hc, cu_word hc, cu_word hc]
  simp only [t01]
  -- a sign that begins an operand
  have sgn : ∀ s : Int32, f_Tk_sign tk (nI a) = s → ¬ s = -1 → f_Tk_kind tk (nI a) = 4 ∧ f_Tk_keyword tk (nI a) = -1 := by
    intro s h1 h2
    have k4 := sign_kind hT (by omega) h1 h2
    exact ⟨k4, (tk_noword hT (by omega) (by rw [k4]; decide)).1⟩
  have red : f_Tk_kind tk (nI a) = 4 → f_Tk_keyword tk (nI a) = -1 → f_Mo_primary K mo (nI e) = (if ¬ f_Tk_sign tk (nI a) = 62 then (if ¬ f_Tk_sign tk (nI a) = 64 then (if ¬ f_Tk_sign tk (nI a) = 60 then (bndM (f_Mo_identifier mo) (fun r_24 mo_24 => (bndM (f_Mo_make mo_24 28 r_24 (q_at mo)) (fun r_25 mo_25 => (some (.inr (r_25, mo_25))))))) else (bndM (K 0 [(nI e + 1), 1] (s_at mo ((q_at mo) + 1))) (fun r_26 mo_26 => (bndM (f_Mo_expect mo_26 61) (fun _ mo_27 => (some (.inr (r_26, mo_27)))))))) else (bndM (f_Mo_object K mo (nI e)) (fun r_28 mo_28 => (some (.inr (r_28, mo_28)))))) else (bndM (f_Mo_array K mo (nI e)) (fun r_29 mo_29 => (some (.inr (r_29, mo_29)))))) := by
    intro h4 hk
    have e2 : ¬ f_Tk_kind tk (nI a) = 2 := by rw [h4]; decide
    have e3 : ¬ f_Tk_kind tk (nI a) = 3 := by rw [h4]; decide
    have e5 : ¬ f_Tk_kind tk (nI a) = 5 := by rw [h4]; decide
    have v18 : ¬ f_Tk_keyword tk (nI a) = 18 := by rw [hk]; decide
    have v27 : ¬ f_Tk_keyword tk (nI a) = 27 := by rw [hk]; decide
    have v28 : ¬ f_Tk_keyword tk (nI a) = 28 := by rw [hk]; decide
    have v26 : ¬ f_Tk_keyword tk (nI a) = 26 := by rw [hk]; decide
    have v11 : ¬ f_Tk_keyword tk (nI a) = 11 := by rw [hk]; decide
    unfold f_Mo_primary
    rw [rs_deep mo hee, bndM_some, k2, bndM_some, if_neg e2, if_pos rfl, k3, bndM_some, if_neg e3, if_pos rfl, k5, bndM_some, if_neg e5, if_pos rfl, w18, bndM_some, if_neg v18, if_pos rfl, w27, bndM_some, if_neg v27, if_pos rfl, w28, bndM_some, if_neg v28, if_pos rfl, w26, bndM_some, if_neg v26, if_pos rfl, w11, bndM_some, if_neg v11, if_pos rfl, s62, bndM_some]
    simp only [t01, s64, s60, bndM_some]
  by_cases c60 : f_Tk_sign tk (nI a) = 60
  · obtain ⟨h4, hk⟩ := sgn 60 c60 (by decide)
    have n15 : ¬ f_Tk_keyword tk (nI a) = 15 := by rw [hk]; decide
    have n62 : ¬ f_Tk_sign tk (nI a) = 62 := by rw [c60]; decide
    have n64 : ¬ f_Tk_sign tk (nI a) = 64 := by rw [c60]; decide
    have nn : ¬ ¬ f_Tk_sign tk (nI a) = 60 := fun h => h c60
    rw [if_neg nn, if_pos n15, red h4 hk, if_pos n62, if_pos n64, if_neg nn]
    exact sm_group (hE0 1 (Or.inr rfl)) hR' hlb hL hm c60
  · rw [if_pos c60]
    by_cases c62 : f_Tk_sign tk (nI a) = 62
    · obtain ⟨h4, hk⟩ := sgn 62 c62 (by decide)
      have n15 : ¬ f_Tk_keyword tk (nI a) = 15 := by rw [hk]; decide
      have nn : ¬ ¬ f_Tk_sign tk (nI a) = 62 := fun h => h c62
      rw [if_neg nn, if_pos n15, red h4 hk, if_neg nn]
      exact Sim_bindM (sm_array (hE1 1 (Or.inr rfl)) hR' hlb hL hm c62) (fun _ _ _ _ h => Sim_ret h)
    · rw [if_pos c62]
      by_cases c64 : f_Tk_sign tk (nI a) = 64
      · obtain ⟨h4, hk⟩ := sgn 64 c64 (by decide)
        have n15 : ¬ f_Tk_keyword tk (nI a) = 15 := by rw [hk]; decide
        have nn : ¬ ¬ f_Tk_sign tk (nI a) = 64 := fun h => h c64
        rw [if_neg nn, if_pos n15, red h4 hk, if_pos c62, if_neg nn]
        exact Sim_bindM (sm_object (hE1 1 (Or.inr rfl)) h8 h9 hR' hlb hL hm c64) (fun _ _ _ _ h => Sim_ret h)
      · rw [if_pos c64]
        by_cases c11 : f_Tk_keyword tk (nI a) = 11
        · have k1 := word_kind hT (by omega) c11 (by decide)
          have n15 : ¬ f_Tk_keyword tk (nI a) = 15 := by rw [c11]; decide
          have nn : ¬ ¬ f_Tk_keyword tk (nI a) = 11 := fun h => h c11
          have e2 : ¬ f_Tk_kind tk (nI a) = 2 := by rw [k1]; decide
          have e3 : ¬ f_Tk_kind tk (nI a) = 3 := by rw [k1]; decide
          have e5 : ¬ f_Tk_kind tk (nI a) = 5 := by rw [k1]; decide
          have v18 : ¬ f_Tk_keyword tk (nI a) = 18 := by rw [c11]; decide
          have v27 : ¬ f_Tk_keyword tk (nI a) = 27 := by rw [c11]; decide
          have v28 : ¬ f_Tk_keyword tk (nI a) = 28 := by rw [c11]; decide
          have v26 : ¬ f_Tk_keyword tk (nI a) = 26 := by rw [c11]; decide
          rw [if_neg nn, if_pos n15]
          unfold f_Mo_primary
          rw [rs_deep mo hee, bndM_some, k2, bndM_some, if_neg e2, if_pos rfl, k3, bndM_some, if_neg e3, if_pos rfl, k5, bndM_some, if_neg e5, if_pos rfl, w18, bndM_some, if_neg v18, if_pos rfl, w27, bndM_some, if_neg v27, if_pos rfl, w28, bndM_some, if_neg v28, if_pos rfl, w26, bndM_some, if_neg v26, if_pos rfl, w11, bndM_some, if_pos c11, if_neg n10]
          exact Sim_bindM (h50 tk gt co lb ge gp gq a li g m L st mo hR' c11 hlb hL hm) (fun _ _ _ _ h => Sim_ret h)
        · rw [if_pos c11]
          by_cases c15 : f_Tk_keyword tk (nI a) = 15
          · have nn : ¬ ¬ f_Tk_keyword tk (nI a) = 15 := fun h => h c15
            rw [if_neg nn, if_neg nn]
            exact sm_new (hE1 1 (Or.inr rfl)) hE4 hR' hlb hee hL hm c15
          · rw [if_pos c15, if_pos c15]
            exact sm_leaf hR' hee hL hm c60 c62 c64 c11
end PWQ
