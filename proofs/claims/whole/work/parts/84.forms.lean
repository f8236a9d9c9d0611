/-! the four forms of a function -/
section PWC
variable {tk : TK} {lb : LB} {co : CO} {L : List Nd} {st : ST} {gt : gT} {ge : gE} {gp : gP} {gq : gQ} {a : Nat} {li : Int32} {g : gN} {mo : MO} {m e : Nat}
variable {E : Int32 → Int32 → Int32 → ST → Rz} {S : Int32 → Int32 → ST → Rz} {F : Int32 → Int32 → ST → Rz} {K K' : Nat → List Int32 → MO → Rm}
theorem gM_loose0 (h : gM gt ge gp gq a li g mo) : gM gt (geL ge 0) gp gq a li g (s_loose mo 0) := gM_loose h 0
theorem FS_0 {lz val : Int32} {ok0 : Prop} {p aF mk : Nat} {kd : Int32} (hw : Wf tk gt co lb ge gp aF) (hmk : gp.1 = nI mk) (hmkb : mk ≤ aF) (hc : gC tk lb co a li (L ++ [(kd, val, nI aF, 1)]) st) (hq : gM gt (geL ge lz) gp gq a li g mo) (hlz : lz = 0 ∨ lz = 1) (hok : lz = 0 ↔ ok0) (hd : nM g = nI (p + 1)) (hO : Opn g p kd val (nI aF) [] (p + 1) (p + 1)) (ha : a ≤ tkn tk) (haf : aF < a) : FS tk gt co lb ge gp gq mk p kd val aF L ok0 [] a li g st mo := by
  have hT := hw.1.1
  refine ⟨hc, lz, gp, hq, hlz, ?_, ⟨hmk, by simp; omega, ?_⟩, fun i _ => ⟨rfl, rfl⟩, hd, hO, ha, by simp; omega, by simp; omega⟩
  · constructor
    · intro h; exact ⟨hok.mp h, trivial⟩
    · intro h; exact hok.mpr h.1
  · intro i q h
    simp at h
/-- hypotheses of the calls in a body -/
def HB (S : Int32 → Int32 → ST → Rz) (F : Int32 → Int32 → ST → Rz) (K K' : Nat → List Int32 → MO → Rm) (e : Nat) : Prop :=
  HSt (fun o st => S (nI (e + 1)) o st) (fun o mo => f_Mo_statement K' mo (nI (e + 1)) o) (e + 1) ∧ (∀ o, HEnd (fun st => S (nI (e + 1)) o st)) ∧ HD 0 1 (Pw 11) XT (fun st => F 24 (nI (e + 1)) st) (fun mo => f_Mo_declaration K' mo (nI (e + 1))) (e + 1) ∧ (∀ (q br : Int32) (mo : MO), K 6 [q, nI (e + 1), br] mo = f_Mo_statements K' mo q (nI (e + 1)) br)
theorem mk_of (hw : Wf tk gt co lb ge gp a) : ∃ mk, gp.1 = nI mk ∧ mk ≤ a := by
  obtain ⟨pr, h1, h2⟩ := hw.2.2.2.2.2.2.2.2
  exact ⟨pr, h1, h2⟩
/-- from the ( on, for a list of parameters -/
theorem sm_fhead (hB : HB S F K K' e) {form val : Int32} {ok0 : Prop} {p aF mk : Nat} {kd : Int32} {g0 : gN} (hform : ¬ form = 48 ∧ ¬ form = 49) (hw : Wf tk gt co lb ge gp aF) (hmk : gp.1 = nI mk) (hmkb : mk ≤ aF) (h0 : ok0 ↔ (kd = 24 ∨ ¬ val = 0) → mayB tk (aF + 1)) (hlb : lbn lb < e) (hL : L.length ≤ 2 * aF + 2) (hp : p ≤ 2 * aF + 2) (hz : FrN g0 g p) (hkd : ¬ kd = 30) (hkd2 : ¬ kd = 28) (hkd3 : ¬ kd = 2)
    (hF : ∀ st' mo', gC tk lb co (a + 1) li (L ++ [(kd, val, nI aF, 1)]) st' → (∀ ge1 gp1, gM gt ge1 gp1 gq a li g mo → gM gt ge1 gp1 gq (a + 1) li g mo') → a < tkn tk → FS tk gt co lb ge gp gq mk p kd val aF L ok0 [] (a + 1) li g st' mo')
    (hc : gC tk lb co a li (L ++ [(kd, val, nI aF, 1)]) st) {lz : Int32} (hq : gM gt (geL ge lz) gp gq a li g mo) (ha : a ≤ tkn tk) :
    Sim (bnd (f_Pa_parameters st (nI L.length) form) (fun _ st_3 => xfB E S F form (nI e) (nI L.length) st_3)) (bndM (f_Mo_expect mo 60) (fun _ mo3 => bndM (f_Mo_parameters mo3 (nI p)) (fun _ mo4 => bndM (f_Mo_expect mo4 61) (fun _ mo5 => fnB K (nI e) ge.2.2.1 (nI p) mo5)))) (PX 1 (lbn lb) (XL (tk, co) aF) tk gt co lb ge gp gq aF g0 p L) := by
  obtain ⟨hS, hSe, hD, hK6⟩ := hB
  have hT := hw.1.1
  unfold f_Pa_parameters
  rw [bnd_as]
  by_cases c60 : f_Tk_sign tk (nI a) = 60
  · have hl := lt_of_sign hT (by omega) c60 (by decide)
    have ex : f_Cu_expect st 60 = some (.inr (0, setAt st (sAt st + 1))) := by
      unfold f_Cu_expect; rw [gC_tk hc, gC_at hc, if_pos c60]
    have ey : f_Mo_expect mo 60 = some (.inr (0, s_at mo (q_at mo + 1))) := by
      unfold f_Mo_expect
      rw [rs_sign hw.1 hq ha (s := 60) (by decide), if_pos c60, bndM_some, if_neg n10]
    rw [ex, ey, bnd_some, bndM_some, if_neg hform.1, if_neg hform.2, bnd_as]
    have hFS := hF _ _ (gC_inc hc) (fun ge1 gp1 h => gM_inc h) hl
    have hp1 := sm_pars (form := form) hw.1 hw.2.2.1.1 hw.2.2.1.2 (by omega) (by omega) hFS hz
    have as : ∀ (x : Rm) (k' : Int32 → MO → Rm), bndM x (fun _ mo4 => bndM (f_Mo_expect mo4 61) k') = bndM (bndM x (fun _ mo4 => f_Mo_expect mo4 61)) k' := fun x k' => (bndM_as _ _ _).symm
    rw [as]
    refine Sim_bind hp1 ?_
    rintro r st3 n mo3 ⟨ps', a', li', g', hFE, hz'⟩
    rw [bnd_some]
    exact sm_fbody hS hSe hD hK6 hw hmk hmkb hFE h0 hlb hL hp hz' hkd hkd2 hkd3
  · refine Sim_rr (p := nI a) (Ref_bnd ?_) (RefM_bnd ?_) (at_ne hw.1 ha)
    · unfold f_Cu_expect
      rw [gC_tk hc, gC_at hc, if_neg c60]
      exact Ref_bnd (Ref_refuse hc _)
    · unfold f_Mo_expect
      rw [rs_sign hw.1 hq ha (s := 60) (by decide), bndM_some, if_neg c60, if_pos rfl, gM_at hq]
      exact RefM_bnd (RefM_refuse _ _)
theorem sm_fn24 (hB : HB S F K K' e) (hee : e ≤ 100) : HD 1 2 (Pw 11) XL (fun st => f_Pa_function E S F st 24 (nI e)) (fun mo => f_Mo_declaration K mo (nI e)) e := by
  intro tk gt co lb ge gp gq a li g m L st mo hR hkw hlb hL hm
  obtain ⟨hw, hc, hq, hd⟩ := hR
  have hT := hw.1.1
  have ha := hw.2.1
  have hl := lt_of_word hT (by omega) hkw (by decide)
  obtain ⟨mk, hmk, hmkb⟩ := mk_of hw
  have elo : q_loose mo = ge.2.2.1 := by show mo.2.2.2.1.2.2.1 = _; rw [gM_ge hq]
  show Sim (f_Pa_function E S F st 24 (nI e)) (f_Mo_declaration K mo (nI e)) _
  unfold f_Mo_declaration
  rw [xf_eq, cs_guard st hee, bnd_some, rs_deep mo hee, bndM_some, fn24]
  unfold f_Pa_functionName
  rw [if_pos rfl]
  simp only [bnd_as, bndM_as, bndM_ite, bndM_none]
  obtain ⟨st1, e1, c1⟩ := cs_open hc (by omega) hT 24 0 (sAt st)
  rw [gC_at hc] at c1
  refine Sim_c e1 ?_
  obtain ⟨mo1, g1, e2, q1, o1, f1, d1⟩ := rs_make' (gM_loose0 hq) hd (show m < 2600 by omega) 24 0 (q_at mo)
  refine Sim_m e2 ?_
  rw [gM_at hq] at o1
  refine sm_bound hw.1 (show a + 1 ≤ tkn tk by omega) (gC_inc c1) (gM_inc q1) hw.2.2.1.1 hw.2.2.1.2 (Or.inl rfl) ?_
  intro hl2 hkd st2 mo2 c2 q2 hid
  rw [if_pos (inbN (show m < 2600 by omega)), clN (show m < 2600 by omega)]
  obtain ⟨st3, e3, c3⟩ := cs_setV (pre := L) (k := 24) (v := 0) (w := nI a) (z := 1) (x := f_Tk_name tk (nI (a + 1))) (bd := []) c2 rfl (by simp; omega) rfl
  refine Sim_c e3 ?_
  rw [bnd_some, elo]
  have q3 := gM_sv q2 (p := m) (f_Tk_name tk (nI (a + 1)))
  have hz : FrN g (svN g1 m (f_Tk_name tk (nI (a + 1)))) m := FrN_trans (f1 m (Nat.le_refl _)) (FrN_sv g1 m _ (Nat.le_refl _)) (Nat.le_refl _)
  rw [geL_geL] at q3
  have hb := sm_fhead (E := E) (a := a + 1 + 1) (mk := mk) (ok0 := mayB tk (a + 1)) hB (form := 24) ⟨by decide, by decide⟩ hw hmk hmkb (kd := 24) (val := f_Tk_name tk (nI (a + 1))) (p := m) ⟨fun h _ => h, fun h => h (Or.inl rfl)⟩ hlb hL hm hz (by decide) (by decide) (by decide) (fun st' mo' hc' hq' hl' => FS_0 (lz := if (geL ge 0).2.2.1 = 0 ∧ mayB tk (a + 1) then 0 else 1) hw hmk hmkb hc' (hq' _ _ q3) (by split <;> simp) (by
    constructor
    · intro h
      by_cases cm : (geL ge 0).2.2.1 = 0 ∧ mayB tk (a + 1)
      · exact cm.2
      · rw [if_neg cm] at h; exact absurd h (by decide)
    · intro h; rw [if_pos ⟨rfl, h⟩]) d1 (Opn_sv _ (o1 _ _)) (by omega) (by omega)) c3 q3 (by omega)
  have hb2 := Sim_bindM (Q' := PX 1 (lbn lb) (XL (tk, co) a) tk gt co lb ge gp gq a g m L) (k' := fun r mo => some (.inr (r, mo))) hb (fun _ _ _ _ h => Sim_ret h)
  simp only [bndM_as] at hb2
  exact hb2
theorem sm_fn50 (hB : HB S F K K' e) (hee : e ≤ 100) : HD 1 2 (Pw 11) XL (fun st => f_Pa_function E S F st 50 (nI e)) (fun mo => f_Mo_function K mo 50 (nI e)) e := by
  intro tk gt co lb ge gp gq a li g m L st mo hR hkw hlb hL hm
  obtain ⟨hw, hc, hq, hd⟩ := hR
  have hT := hw.1.1
  have ha := hw.2.1
  have hl := lt_of_word hT (by omega) hkw (by decide)
  obtain ⟨mk, hmk, hmkb⟩ := mk_of hw
  have elo : q_loose mo = ge.2.2.1 := by show mo.2.2.2.1.2.2.1 = _; rw [gM_ge hq]
  show Sim (f_Pa_function E S F st 50 (nI e)) (f_Mo_function K mo 50 (nI e)) _
  rw [xf_eq, cs_guard st hee, bnd_some, fn50]
  unfold f_Pa_functionName
  rw [if_neg (by decide)]
  simp only [bnd_as]
  obtain ⟨st1, e1, c1⟩ := cs_open hc (by omega) hT 50 0 (sAt st)
  rw [gC_at hc] at c1
  refine Sim_c e1 ?_
  obtain ⟨mo1, g1, e2, q1, o1, f1, d1⟩ := rs_make' (gM_loose0 hq) hd (show m < 2600 by omega) 50 0 (q_at mo)
  refine Sim_m e2 ?_
  rw [gM_at hq] at o1
  rw [if_pos trivial, cu_sign (gC_inc c1), rs_sign hw.1 (gM_inc q1) (show a + 1 ≤ tkn tk by omega) (s := 60) (by decide), bndM_some, elo]
  by_cases c60 : f_Tk_sign tk (nI (a + 1)) = 60
  · rw [if_pos c60, if_neg n10, if_neg n10, bnd_some]
    exact sm_fhead (E := E) (a := a + 1) (mk := mk) (ok0 := True) hB (form := 50) ⟨by decide, by decide⟩ hw hmk hmkb (kd := 50) (val := 0) (p := m) ⟨fun _ h => (h.elim (fun h => absurd h (by decide)) (fun h => absurd rfl h)), fun _ => trivial⟩ hlb hL hm (f1 m (Nat.le_refl _)) (by decide) (by decide) (by decide) (fun st' mo' hc' hq' hl' => FS_0 (lz := 0) hw hmk hmkb hc' (hq' _ _ (gM_inc q1)) (Or.inl rfl) ⟨fun _ => trivial, fun _ => rfl⟩ d1 (o1 _ _) (by omega) (by omega)) (gC_inc c1) (gM_inc q1) (by omega)
  · rw [if_neg c60, if_pos rfl, if_pos rfl]
    simp only [bnd_as]
    refine sm_bound hw.1 (show a + 1 ≤ tkn tk by omega) (gC_inc c1) (gM_inc q1) hw.2.2.1.1 hw.2.2.1.2 (Or.inl rfl) ?_
    intro hl2 hkd st2 mo2 c2 q2 hid
    rw [if_pos (inbN (show m < 2600 by omega)), clN (show m < 2600 by omega)]
    obtain ⟨st3, e3, c3⟩ := cs_setV (pre := L) (k := 50) (v := 0) (w := nI a) (z := 1) (x := f_Tk_name tk (nI (a + 1)) + 1) (bd := []) c2 rfl (by simp; omega) rfl
    refine Sim_c e3 ?_
    rw [bnd_some]
    have q3 := gM_sv q2 (p := m) (f_Tk_name tk (nI (a + 1)) + 1)
    have hz : FrN g (svN g1 m (f_Tk_name tk (nI (a + 1)) + 1)) m := FrN_trans (f1 m (Nat.le_refl _)) (FrN_sv g1 m _ (Nat.le_refl _)) (Nat.le_refl _)
    rw [geL_geL] at q3
    have hnz : ¬ f_Tk_name tk (nI (a + 1)) + 1 = 0 := by
      have hkn := (known1 (hw.1.2.2 (a + 1) hl2).2.2.2.2.2 (by rw [← (tk_in hT hl2).1]; exact hkd)).2
      rw [(tk_in hT hl2).2.1]
      have hle : tkN tk (a + 1) ≤ 999 := by
        refine Int32.not_lt.mp (fun h => hkn ?_)
        unfold f_Tk_knownName
        by_cases c0 : tkN tk (a + 1) < 0
        · rw [if_pos c0]
        · rw [if_neg c0, if_pos h]
      obtain ⟨j, hj, hjj⟩ := nI_of2 (n := 999) (by decide) (name_pos hkn) hle
      rw [hjj, nI_1]
      exact nI_ne0 (by omega) (by omega)
    exact sm_fhead (E := E) (a := a + 1 + 1) (mk := mk) (ok0 := mayB tk (a + 1)) hB (form := 50) ⟨by decide, by decide⟩ hw hmk hmkb (kd := 50) (val := f_Tk_name tk (nI (a + 1)) + 1) (p := m) ⟨fun h _ => h, fun h => h (Or.inr hnz)⟩ hlb hL hm hz (by decide) (by decide) (by decide) (fun st' mo' hc' hq' hl' => FS_0 (lz := if (geL ge 0).2.2.1 = 0 ∧ mayB tk (a + 1) then 0 else 1) hw hmk hmkb hc' (hq' _ _ q3) (by split <;> simp) (by
      constructor
      · intro h
        by_cases cm : (geL ge 0).2.2.1 = 0 ∧ mayB tk (a + 1)
        · exact cm.2
        · rw [if_neg cm] at h; exact absurd h (by decide)
      · intro h; rw [if_pos ⟨rfl, h⟩]) d1 (Opn_sv _ (o1 _ _)) (by omega) (by omega)) c3 q3 (by omega)
theorem sm_fn48 (hB : HB S F K K' e) (hee : e ≤ 100) : HC 1 2 XL (fun st => f_Pa_function E S F st 48 (nI e)) (fun mo => f_Mo_function K mo 48 (nI e)) e := by
  intro tk gt co lb ge gp gq a li g m L st mo hR hlb hL hm
  obtain ⟨hw, hc, hq, hd⟩ := hR
  have hT := hw.1.1
  have ha := hw.2.1
  obtain ⟨mk, hmk, hmkb⟩ := mk_of hw
  obtain ⟨hS, hSe, hD, hK6⟩ := hB
  have elo : q_loose mo = ge.2.2.1 := by show mo.2.2.2.1.2.2.1 = _; rw [gM_ge hq]
  show Sim (f_Pa_function E S F st 48 (nI e)) (f_Mo_function K mo 48 (nI e)) _
  rw [xf_eq, cs_guard st hee, bnd_some, fn48]
  unfold f_Pa_functionName
  rw [if_neg (by decide)]
  simp only [bnd_as]
  obtain ⟨st1, e1, c1⟩ := cs_open hc (by omega) hT 50 0 (sAt st)
  rw [gC_at hc] at c1
  refine Sim_c e1 ?_
  obtain ⟨mo1, g1, e2, q1, o1, f1, d1⟩ := rs_make' (gM_loose0 hq) hd (show m < 2600 by omega) 50 0 (q_at mo)
  refine Sim_m e2 ?_
  rw [gM_at hq] at o1
  rw [if_neg (by decide), bnd_some, elo]
  unfold f_Pa_parameters
  simp only [bnd_as]
  refine sm_expect hw.1 ha c1 q1 (by decide) ?_
  intro hl1 hs1 st2 mo2 c2 q2
  rw [if_pos trivial, bnd_as]
  refine sm_expect hw.1 (show a + 1 ≤ tkn tk by omega) c2 q2 (by decide) ?_
  intro hl2 hs2 st3 mo3 c3 q3
  rw [bnd_some]
  refine sm_fbody (ok0 := True) (ps := []) hS hSe hD hK6 hw hmk hmkb ⟨c3, 0, gp, q3, Or.inl rfl, ⟨fun _ => ⟨trivial, trivial⟩, fun _ => rfl⟩, hmk, fun _ _ => ⟨rfl, rfl⟩, d1, o1 _ _, by omega, by simp⟩ ⟨fun _ h => (h.elim (fun h => absurd h (by decide)) (fun h => absurd rfl h)), fun _ => trivial⟩ hlb hL hm (f1 m (Nat.le_refl _)) (by decide) (by decide) (by decide)
theorem sm_fn49 (hB : HB S F K K' e) (hee : e ≤ 100) : HC 1 2 XL (fun st => f_Pa_function E S F st 49 (nI e)) (fun mo => f_Mo_function K mo 49 (nI e)) e := by
  intro tk gt co lb ge gp gq a li g m L st mo hR hlb hL hm
  obtain ⟨hw, hc, hq, hd⟩ := hR
  have hT := hw.1.1
  have ha := hw.2.1
  obtain ⟨mk, hmk, hmkb⟩ := mk_of hw
  obtain ⟨hS, hSe, hD, hK6⟩ := hB
  have elo : q_loose mo = ge.2.2.1 := by show mo.2.2.2.1.2.2.1 = _; rw [gM_ge hq]
  show Sim (f_Pa_function E S F st 49 (nI e)) (f_Mo_function K mo 49 (nI e)) _
  rw [xf_eq, cs_guard st hee, bnd_some, fn49]
  unfold f_Pa_functionName
  rw [if_neg (by decide)]
  simp only [bnd_as]
  obtain ⟨st1, e1, c1⟩ := cs_open hc (by omega) hT 50 0 (sAt st)
  rw [gC_at hc] at c1
  refine Sim_c e1 ?_
  obtain ⟨mo1, g1, e2, q1, o1, f1, d1⟩ := rs_make' (gM_loose0 hq) hd (show m < 2600 by omega) 50 0 (q_at mo)
  refine Sim_m e2 ?_
  rw [gM_at hq] at o1
  rw [if_neg (by decide), bnd_some, elo]
  unfold f_Pa_parameters
  simp only [bnd_as]
  refine sm_expect hw.1 ha c1 q1 (by decide) ?_
  intro hl1 hs1 st2 mo2 c2 q2
  rw [if_neg (by decide), if_pos trivial]
  unfold f_Pa_parameter
  simp only [bnd_as]
  refine sm_bound hw.1 (show a + 1 ≤ tkn tk by omega) c2 q2 hw.2.2.1.1 hw.2.2.1.2 (Or.inl rfl) ?_
  intro hl2 hkd st3 mo3 c3 q3 hid
  rw [gC_cs c3, gC_at c2, gM_at q2]
  have hlen : (L ++ [((50, 0, nI a, 1) : Nd)]).length = L.length + 1 := by simp
  have hhas : f_Pa_hasParameter st3 (nI L.length) (f_Tr_count (sTr st3)) (f_Tk_name tk (nI (a + 1))) = some 0 := by
    unfold f_Pa_hasParameter
    rw [f_count c3, hlen, nI_1, f_Pa_hasParameter_L.eq_def]
    exact if_pos (nI_le (Nat.le_refl _) (by omega))
  have red : ∀ (k : Int32 → ST → Rz), (bnd (if co.2.2.1 = 0 then (bnd (p_open st3 25 (f_Tk_name tk (nI (a + 1))) (nI (a + 1))) (fun r_3 st_3 => (some (.inr (0, st_3))))) else (bnO (f_Pa_hasParameter st3 (nI L.length) (f_Tr_count (sTr st3)) (f_Tk_name tk (nI (a + 1)))) (fun v_4 => (if v_4 = 0 then (bnd (p_open st3 25 (f_Tk_name tk (nI (a + 1))) (nI (a + 1))) (fun r_6 st_6 => (some (.inr (0, st_6))))) else (bnd (f_Cu_refuse st3 (nI (a + 1))) (fun _ st_7 => (bnd (p_open st_7 25 (f_Tk_name tk (nI (a + 1))) (nI (a + 1))) (fun r_8 st_8 => (some (.inr (0, st_8)))))))))) ) k) = bnd (p_open st3 25 (f_Tk_name tk (nI (a + 1))) (nI (a + 1))) (fun _ st_3 => k 0 st_3) := by
    intro k
    by_cases cs : co.2.2.1 = 0
    · rw [if_pos cs, bnd_as]; rfl
    · rw [if_neg cs, hhas, bnO_some, if_pos rfl, bnd_as]; rfl
  rw [red]
  obtain ⟨st4, e4, c4⟩ := cs_open c3 (by omega) hT 25 (f_Tk_name tk (nI (a + 1))) (nI (a + 1))
  refine Sim_c e4 ?_
  rw [geL_geL] at q3
  obtain ⟨mo5, g5, e5, q5, o5, f5, d5⟩ := rs_make' q3 d1 (show m + 1 < 2600 by omega) 25 (f_Tk_name tk (nI (a + 1))) (nI (a + 1))
  refine Sim_m e5 ?_
  have hOp := Opn_fr (o1 (m + 1) (m + 1)) (f5 _ (Nat.le_refl _)) (Nat.le_refl _) (by omega)
  have one := Opn_one (o5 (m + 1) (m + 1)) (Nat.le_refl _) (Nat.le_succ _) (Nat.le_refl _) (Nat.lt_succ_self _)
  obtain ⟨mo6, g6, e6, q6, o6, f6, d6⟩ := rs_hang' q5 hOp one (Nat.le_refl _) (Nat.le_refl _) (Or.inl (by omega))
  refine Sim_m e6 ?_
  refine sm_expect hw.1 (show a + 1 + 1 ≤ tkn tk by omega) c4 q6 (by decide) ?_
  intro hl7 hs7 st7 mo7 c7 q7
  rw [bnd_some]
  have hzz : FrN g g6 m := FrN_trans (FrN_trans (f1 m (Nat.le_refl _)) (f5 m (by omega)) (Nat.le_refl _)) (f6 m (by omega) (Nat.le_refl _)) (Nat.le_refl _)
  refine sm_fbody (ok0 := True) (ps := [(f_Tk_name tk (nI (a + 1)), a + 1)]) hS hSe hD hK6 hw hmk hmkb ⟨?_, _, gp, q7, ?_, ?_, hmk, fun _ _ => ⟨rfl, rfl⟩, d6.trans d5, o6, by omega, by simp⟩ ⟨fun _ h => (h.elim (fun h => absurd h (by decide)) (fun h => absurd rfl h)), fun _ => trivial⟩ hlb hL hm hzz (by decide) (by decide) (by decide)
  · have : L ++ [(50, 0, nI a, 1)] ++ [(25, f_Tk_name tk (nI (a + 1)), nI (a + 1), 1)] = L ++ (50, 0, nI a, 1) :: segQ [(f_Tk_name tk (nI (a + 1)), a + 1)] := by simp [segQ]
    rw [← this]; exact c7
  · split <;> simp
  · show _ ↔ True ∧ ((mayB tk (a + 1) ∧ ¬ ∃ x ∈ ([] : List Pq), x.1 = f_Tk_name tk (nI (a + 1))) ∧ True)
    constructor
    · intro h
      by_cases cm : (geL ge 0).2.2.1 = 0 ∧ mayB tk (a + 1)
      · exact ⟨trivial, ⟨cm.2, by simp⟩, trivial⟩
      · rw [if_neg cm] at h; exact absurd h (by decide)
    · rintro ⟨_, ⟨h, _⟩, _⟩; rw [if_pos ⟨rfl, h⟩]
end PWC
