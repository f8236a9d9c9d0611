/-! the heads of functions -/
theorem bndM_none (k : Int32 → MO → Rm) : bndM none k = none := rfl
theorem xf_eq (E : Int32 → Int32 → Int32 → ST → Rz) (S : Int32 → Int32 → ST → Rz) (F : Int32 → Int32 → ST → Rz) (st : ST) (form depth : Int32) : f_Pa_function E S F st form depth = bnd (f_Cu_guard st depth) (fun _ st_1 => bnd (f_Pa_functionName st_1 form) (fun r_2 st_2 => bnd (f_Pa_parameters st_2 r_2 form) (fun _ st_3 => xfB E S F form depth r_2 st_3))) := rfl
section FNE
variable (K : Nat → List Int32 → MO → Rm) (mo : MO) (d : Int32)
theorem fn24 : f_Mo_function K mo 24 d = bndM (f_Mo_make (s_loose mo 0) 24 0 (q_at mo)) (fun r mo1 => bndM (f_Mo_declared (s_at mo1 (q_at mo1 + 1))) (fun rv mo2 => if inb r 2600 then bndM (f_Mo_expect (s_value mo2 (upd (q_value mo2) r.toNatClampNeg rv)) 60) (fun _ mo3 => bndM (f_Mo_parameters mo3 r) (fun _ mo4 => bndM (f_Mo_expect mo4 61) (fun _ mo5 => fnB K d (q_loose mo) r mo5))) else none)) := by
  have d1 : ((24 : Int32) = 49) = False := by decide
  have d2 : ((24 : Int32) = 48) = False := by decide
  unfold f_Mo_function fnB
  simp only [d1, d2, if_false, if_true]
theorem fn50 : f_Mo_function K mo 50 d = bndM (f_Mo_make (s_loose mo 0) 50 0 (q_at mo)) (fun r mo1 => bndM (f_Mo_isSign (s_at mo1 (q_at mo1 + 1)) 60) (fun r56 mo56 => if r56 = 0 then bndM (f_Mo_declared mo56) (fun rv mo2 => if inb r 2600 then bndM (f_Mo_expect (s_value mo2 (upd (q_value mo2) r.toNatClampNeg (rv + 1))) 60) (fun _ mo3 => bndM (f_Mo_parameters mo3 r) (fun _ mo4 => bndM (f_Mo_expect mo4 61) (fun _ mo5 => fnB K d (q_loose mo) r mo5))) else none) else bndM (f_Mo_expect mo56 60) (fun _ mo3 => bndM (f_Mo_parameters mo3 r) (fun _ mo4 => bndM (f_Mo_expect mo4 61) (fun _ mo5 => fnB K d (q_loose mo) r mo5))))) := by
  have d0 : ((50 : Int32) = 24) = False := by decide
  have d1 : ((50 : Int32) = 49) = False := by decide
  have d2 : ((50 : Int32) = 48) = False := by decide
  unfold f_Mo_function fnB
  simp only [d0, d1, d2, if_false, if_true]
theorem fn48 : f_Mo_function K mo 48 d = bndM (f_Mo_make (s_loose mo 0) 50 0 (q_at mo)) (fun r mo1 => bndM (f_Mo_expect mo1 60) (fun _ mo3 => bndM (f_Mo_expect mo3 61) (fun _ mo5 => fnB K d (q_loose mo) r mo5))) := by
  have d0 : ((48 : Int32) = 24) = False := by decide
  have d1 : ((48 : Int32) = 49) = False := by decide
  have d2 : ((48 : Int32) = 50) = False := by decide
  unfold f_Mo_function fnB
  simp only [d0, d1, d2, if_false, if_true]
theorem fn49 : f_Mo_function K mo 49 d = bndM (f_Mo_make (s_loose mo 0) 50 0 (q_at mo)) (fun r mo1 => bndM (f_Mo_expect mo1 60) (fun _ mo3 => bndM (f_Mo_declared mo3) (fun rv mo38 => bndM (f_Mo_make mo38 25 rv (q_at mo3)) (fun r39 mo39 => bndM (f_Mo_hang mo39 r r39) (fun _ mo4 => bndM (f_Mo_expect mo4 61) (fun _ mo5 => fnB K d (q_loose mo) r mo5)))))) := by
  have d0 : ((49 : Int32) = 24) = False := by decide
  have d2 : ((49 : Int32) = 50) = False := by decide
  unfold f_Mo_function fnB
  simp only [d0, d2, if_false, if_true]
end FNE
section PWB
variable {tk : TK} {lb : LB} {co : CO} {L0 : List Nd} {st : ST} {gt : gT} {ge0 : gE} {gp0 : gP} {gq : gQ} {a mk p aF : Nat} {li kd val : Int32} {g g00 : gN} {mo : MO} {ok0 : Prop} {ps : List Pq} {form : Int32}
theorem FS_inc (h : FS tk gt co lb ge0 gp0 gq mk p kd val aF L0 ok0 ps a li g st mo) (ha : a < tkn tk) {st' : ST} {mo' : MO} (hst : gC tk lb co a li (L0 ++ (kd, val, nI aF, 1) :: segQ ps) st → gC tk lb co (a + 1) li (L0 ++ (kd, val, nI aF, 1) :: segQ ps) st') (hmo : mo' = s_at mo (q_at mo + 1)) : FS tk gt co lb ge0 gp0 gq mk p kd val aF L0 ok0 ps (a + 1) li g st' mo' := by
  obtain ⟨hc, lz, gp, hq, h1, h2, h3, h4, h5, h6, h7, h8, h9⟩ := h
  subst hmo
  exact ⟨hst hc, lz, gp, gM_inc hq, h1, h2, h3, h4, h5, h6, by omega, by omega, by omega⟩
theorem FS_FE (h : FS tk gt co lb ge0 gp0 gq mk p kd val aF L0 ok0 ps a li g st mo) (ha : a < tkn tk) {st' : ST} (hst : gC tk lb co (a + 1) li (L0 ++ (kd, val, nI aF, 1) :: segQ ps) st') : FE tk gt co lb ge0 gp0 gq mk p kd val aF L0 ok0 ps (a + 1) li g st' (s_at (s_properties mo (nI mk)) (q_at (s_properties mo (nI mk)) + 1)) := by
  obtain ⟨hc, lz, gp, hq, h1, h2, h3, h4, h5, h6, h7, h8, h9⟩ := h
  have hq2 : gM gt (geL ge0 lz) (nI mk, gp.2) gq a li g (s_properties mo (nI mk)) := by obtain ⟨th, rfl⟩ := hq; exact ⟨th, rfl⟩
  exact ⟨hst, lz, (nI mk, gp.2), gM_inc hq2, h1, h2, rfl, h4, h5, h6, by omega, by omega⟩
/-- the list up to its ) -/
theorem sm_parL (hR : TkR tk gt) (hs : ge0.1 = co.2.2.1) (hs2 : co.2.2.1 = 0 ∨ co.2.2.1 = 1) (pb : p ≤ 2 * aF + 3) (Lb : L0.length ≤ 2 * aF + 3) :
    ∀ (fu fm x : Nat) (ps : List Pq) (a : Nat) (li : Int32) (g : gN) (st : ST) (mo : MO), FS tk gt co lb ge0 gp0 gq mk p kd val aF L0 ok0 ps a li g st mo → tkn tk - a < fu → tkn tk - a < fm → x ≤ a → FrN g00 g p →
      Sim (bnd (f_Pa_parameter st (nI L0.length)) (fun _ s => f_Pa_parameters_L43 (nI L0.length) form fu (nI (x + 1)) s)) (bndM (f_Mo_parameters_L20 (nI p) (nI mk) (fm + 1) 1 mo) (fun _ se => f_Mo_expect (s_properties se (nI mk)) 61)) (fun _ st' _ mo' => ∃ ps' a' li' g', FE tk gt co lb ge0 gp0 gq mk p kd val aF L0 ok0 ps' a' li' g' st' mo' ∧ FrN g00 g' p) := by
  intro fu
  induction fu with
  | zero => intro fm x ps a li g st mo _ h; omega
  | succ fu ih =>
    intro fm x ps a li g st mo hF hfu hfm hx hfr
    have hT := hR.1
    obtain ⟨fm', rfl⟩ : ∃ q, fm = q + 1 := ⟨fm - 1, by omega⟩
    have e20 : f_Mo_parameters_L20 (nI p) (nI mk) (fm' + 1 + 1) 1 mo = (bndM (f_Mo_declared mo) (fun r_5 mo_5 => (bndM (f_Mo_parameters_L39 (nI p) (q_at mo) r_5 5000 (nI mk) mo_5) (fun _ se_6 => (if inb (q_properties se_6) 1000 then (bndM (f_Mo_make (s_property (s_properties se_6 ((q_properties se_6) + 1)) (upd (q_property se_6) ((q_properties se_6) : Int32).toNatClampNeg r_5)) 25 r_5 (q_at mo)) (fun r_9 mo_9 => (bndM (f_Mo_hang mo_9 (nI p) r_9) (fun _ mo_10 => (bndM (f_Mo_isSign mo_10 68) (fun r_11 mo_11 => (if r_11 = 0 then (f_Mo_parameters_L20 (nI p) (nI mk) (fm' + 1) r_11 mo_11) else (f_Mo_parameters_L20 (nI p) (nI mk) (fm' + 1) r_11 (s_at mo_11 ((q_at mo_11) + 1)))))))))) else none))))) := by
      rw [f_Mo_parameters_L20.eq_def]
      exact if_neg n10
    rw [e20]
    simp only [bndM_as, bndM_ite, bndM_none]
    refine sm_param hR hs hs2 hF (by omega) pb Lb ?_
    intro hl st1 mo1 g1 n' hF1 hfr1
    have hfr2 : FrN g00 g1 p := FrN_trans hfr (hfr1 p (Nat.le_refl _)) (Nat.le_refl _)
    have hF1' := hF1
    obtain ⟨hc1, lz, gp, hq1, h1, h2, h3, h4, h5, h6, h7, h8, h9⟩ := hF1
    unfold f_Pa_parameters_L43
    rw [if_neg (x_le (x := x + 1) (show x + 1 ≤ a + 1 by omega) h7 hT), rs_sign hR hq1 h7 (s := 68) (by decide), bndM_some]
    by_cases c68 : f_Tk_sign tk (nI (a + 1)) = 68
    · have hl2 := lt_of_sign hT (by omega) c68 (by decide)
      obtain ⟨st2, e2, c2⟩ := cs_acc hc1 c68
      have en : f_Cu_nextArgument st1 (nI (x + 1)) = some (.inr (1, st2)) := by
        unfold f_Cu_nextArgument
        rw [if_neg (nI_ne0 (by omega) (by omega)), e2, bnd_some, if_neg n10]
      refine Sim_c en ?_
      rw [if_neg n10, if_pos c68, if_neg n10, nI_1]
      exact ih fm' (x + 1) _ (a + 1 + 1) li g1 st2 _ (FS_inc hF1' hl2 (fun _ => c2) rfl) (by omega) (by omega) (by omega) hfr2
    · have en : f_Cu_nextArgument st1 (nI (x + 1)) = bnd (f_Cu_expect st1 61) (fun _ st_4 => (some (.inr (0, st_4)))) := by
        unfold f_Cu_nextArgument
        rw [if_neg (nI_ne0 (by omega) (by omega)), cs_nacc hc1 c68, bnd_some, if_pos rfl]
      rw [en, bnd_as, if_neg c68, if_pos rfl]
      have e0 : f_Mo_parameters_L20 (nI p) (nI mk) (fm' + 1) 0 mo1 = some (.inr (0, mo1)) := by
        rw [f_Mo_parameters_L20.eq_def]
        exact if_pos rfl
      rw [e0, bndM_some]
      have hq2 : gM gt (geL ge0 lz) (nI mk, gp.2) gq (a + 1) li g1 (s_properties mo1 (nI mk)) := by obtain ⟨th, rfl⟩ := hq1; exact ⟨th, rfl⟩
      by_cases c61 : f_Tk_sign tk (nI (a + 1)) = 61
      · have hl2 := lt_of_sign hT (by omega) c61 (by decide)
        have ex : f_Cu_expect st1 61 = some (.inr (0, setAt st1 (sAt st1 + 1))) := by
          unfold f_Cu_expect; rw [gC_tk hc1, gC_at hc1, if_pos c61]
        have ey : f_Mo_expect (s_properties mo1 (nI mk)) 61 = some (.inr (0, s_at (s_properties mo1 (nI mk)) (q_at (s_properties mo1 (nI mk)) + 1))) := by
          unfold f_Mo_expect
          rw [rs_sign hR hq2 h7 (s := 61) (by decide), if_pos c61, bndM_some, if_neg n10]
        rw [ex, ey, bnd_some, bnd_some, if_pos rfl]
        exact Sim_ret ⟨_, a + 1 + 1, li, g1, FS_FE hF1' hl2 (gC_inc hc1), hfr2⟩
      · refine Sim_rr (p := nI (a + 1)) (Ref_bnd ?_) ?_ (at_ne hR h7)
        · unfold f_Cu_expect
          rw [gC_tk hc1, gC_at hc1, if_neg c61]
          exact Ref_bnd (Ref_refuse hc1 _)
        · unfold f_Mo_expect
          rw [rs_sign hR hq2 h7 (s := 61) (by decide), bndM_some, if_neg c61, if_pos rfl, gM_at hq2]
          exact RefM_bnd (RefM_refuse _ _)
theorem sm_pars (hR : TkR tk gt) (hs : ge0.1 = co.2.2.1) (hs2 : co.2.2.1 = 0 ∨ co.2.2.1 = 1) (pb : p ≤ 2 * aF + 3) (Lb : L0.length ≤ 2 * aF + 3) (hF : FS tk gt co lb ge0 gp0 gq mk p kd val aF L0 ok0 [] a li g st mo) (hfr : FrN g00 g p) :
    Sim (f_Pa_parameters_L43 (nI L0.length) form 5000 0 st) (bndM (f_Mo_parameters mo (nI p)) (fun _ mo4 => f_Mo_expect mo4 61)) (fun _ st' _ mo' => ∃ ps' a' li' g', FE tk gt co lb ge0 gp0 gq mk p kd val aF L0 ok0 ps' a' li' g' st' mo' ∧ FrN g00 g' p) := by
  have hT := hR.1
  have hF' := hF
  obtain ⟨hc, lz, gp, hq, h1, h2, h3, h4, h5, h6, h7, h8, h9⟩ := hF
  have epr : q_properties mo = nI mk := by show mo.2.2.2.2.1.1 = _; rw [gM_gp hq]; exact h3.1
  unfold f_Pa_parameters_L43 f_Mo_parameters
  rw [if_neg (show ¬ (1000 : Int32) < 0 by decide), rs_sign hR hq h7 (s := 61) (by decide), bndM_some, epr]
  by_cases c61 : f_Tk_sign tk (nI a) = 61
  · have hl := lt_of_sign hT (by omega) c61 (by decide)
    obtain ⟨st1, e1, c1⟩ := cs_acc hc c61
    have en : f_Cu_nextArgument st 0 = some (.inr (0, st1)) := by
      unfold f_Cu_nextArgument
      rw [if_pos rfl, e1, bnd_some, if_neg n10]
    have e0 : f_Mo_parameters_L20 (nI p) (nI mk) 5000 0 mo = some (.inr (0, mo)) := by
      rw [f_Mo_parameters_L20.eq_def]
      exact if_pos rfl
    have hq2 : gM gt (geL ge0 lz) (nI mk, gp.2) gq a li g (s_properties mo (nI mk)) := by obtain ⟨th, rfl⟩ := hq; exact ⟨th, rfl⟩
    have ey : f_Mo_expect (s_properties mo (nI mk)) 61 = some (.inr (0, s_at (s_properties mo (nI mk)) (q_at (s_properties mo (nI mk)) + 1))) := by
      unfold f_Mo_expect
      rw [rs_sign hR hq2 h7 (s := 61) (by decide), if_pos c61, bndM_some, if_neg n10]
    rw [en, bnd_some, if_pos rfl, if_pos c61, if_neg n10, e0, bndM_some, bndM_some, ey]
    exact Sim_ret ⟨[], a + 1, li, g, FS_FE hF' hl c1, hfr⟩
  · have en : f_Cu_nextArgument st 0 = some (.inr (1, st)) := by
      unfold f_Cu_nextArgument
      rw [if_pos rfl, cs_nacc hc c61, bnd_some, if_pos rfl]
    rw [en, bnd_some, if_neg n10, if_neg c61, if_pos rfl]
    simp only [bndM_as, bndM_some]
    exact sm_parL hR hs hs2 pb Lb 4999 4999 0 [] a li g st mo hF' (by omega) (by omega) (by omega) hfr
end PWB
