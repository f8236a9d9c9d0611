/-! variables -/
section PVA
variable {tk : TK} {lb lb0 : LB} {co : CO} {L L0 : List Nd} {st : ST} {gt : gT} {ge ge0 : gE} {gp gp0 : gP} {gq : gQ} {a aS : Nat} {li : Int32} {g g0 : gN} {mo : MO} {m m0 e : Nat} {inn : Int32}
variable {E : Int32 → Int32 → Int32 → ST → Rz} {S : Int32 → Int32 → ST → Rz} {F : Int32 → Int32 → ST → Rz} {K : Nat → List Int32 → MO → Rm}
theorem sm_varsL (he : HC 1 2 XA (E 0 (nI (e + 1)) inn) (K 1 [nI (e + 1), inn]) (e + 1)) (hlb : lbn lb0 < e + 1) :
    ∀ (fu fm x : Nat) (ds : List Pt) (lb : LB) (ge : gE) (gp : gP) (a : Nat) (li : Int32) (g : gN) (m : Nat) (st : ST) (mo : MO), SN tk gt co lb0 ge0 gp0 gq aS L0 g0 m0 2 0 (flatP ds) lb ge gp (a + 1) li g m (setAt st (sAt st + 1)) mo → sAt st = nI a → tkn tk - a < fu → tkn tk - a < fm → x ≤ a →
      Sim (f_Pa_variables_L20 E S F (nI e) inn fu 1 (nI x) st) (f_Mo_declarations_L6 K (nI m0) (nI e) inn fm (nI ds.length) 1 mo) (fun _ st' n mo' => ∃ (ds' : List Pt) (lb : LB) (ge : gE) (gp : gP) (a' : Nat) (li : Int32) (g : gN) (m : Nat), n = nI ds'.length ∧ SN tk gt co lb0 ge0 gp0 gq aS L0 g0 m0 2 0 (flatP ds') lb ge gp a' li g m st' mo') := by
  intro fu
  induction fu with
  | zero => intro fm x ds lb ge gp a li g m st mo _ _ h; omega
  | succ fu ih =>
    intro fm x ds lb ge gp a li g m st mo hN hat hfu hfm hx
    have hN' := hN
    obtain ⟨⟨hw, hc, hq, hd⟩, b2, b3, b4, b5, b6, b7, b8, b9, b10, b11⟩ := hN
    have hT := hw.1.1
    have ha := hw.2.1
    have hlb2 : lbn lb = lbn lb0 := b2.1
    obtain ⟨fm', rfl⟩ : ∃ q, fm = q + 1 := ⟨fm - 1, by omega⟩
    have hll : (L0 ++ (2, 0, nI aS, (1 : Int32)) :: flatP ds).length = L0.length + 1 + (flatP ds).length := by simp; omega
    unfold f_Pa_variables_L20 f_Mo_declarations_L6
    rw [if_neg (x_le hx (show a ≤ tkn tk by omega) hT), if_neg n10, if_neg n10]
    obtain ⟨st1, e1, c1⟩ := cs_open hc (by omega) hT 3 0 (sAt st + 1)
    refine Sim_c e1 ?_
    have ea1 : sAt st + 1 = nI (a + 1) := by rw [hat, nI_1]
    rw [ea1] at c1
    refine sm_bound hw.1 ha c1 hq hw.2.2.1.1 hw.2.2.1.2 hw.2.2.2.2.1 ?_
    intro hl hkd st2 mo2 c2 q2 hid
    obtain ⟨st3, e3, c3⟩ := cs_setV (pre := L0 ++ (2, 0, nI aS, 1) :: flatP ds) (k := 3) (v := 0) (w := nI (a + 1)) (z := 1) (x := f_Tk_name tk (nI (a + 1))) (bd := []) c2 rfl (by simp; omega) rfl
    refine Sim_c e3 ?_
    obtain ⟨mo4, g4, e4, q4, o4, f4, d4⟩ := rs_make' q2 hd (show m < 2600 by omega) 3 (f_Tk_name tk (nI (a + 1))) (q_at mo)
    refine Sim_m e4 ?_
    rw [gM_at hq] at o4
    have elo : q_loose mo = ge.2.2.1 := by show mo.2.2.2.1.2.2.1 = _; rw [gM_ge hq]
    rw [elo, if_pos hw.2.2.2.2.1]
    have q5 : gM gt ge gp gq (a + 1 + 1) li g4 (s_loose mo4 ge.2.2.1) := by obtain ⟨th, rfl⟩ := q4; exact ⟨th, rfl⟩
    have hOp4 := Opn_fr b4 (f4 m (Nat.le_refl _)) (Nat.le_refl _) b5
    have one0 := Opn_one (o4 (m + 1) (m + 1)) (show m ≤ m + 1 by omega) (Nat.le_refl _) (Nat.le_refl _) (Nat.lt_succ_self _)
    obtain ⟨mo6, e6, q6⟩ := rs_hang (n := m) q5 hOp4.2.2.2.2.2 hOp4.1 (nI m)
    obtain ⟨hOh, fh, dh⟩ := Opn_hang hOp4 one0 (Nat.le_refl _) (by omega) (Or.inl b5)
    refine Sim_m e6 ?_
    rw [rs_sign hw.1 q6 (show a + 1 + 1 ≤ tkn tk by omega) (s := 30) (by decide), bndM_some, nI_1 ds.length, nI_1 x, nI_1 e]
    have hw2 : Wf tk gt co lb ge gp (a + 1 + 1) := Wf_up hw (by omega) (by omega)
    -- what follows a declaration
    have nxt : ∀ (sg : List Nd) (lb9 : LB) (ge9 : gE) (gp9 : gP) (a9 : Nat) (li9 : Int32) (g9 : gN) (m9 : Nat) (st9 : ST) (mo9 : MO), SN tk gt co lb0 ge0 gp0 gq aS L0 g0 m0 2 0 (flatP (ds ++ [(3, f_Tk_name tk (nI (a + 1)), nI (a + 1), sg)])) lb9 ge9 gp9 a9 li9 g9 m9 st9 mo9 → a + 1 < a9 →
        Sim (f_Pa_variables_L20 E S F (nI e) inn fu (f_Cu_atSign st9 68) (nI (x + 1)) st9) (bndM (f_Mo_isSign mo9 68) (fun r_9 mo_9 => (if r_9 = 0 then (f_Mo_declarations_L6 K (nI m0) (nI e) inn fm' (nI (ds.length + 1)) r_9 mo_9) else (f_Mo_declarations_L6 K (nI m0) (nI e) inn fm' (nI (ds.length + 1)) r_9 (s_at mo_9 ((q_at mo_9) + 1)))))) (fun _ st' n mo' => ∃ (ds' : List Pt) (lb : LB) (ge : gE) (gp : gP) (a' : Nat) (li : Int32) (g : gN) (m : Nat), n = nI ds'.length ∧ SN tk gt co lb0 ge0 gp0 gq aS L0 g0 m0 2 0 (flatP ds') lb ge gp a' li g m st' mo') := by
      intro sg lb9 ge9 gp9 a9 li9 g9 m9 st9 mo9 hN9 hlt
      have w9 := hN9.1
      have ha9 := w9.1.2.1
      rw [cu_sign w9.2.1, rs_sign w9.1.1 w9.2.2.1 ha9 (s := 68) (by decide), bndM_some]
      have hdl : (ds ++ [((3, f_Tk_name tk (nI (a + 1)), nI (a + 1), sg) : Pt)]).length = ds.length + 1 := by simp
      by_cases c68 : f_Tk_sign tk (nI a9) = 68
      · have hl9 := lt_of_sign hT (by omega) c68 (by decide)
        rw [if_pos c68, if_neg n10, ← hdl]
        exact ih fm' (x + 1) _ lb9 ge9 gp9 a9 li9 g9 m9 st9 _ (SN_at hN9 (Nat.le_succ _) (by omega) (gC_inc w9.2.1) (gM_inc w9.2.2.1)) (gC_at w9.2.1) (by omega) (by omega) (by omega)
      · obtain ⟨fu', rfl⟩ : ∃ q, fu = q + 1 := ⟨fu - 1, by omega⟩
        obtain ⟨fm'', rfl⟩ : ∃ q, fm' = q + 1 := ⟨fm' - 1, by omega⟩
        rw [if_neg c68, if_pos rfl]
        unfold f_Pa_variables_L20 f_Mo_declarations_L6
        rw [if_neg (x_le (x := x + 1) (show x + 1 ≤ a9 by omega) ha9 hT), if_pos rfl, if_pos rfl]
        exact Sim_ret ⟨_, lb9, ge9, gp9, a9, li9, g9, m9, by rw [hdl], hN9⟩
    have esg : ∀ sg, flatP (ds ++ [((3, f_Tk_name tk (nI (a + 1)), nI (a + 1), sg) : Pt)]) = flatP ds ++ (3, f_Tk_name tk (nI (a + 1)), nI (a + 1), nI (sg.length + 1)) :: sg := by intro sg; rw [flatP_app]; simp [flatP]
    have fN : FrN g0 (hgN g4 m0 (nI m)) m0 := FrN_trans (FrN_trans b3 (f4 m0 (by omega)) (Nat.le_refl _)) (fh m0 (by omega) (Nat.le_refl _)) (Nat.le_refl _)
    by_cases c30 : f_Tk_sign tk (nI (a + 1 + 1)) = 30
    · have hl2 := lt_of_sign hT (by omega) c30 (by decide)
      obtain ⟨st5, e5, c5⟩ := cs_acc c3 c30
      refine Sim_c e5 ?_
      rw [if_neg n10, if_pos c30, if_neg n10]
      have hOn : Opn (hgN g4 m0 (nI m)) m 3 (f_Tk_name tk (nI (a + 1))) (nI (a + 1)) [] (m + 1) (m + 1) := Opn_oth hOp4.1 (o4 _ _) (by omega) (Nat.le_refl _)
      refine Sim_bind (he tk gt co lb ge gp gq (a + 1 + 1 + 1) li _ (m + 1) _ st5 _ ⟨Wf_up hw2 (by omega) (by omega), c5, gM_inc q6, dh.trans d4⟩ (by omega) (by simp; omega) (by omega)) ?_
      intro r st7 n7 mo7 h7
      obtain ⟨lb7, ge7, gp7, a7, li7, g7, m7, sg, n7', rfl, w7, c7, q7, d7, fr7, fn7, o7, l1, l2, l3, l4, l5, l6, l7, _⟩ := PX_le h7
      have hOn7 := Opn_fr hOn fn7 (Nat.le_refl _) (Nat.lt_succ_self _)
      obtain ⟨mo8, g8, e8, q8, o8, f8, d8⟩ := rs_hang' q7 hOn7 o7 (Nat.le_refl _) (Nat.le_refl _) (Or.inl (Nat.lt_succ_self _))
      refine Sim_m e8 ?_
      rw [List.nil_append] at o8
      have hl7 : (L0 ++ (2, 0, nI aS, 1) :: flatP ds ++ [(3, f_Tk_name tk (nI (a + 1)), nI (a + 1), (1 : Int32))] ++ sg).length = L0.length + 1 + (flatP ds).length + 1 + sg.length := by simp; omega
      obtain ⟨st9, e9, c9⟩ := cs_close (pre := L0 ++ (2, 0, nI aS, 1) :: flatP ds) (k := 3) (v := f_Tk_name tk (nI (a + 1))) (w := nI (a + 1)) (z := 1) (bd := sg) c7 (by simp) (by omega) rfl
      refine Sim_c e9 ?_
      have oneN := Opn_one o8 (show m ≤ m + 1 by omega) (Nat.le_refl _) (Nat.le_refl _) (by omega)
      have fl : FrN (hgN g4 m0 (nI m)) g8 m := FrN_trans (FrN_less fn7 (by omega)) (f8 m (by omega) (Nat.le_refl _)) (Nat.le_refl _)
      have oP := Opn_late hOp4 oneN (Nat.le_refl _) (by omega) b5 (by omega) fl
      refine nxt sg lb7 ge7 gp7 a7 li7 g8 m7 st9 mo8 ⟨⟨w7, ?_, q8, d8.trans d7⟩, Fr_trans b2 fr7 (by rw [hlb2]; exact Nat.le_refl _), FrN_trans fN (FrN_less fl (by omega)) (Nat.le_refl _), by rw [esg]; exact oP, by omega, by omega, by rw [esg]; simp; omega, by omega, b9, b10, by rw [esg]; simp; omega⟩ (by omega)
      rw [esg]
      have : L0 ++ (2, 0, nI aS, 1) :: (flatP ds ++ (3, f_Tk_name tk (nI (a + 1)), nI (a + 1), nI (sg.length + 1)) :: sg) = L0 ++ (2, 0, nI aS, 1) :: flatP ds ++ (3, f_Tk_name tk (nI (a + 1)), nI (a + 1), nI (sg.length + 1)) :: sg := by simp
      rw [this]; exact c9
    · refine Sim_c (cs_nacc c3 c30) ?_
      rw [if_pos rfl, if_neg c30, if_pos rfl]
      obtain ⟨st9, e9, c9⟩ := cs_close (pre := L0 ++ (2, 0, nI aS, 1) :: flatP ds) (k := 3) (v := f_Tk_name tk (nI (a + 1))) (w := nI (a + 1)) (z := 1) (bd := []) c3 rfl (by simp; omega) rfl
      refine Sim_c e9 ?_
      refine nxt [] lb ge gp (a + 1 + 1) li (hgN g4 m0 (nI m)) (m + 1) st9 mo6 ⟨⟨hw2, ?_, q6, dh.trans d4⟩, b2, fN, by rw [esg]; exact hOh, by omega, by omega, by rw [esg]; simp; omega, by omega, b9, b10, by rw [esg]; simp; omega⟩ (by omega)
      rw [esg]
      have : L0 ++ (2, 0, nI aS, 1) :: (flatP ds ++ [(3, f_Tk_name tk (nI (a + 1)), nI (a + 1), nI (([] : List Nd).length + 1))]) = L0 ++ (2, 0, nI aS, 1) :: flatP ds ++ [(3, f_Tk_name tk (nI (a + 1)), nI (a + 1), nI (([] : List Nd).length + 1))] := by simp
      rw [this]; exact c9
/-- the list of declarations, as the head of a for has it too; the parts are counted -/
theorem sm_vars (he : HC 1 2 XA (E 0 (nI (e + 1)) inn) (K 1 [nI (e + 1), inn]) (e + 1)) (hR : RR tk gt co lb ge gp gq a li g m L st mo) (hlb : lbn lb < e) (hL : L.length ≤ 2 * a + 2) (hm : m ≤ 2 * a + 2) (hkw : f_Tk_keyword tk (nI a) = 22) {Q : Int32 → ST → Int32 → MO → Prop} {k : Int32 → ST → Rz} {k' : Int32 → MO → Rm}
    (hk : ∀ (ds : List Pt) (lb1 : LB) (ge1 : gE) (gp1 : gP) (a1 : Nat) (li1 : Int32) (g1 : gN) (m1 : Nat) (st1 st2 : ST) (mo1 : MO), SN tk gt co lb ge gp gq a L g m 2 0 (flatP ds) lb1 ge1 gp1 a1 li1 g1 m1 st1 mo1 → (∀ r, PX 0 (lbn lb) (fun _ sg => sg = (2, 0, nI a, nI ((flatP ds).length + 1)) :: flatP ds) tk gt co lb ge gp gq a g m L r st2 (nI m) mo1) → Sim (k 0 st2) (k' (nI ds.length) mo1) Q) :
    Sim (bnd (f_Pa_variables E S F st (nI e) inn) k) (bndM (f_Mo_plain mo 2) (fun r_1 mo_1 => (bndM (f_Mo_declarations K mo_1 r_1 (nI e) inn) k'))) Q := by
  have hT := hR.1.1.1
  have ha := hR.1.2.1
  have hl := lt_of_word hT (by omega) hkw (by decide)
  obtain ⟨st1, mo1, g1, e1, e2, c1, q1, s0⟩ := SN_0 hR hl (by omega) (by omega) (by omega) 2
  unfold f_Pa_variables f_Mo_declarations
  rw [gC_at hR.2.1, e1, e2, bnd_some, bndM_some]
  simp only [bnd_as, bndM_as, bndM_some]
  have hv := sm_varsL (E := E) (S := S) (F := F) he (show lbn lb < e + 1 by omega) 5000 5000 0 [] lb ge gp a li g1 (m + 1) st1 mo1 s0 (gC_at c1) (by omega) (by omega) (by omega)
  refine Sim_bind hv ?_
  rintro r st2 n mo2 ⟨ds, lb2, ge2, gp2, a2, li2, g2, m2, rfl, s2⟩
  obtain ⟨st3, e3, px⟩ := SN_close (X := fun _ sg => sg = (2, 0, nI a, nI ((flatP ds).length + 1)) :: flatP ds) s2 rfl
  refine Sim_c e3 ?_
  rw [bnd_some]
  exact hk ds lb2 ge2 gp2 a2 li2 g2 m2 st2 st3 mo2 s2 px
theorem sm_varS (he : HC 1 2 XA (E 0 (nI (e + 1)) 1) (K 1 [nI (e + 1), 1]) (e + 1)) (hR : RR tk gt co lb ge gp gq a li g m L st mo) (hlb : lbn lb < e) (hL : L.length ≤ 2 * a + 1) (hm : m ≤ 2 * a + 1) (hkw : f_Tk_keyword tk (nI a) = 22) :
    Sim (bnd (f_Pa_variables E S F st (nI e) 1) (fun _ st_32 => (bnd (f_Cu_semicolon st_32) (fun _ st_33 => (some (.inr (0, st_33))))))) (f_Mo_variables K mo (nI e)) (PX 0 (lbn lb) (XS tk a) tk gt co lb ge gp gq a g m L) := by
  have hT := hR.1.1.1
  have ha := hR.1.2.1
  have hk := word_kind hT (by omega) hkw (by decide)
  unfold f_Mo_variables
  have e0 : (bndM (f_Mo_plain mo 2) (fun r_1 mo_1 => (bndM (f_Mo_declarations K mo_1 r_1 (nI e) 1) (fun r_2 mo_2 => (bndM (f_Mo_semicolon mo_2) (fun _ mo_3 => (some (.inr (r_1, mo_3))))))))) = (bndM (f_Mo_plain mo 2) (fun r_1 mo_1 => (bndM (f_Mo_declarations K mo_1 r_1 (nI e) 1) (fun r_2 mo_2 => (bndM (f_Mo_semicolon mo_2) (fun _ mo_3 => (some (.inr (nI m, mo_3))))))))) := by
    have hl := lt_of_word hT (by omega) hkw (by decide)
    obtain ⟨mo1, g1, e2, _⟩ := rs_plain hR.2.2.1 hR.2.2.2 (show m < 2600 by omega) 2
    rw [e2, bndM_some, bndM_some]
  rw [e0]
  refine sm_vars he hR hlb (by omega) (by omega) hkw ?_
  intro ds lb1 ge1 gp1 a1 li1 g1 m1 st1 st2 mo1 s1 px
  obtain ⟨lb', ge', gp', a', li', g', m', sg, n', h1, ⟨w2, c2, q2, d2⟩, h3, h4, h5, h6, h7, h8, h9⟩ := px 0
  refine sm_semi w2.1 w2.2.1 c2 q2 ?_
  intro a3 st3 mo3 _ g1' g2' c3 q3
  exact Sim_ret ⟨lb', ge', gp', a3, li', g', m', sg, n', h1, ⟨Wf_up w2 g1' g2', c3, q3, d2⟩, h3, h4, h5, by omega, by omega, by omega, XS_of (by rw [hk]; decide)⟩
end PVA
