/-! blocks; a name or a text that stands alone ahead of a sign -/
theorem Sim_bindE {x : Rz} {y : Rm} {Q Q' : Int32 → ST → Int32 → MO → Prop} {k : Int32 → ST → Rz} {k' : Int32 → MO → Rm} (h : Sim x y Q) (hk : ∀ r st n mo, y = some (.inr (n, mo)) → Q r st n mo → Sim (k r st) (k' n mo) Q') : Sim (bnd x k) (bndM y k') Q' := by
  rcases h with ⟨p, c, s, mo, rfl, rfl, hp, hn⟩ | ⟨r, st, n, mo, rfl, rfl, hq⟩
  · exact Or.inl ⟨p, c, s, mo, rfl, rfl, hp, hn⟩
  · exact hk r st n mo rfl hq
section PWU
variable {tk : TK} {lb lb0 : LB} {co : CO} {L L0 : List Nd} {st : ST} {gt : gT} {ge ge0 : gE} {gp gp0 : gP} {gq : gQ} {a aS : Nat} {li : Int32} {g g0 : gN} {mo : MO} {m m0 e : Nat}
variable {E : Int32 → Int32 → Int32 → ST → Rz} {S : Int32 → Int32 → ST → Rz} {F : Int32 → Int32 → ST → Rz} {K : Nat → List Int32 → MO → Rm}
theorem sm_blockL (hs : HSt (fun o st => S (nI (e + 1)) o st) (fun o mo => K 5 [nI (e + 1), o] mo) (e + 1)) (hlab : LabR co lb0 ge0) (hlb : lbn lb0 < e + 1) (r0 : Int32) :
    ∀ (fu fm x : Nat) (bd : List Nd) (lb : LB) (ge : gE) (gp : gP) (a : Nat) (li : Int32) (g : gN) (m : Nat) (st : ST) (mo : MO), SN tk gt co lb0 ge0 gp0 gq aS L0 g0 m0 1 0 bd lb ge gp a li g m st mo → tkn tk - a < fu → tkn tk - a < fm → x ≤ a →
      Sim (f_Pa_block_L27 E S F (nI e) fu (nI x) st) (bndM (f_Mo_block_L24 K (nI e) (nI m0) fm mo) (fun _ se => some (.inr (r0, s_at se (q_at se + 1))))) (fun _ st' n mo' => n = r0 ∧ ∃ bd lb ge gp a li g m, SN tk gt co lb0 ge0 gp0 gq aS L0 g0 m0 1 0 bd lb ge gp a li g m st' mo') := by
  intro fu
  induction fu with
  | zero => intro fm x bd lb ge gp a li g m st mo _ h; omega
  | succ fu ih =>
    intro fm x bd lb ge gp a li g m st mo hN hfu hfm hx
    have hN' := hN
    obtain ⟨⟨hw, hc, hq, hd⟩, b2, b3, b4, b5, b6, b7, b8, b9, b10, b11⟩ := hN
    have hT := hw.1.1
    have ha := hw.2.1
    obtain ⟨fm', rfl⟩ : ∃ q, fm = q + 1 := ⟨fm - 1, by omega⟩
    unfold f_Pa_block_L27 f_Mo_block_L24
    rw [if_neg (x_le hx ha hT), rs_sign hw.1 hq ha (s := 65) (by decide), bndM_some, nI_1 x, nI_1 e]
    by_cases c65 : f_Tk_sign tk (nI a) = 65
    · have hl := lt_of_sign hT (by omega) c65 (by decide)
      obtain ⟨st1, e1, c1⟩ := cs_acc hc c65
      rw [e1, bnd_some, if_neg n10, if_pos c65, if_neg n10, bndM_some]
      exact Sim_ret ⟨rfl, bd, lb, ge, gp, a + 1, li, g, m, SN_at hN' (Nat.le_succ _) (by omega) c1 (gM_inc hq)⟩
    · rw [cs_nacc hc c65, bnd_some, if_pos rfl, if_neg c65, if_pos rfl]
      simp only [bndM_as]
      refine Sim_bind (SN_S hs hN' (LabR_fr hlab b2) hlb) ?_
      rintro r st6 n mo6 ⟨lb6, ge6, gp6, a6, li6, g6, m6, sg6, n6, rfl, p6, x6, l6, l6'⟩
      obtain ⟨mo7, g7, e7, s7⟩ := PD_hang p6
      refine Sim_m e7 ?_
      exact ih fm' (x + 1) _ _ _ _ _ _ _ _ _ _ s7 (by have := s7.1.1.2.1; omega) (by have := s7.1.1.2.1; omega) (by omega)
theorem sm_block (hs : e ≤ 100 → HSt (fun o st => S (nI (e + 1)) o st) (fun o mo => K 5 [nI (e + 1), o] mo) (e + 1)) (he : e < 1000) (hR : RR tk gt co lb ge gp gq a li g m L st mo) (hlab : LabR co lb ge) (hlb : lbn lb < e) (hL : L.length ≤ 2 * a + 2) (hm : m ≤ 2 * a + 2) :
    Sim (f_Pa_block E S F st (nI e)) (f_Mo_block K mo (nI e)) (PX 0 (lbn lb) (XS tk a) tk gt co lb ge gp gq a g m L) := by
  obtain ⟨hw, hc, hq, hd⟩ := hR
  have hT := hw.1.1
  have ha := hw.2.1
  unfold f_Pa_block f_Mo_block
  by_cases hee : e ≤ 100
  · rw [cs_guard st hee, rs_deep mo hee, bnd_some, bndM_some, gC_at hc, gM_at hq]
    obtain ⟨st1, e1, c1⟩ := cs_open hc (by omega) hT 1 0 (nI a)
    refine Sim_c e1 ?_
    refine sm_expect hw.1 ha c1 hq (by decide) ?_
    intro hl hs1 st2 mo2 c2 q2
    have hk := sign_kind hT (by omega) hs1 (by decide)
    obtain ⟨mo3, g3, e3, q3, o3, f3, d3⟩ := rs_make' q2 hd (show m < 2600 by omega) 1 0 (nI a)
    refine Sim_m e3 ?_
    have s0 : SN tk gt co lb ge gp gq a L g m 1 0 [] lb ge gp (a + 1) li g3 (m + 1) st2 mo3 := ⟨⟨Wf_up hw (by omega) (by omega), c2, q3, d3⟩, Fr_refl _ _ _ _, f3 m (Nat.le_refl _), o3 _ _, by omega, by omega, by simp, by omega, by omega, by omega, by simp; omega⟩
    have hb := sm_blockL (E := E) (F := F) (hs hee) hlab (by omega) (nI m) 5000 5000 0 [] lb ge gp (a + 1) li g3 (m + 1) st2 mo3 s0 (by omega) (by omega) (by omega)
    refine Sim_bindC hb ?_
    rintro r st4 n mo4 ⟨rfl, bd, lb4, ge4, gp4, a4, li4, g4, m4, s4⟩
    obtain ⟨st5, e5, px⟩ := SN_close (X := XS tk a) s4 (XS_of (by rw [hk]; decide))
    refine Sim_c e5 ?_
    exact Sim_ret (px 0)
  · exact Sim_rr (p := nI a) (Ref_bnd (Ref_guard hc hee he)) (RefM_bnd (RefM_deep hq hee he)) (at_ne hw.1 ha)
/-- a token that is an operand alone, and a sign behind it that ends the expression -/
theorem rs_alone (hR : TkR tk gt) (hq : gM gt ge gp gq a li g mo) (hd : nM g = nI m) (hm : m < 2600) (hee : e ≤ 100) (hs3 : ge.1 = 0 ∨ ge.1 = 1) (hl : a + 1 < tkn tk) (hk : f_Tk_kind tk (nI a) = 3 ∨ f_Tk_kind tk (nI a) = 1 ∧ ¬ f_Tk_identifier tk (nI a) ge.1 = 0) (hs : f_Tk_sign tk (nI (a + 1)) = 67 ∨ f_Tk_sign tk (nI (a + 1)) = 70) :
    ∃ mo' g' li' kd val, f_Mo_expression K mo (nI e) 1 = some (.inr (nI m, mo')) ∧ gM gt ge gp gq (a + 1) li' g' mo' ∧ (∀ lo hi, Opn g' m kd val (nI a) [] lo hi) ∧ (∀ z, z ≤ m → FrN g g' z) ∧ nM g' = nI (m + 1) ∧ (f_Tk_kind tk (nI a) = 1 → kd = 28 ∧ li' = li) := by
  have hT := hR.1
  have ha : a ≤ tkn tk := by omega
  have ks : f_Tk_kind tk (nI (a + 1)) = 4 := by
    rcases hs with h | h
    · exact sign_kind hT (by omega) h (by decide)
    · exact sign_kind hT (by omega) h (by decide)
  have nsg : ∀ s : Int32, ¬ s = 67 → ¬ s = 70 → ¬ f_Tk_sign tk (nI (a + 1)) = s := by
    intro s h1 h2 h3
    rcases hs with h | h
    · rw [h] at h3; exact h1 h3.symm
    · rw [h] at h3; exact h2 h3.symm
  have nkw : ∀ s : Int32, ¬ s = -1 → ¬ f_Tk_keyword tk (nI (a + 1)) = s := by
    intro s h1 h2
    rw [(tk_noword hT (by omega) (by rw [ks]; decide)).1] at h2
    exact h1 h2.symm
  -- what comes behind the operand
  have behind : ∀ (mo1 : MO) (g1 : gN) (li1 : Int32), gM gt ge gp gq (a + 1) li1 g1 mo1 → f_Mo_member_L26 K (nI e) 1 5000 (nI m) 1 mo1 = some (.inr (nI m, mo1)) ∧ postR (nI m) mo1 = some (.inr (nI m, mo1)) ∧ f_Mo_operator mo1 1 = some (.inr (0, mo1)) ∧ assR K (nI e) 1 (nI m) mo1 = some (.inr (nI m, mo1)) ∧ f_Mo_expression_L7 K (nI e) 1 5000 (nI m) mo1 = some (.inr (nI m, mo1)) := by
    intro mo1 g1 li1 q1
    have hwd : q_words mo1 (q_at mo1).toNatClampNeg = f_Tk_sign tk (nI (a + 1)) := by
      rw [(gM_word hR q1 hl).1, (tk_in hT hl).2.2.2.1, if_pos (by rw [← (tk_in hT hl).1]; exact ks)]
    have n30 : ¬ f_Tk_sign tk (nI (a + 1)) < 30 := by rcases hs with h | h <;> rw [h] <;> decide
    have n53 : 53 < f_Tk_sign tk (nI (a + 1)) := by rcases hs with h | h <;> rw [h] <;> decide
    refine ⟨?_, ?_, ?_, ?_, ?_⟩
    · rw [f_Mo_member_L26.eq_def]
      show (if (1 : Int32) = 0 then _ else bndM (f_Mo_isSign mo1 66) _) = _
      rw [if_neg n10, rs_sign hR q1 (by omega) (s := 66) (by decide), bndM_some, if_neg (nsg 66 (by decide) (by decide)), if_pos rfl, rs_sign hR q1 (by omega) (s := 62) (by decide), bndM_some, if_neg (nsg 62 (by decide) (by decide)), if_pos rfl, if_neg n10, rs_sign hR q1 (by omega) (s := 60) (by decide), bndM_some, if_neg (nsg 60 (by decide) (by decide)), if_pos rfl, f_Mo_member_L26.eq_def]
      exact if_pos rfl
    · unfold postR
      rw [rs_sign hR q1 (by omega) (s := 73) (by decide), bndM_some, if_neg (nsg 73 (by decide) (by decide)), if_pos rfl, rs_sign hR q1 (by omega) (s := 74) (by decide), bndM_some, if_neg (nsg 74 (by decide) (by decide)), if_pos rfl]
    · unfold f_Mo_operator
      rw [rs_word hR q1 (by omega) (s := 14) (by decide) (by decide), bndM_some, if_neg (nkw 14 (by decide)), if_pos rfl, rs_word hR q1 (by omega) (s := 13) (by decide) (by decide), bndM_some, if_neg (nkw 13 (by decide)), if_pos rfl, rs_kind hR q1 (by omega) (k := 4) (by decide), bndM_some, if_pos ks, if_neg n10, if_pos (gM_inb q1 (by omega)), hwd, if_pos (Int32.not_lt.mp n30)]
    · unfold assR
      rw [rs_sign hR q1 (by omega) (s := 69) (by decide), bndM_some, if_neg (nsg 69 (by decide) (by decide)), if_pos rfl, rs_kind hR q1 (by omega) (k := 4) (by decide), bndM_some, if_pos ks, if_neg n10, if_pos (gM_inb q1 (by omega)), hwd, f_isIn, bndM_some, if_neg n30, if_pos n53, if_pos rfl]
    · rw [f_Mo_expression_L7.eq_def]
      show bndM (f_Mo_isSign mo1 68) _ = _
      rw [rs_sign hR q1 (by omega) (s := 68) (by decide), bndM_some, if_neg (nsg 68 (by decide) (by decide)), if_pos rfl]
  -- the operand itself
  have prim : ∃ mo' g' li' kd val, (f_Mo_primary K mo (nI e) = some (.inr (nI m, mo')) ∧ f_Mo_isWord mo 15 = some (.inr (0, mo)) ∧ f_Mo_prefix mo = some (.inr (-1, mo))) ∧ gM gt ge gp gq (a + 1) li' g' mo' ∧ (∀ lo hi, Opn g' m kd val (nI a) [] lo hi) ∧ (∀ z, z ≤ m → FrN g g' z) ∧ nM g' = nI (m + 1) ∧ (f_Tk_kind tk (nI a) = 1 → kd = 28 ∧ li' = li) := by
    rcases hk with k3 | ⟨k1, hid⟩
    · obtain ⟨mo', g', e1, q1, o1, f1, d1⟩ := rs_literal hq hd hm 30
      have x1 : ¬ f_Tk_kind tk (nI a) = 1 := by rw [k3]; decide
      have x2 : ¬ f_Tk_kind tk (nI a) = 2 := by rw [k3]; decide
      have x4 : ¬ f_Tk_kind tk (nI a) = 4 := by rw [k3]; decide
      refine ⟨mo', g', _, _, _, ⟨?_, ?_, ?_⟩, q1, o1, f1, d1, fun h => absurd (k3.symm.trans h) (by decide)⟩
      · unfold f_Mo_primary
        rw [rs_deep mo hee, bndM_some, rs_kind hR hq ha (k := 2) (by decide), bndM_some, if_neg x2, if_pos rfl, rs_kind hR hq ha (k := 3) (by decide), bndM_some, if_pos k3, if_neg n10, e1]
        rfl
      · rw [rs_word hR hq ha (s := 15) (by decide) (by decide), if_neg (by rw [(tk_noword hT (by omega) (by rw [k3]; decide)).1]; decide)]
      · unfold f_Mo_prefix
        rw [rs_kind hR hq ha (k := 1) (by decide), bndM_some, if_neg x1, if_pos rfl, rs_kind hR hq ha (k := 4) (by decide), bndM_some, if_neg x4, if_pos rfl]
    · obtain ⟨mo', g', e1, q1, o1, f1, d1⟩ := rs_make' (gM_inc hq) hd hm 28 (f_Tk_name tk (nI a)) (nI a)
      have hl0 : a < tkn tk := by omega
      have hkk : tkK tk a = 1 := by rw [← (tk_in hT hl0).1]; exact k1
      have nw : ∀ s : Int32, s ≤ 35 → ¬ s < 0 → ¬ tkW tk a = s := by
        intro s h1 h2 h3
        rw [tk_id hT hl0 hkk, h3] at hid
        apply hid
        obtain ⟨j, hj, hjj⟩ := nI_of2 (n := 35) (by decide) h2 h1
        subst hjj
        rcases hs3 with h9 | h9
        · rw [h9]
          have : ∀ j, j ≤ 35 → idW (nI j) 0 = 0 := by decide +kernel
          exact this j hj
        · rw [h9]
          have : ∀ j, j ≤ 35 → idW (nI j) 1 = 0 := by decide +kernel
          exact this j hj
      have nk : ∀ s : Int32, s ≤ 35 → ¬ s < 0 → ¬ f_Tk_keyword tk (nI a) = s := by
        intro s h1 h2
        rw [(tk_in hT hl0).2.2.2.2, if_pos hkk]
        by_cases c : 35 < tkW tk a
        · rw [if_pos c]
          intro h
          rw [← h] at h2
          exact h2 (by decide)
        · rw [if_neg c]; exact nw s h1 h2
      have sg : f_Tk_sign tk (nI a) = -1 := tk_nosign hT (by omega) (by rw [k1]; decide)
      have x2 : ¬ f_Tk_kind tk (nI a) = 2 := by rw [k1]; decide
      have x3 : ¬ f_Tk_kind tk (nI a) = 3 := by rw [k1]; decide
      have x5 : ¬ f_Tk_kind tk (nI a) = 5 := by rw [k1]; decide
      have y62 : ¬ f_Tk_sign tk (nI a) = 62 := by rw [sg]; decide
      have y64 : ¬ f_Tk_sign tk (nI a) = 64 := by rw [sg]; decide
      have y60 : ¬ f_Tk_sign tk (nI a) = 60 := by rw [sg]; decide
      refine ⟨mo', g', _, _, _, ⟨?_, ?_, ?_⟩, q1, o1, f1, d1, fun _ => ⟨rfl, rfl⟩⟩
      · unfold f_Mo_primary
        rw [rs_deep mo hee, bndM_some, rs_kind hR hq ha (k := 2) (by decide), bndM_some, if_neg x2, if_pos rfl, rs_kind hR hq ha (k := 3) (by decide), bndM_some, if_neg x3, if_pos rfl, rs_kind hR hq ha (k := 5) (by decide), bndM_some, if_neg x5, if_pos rfl,
          rs_word hR hq ha (s := 18) (by decide) (by decide), bndM_some, if_neg (nk 18 (by decide) (by decide)), if_pos rfl, rs_word hR hq ha (s := 27) (by decide) (by decide), bndM_some, if_neg (nk 27 (by decide) (by decide)), if_pos rfl, rs_word hR hq ha (s := 28) (by decide) (by decide), bndM_some, if_neg (nk 28 (by decide) (by decide)), if_pos rfl, rs_word hR hq ha (s := 26) (by decide) (by decide), bndM_some, if_neg (nk 26 (by decide) (by decide)), if_pos rfl, rs_word hR hq ha (s := 11) (by decide) (by decide), bndM_some, if_neg (nk 11 (by decide) (by decide)), if_pos rfl,
          rs_sign hR hq ha (s := 62) (by decide), bndM_some, if_neg y62, if_pos rfl, rs_sign hR hq ha (s := 64) (by decide), bndM_some, if_neg y64, if_pos rfl, rs_sign hR hq ha (s := 60) (by decide), bndM_some, if_neg y60, if_pos rfl, rs_ident hR ha hq hs3 hid, bndM_some, gM_at hq]
        have e1' := e1
        rw [gM_at hq] at e1'
        rw [e1']
        rfl
      · rw [rs_word hR hq ha (s := 15) (by decide) (by decide), if_neg (nk 15 (by decide) (by decide))]
      · unfold f_Mo_prefix
        rw [rs_kind hR hq ha (k := 1) (by decide), bndM_some, if_pos k1, if_neg n10, if_pos (gM_inb hq (by omega)), (gM_word hR hq hl0).1, if_neg (nw 6 (by decide) (by decide)), if_neg (nw 23 (by decide) (by decide)), if_neg (nw 21 (by decide) (by decide))]
  obtain ⟨mo', g', li', kd, val, ⟨p1, p2, p3⟩, q1, o1, f1, d1, h28⟩ := prim
  obtain ⟨t1, t2, t3, t4, t5⟩ := behind mo' g' li' q1
  refine ⟨mo', g', li', kd, val, ?_, q1, o1, f1, d1, h28⟩
  have hun : f_Mo_unary K mo (nI e) = some (.inr (nI m, mo')) := by
    rw [unR_eq, rs_deep mo hee, bndM_some, p3, bndM_some]
    unfold unR
    rw [if_neg (by decide), postR_eq, memR_eq, p2, bndM_some, if_pos rfl, p1, bndM_some, t1, bndM_some, bndM_some, t2, bndM_some]
  have hbin : f_Mo_binary K mo (nI e) 1 1 = some (.inr (nI m, mo')) := by
    unfold f_Mo_binary
    rw [rs_deep mo hee, bndM_some, hun, bndM_some, t3, bndM_some, f_Mo_binary_L19.eq_def]
    show bndM (if (0 : Int32) ≤ 0 then _ else _) _ = _
    rw [if_pos (by decide), bndM_some]
  have hass : f_Mo_assignment K mo (nI e) 1 = some (.inr (nI m, mo')) := by
    rw [assR_eq, rs_deep mo hee, bndM_some, hbin, bndM_some, t4]
  unfold f_Mo_expression
  rw [hass, bndM_some, t5, bndM_some]
end PWU
