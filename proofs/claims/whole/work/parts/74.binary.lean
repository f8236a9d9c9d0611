/-! operators between operands -/
theorem sg_known {w : Int32} (h : f_Tk_knownSign w = 1) : ¬ w < 1 ∧ (w ≤ 23 ∨ 30 ≤ w) := by
  have tr : ∀ {x y z : Int32}, x < y → y ≤ z → x < z := fun h1 h2 => Int32.lt_of_lt_of_le h1 h2
  have ne : ∀ {x y : Int32}, x < y → ¬ x = y := fun h1 h2 => by subst h2; exact Int32.lt_irrefl h1
  constructor
  · intro c
    unfold f_Tk_knownSign at h
    rw [if_pos c, if_pos (tr c (by decide)), if_neg (ne (tr c (by decide))), if_pos (tr c (by decide)), if_pos (tr c (by decide)), if_pos (tr c (by decide))] at h
    exact absurd h (by decide)
  · refine Classical.byContradiction (fun hh => ?_)
    have c23 : 23 < w := Int32.not_le.mp (fun e => hh (Or.inl e))
    have c30 : w < 30 := Int32.not_le.mp (fun e => hh (Or.inr e))
    have gt : ∀ {x : Int32}, x ≤ 23 → ¬ w < x := fun hx h2 => Int32.lt_irrefl (Int32.lt_trans c23 (Int32.lt_of_lt_of_le h2 hx))
    have gt2 : ∀ {x : Int32}, x ≤ 23 → ¬ w ≤ x := fun hx h2 => Int32.lt_irrefl (Int32.lt_of_lt_of_le c23 (Int32.le_trans h2 hx))
    unfold f_Tk_knownSign at h
    rw [if_neg (gt (by decide)), if_neg (gt2 (by decide)), if_neg (gt (by decide)), if_neg (gt2 (by decide)), if_neg (ne c30), if_pos (tr c30 (by decide)), if_pos (tr c30 (by decide)), if_pos (tr c30 (by decide))] at h
    exact absurd h (by decide)
def strV (o : Int32) : Int32 := if 6 ≤ o then (if 10 ≤ o then (if 16 ≤ o then (if 19 ≤ o then (if 21 ≤ o then 10 else 9) else 8) else 7) else 6) else o
theorem f_str (mo : MO) (o : Int32) : f_Mo_strength mo o = some (.inr (strV o, mo)) := by
  unfold f_Mo_strength strV
  repeat' (first | rfl | split)
theorem rank_str : ∀ j, j < 24 → 1 ≤ j → strV (nI j) = f_Pa_rank (nI j) ∧ ∃ q, q < 11 ∧ 1 ≤ q ∧ f_Pa_rank (nI j) = nI q := by
  have h : ∀ j, j < 24 → 1 ≤ j → strV (nI j) = f_Pa_rank (nI j) ∧ ((f_Pa_rank (nI j)).toNatClampNeg < 11 ∧ 1 ≤ (f_Pa_rank (nI j)).toNatClampNeg ∧ f_Pa_rank (nI j) = nI (f_Pa_rank (nI j)).toNatClampNeg) := by decide +kernel
  intro j h1 h2
  obtain ⟨a1, a2, a3, a4⟩ := h j h1 h2
  exact ⟨a1, _, a2, a3, a4⟩
section PUO
variable {tk : TK} {lb lb0 : LB} {co : CO} {L L0 : List Nd} {st : ST} {gt : gT} {ge ge0 : gE} {gp gp0 : gP} {gq : gQ} {a a0 : Nat} {li : Int32} {g g0 : gN} {mo : MO} {m m0 e n nf : Nat} {sg : List Nd} {inn : Int32}
variable {E : Int32 → Int32 → Int32 → ST → Rz} {S : Int32 → Int32 → ST → Rz} {F : Int32 → Int32 → ST → Rz} {K : Nat → List Int32 → MO → Rm}
theorem known4 {k w n : Int32} (h : f_Tk_known k w n = 1) (hk : k = 4) : f_Tk_knownSign w = 1 := by
  subst hk
  unfold f_Tk_known at h
  rw [if_neg (by decide), if_neg (by decide), if_neg (by decide), if_pos rfl] at h
  exact h
theorem rs_oper (hw : TkR tk gt) (ha : a ≤ tkn tk) (hc : gC tk lb co a li L st) (hq : gM gt ge gp gq a li g mo) (hi : inn = 0 ∨ inn = 1) :
    f_Mo_operator mo inn = some (.inr (f_Cu_binaryOperator st inn, mo)) ∧ (f_Cu_binaryOperator st inn = 0 ∨ a < tkn tk ∧ ∃ j, j < 24 ∧ 1 ≤ j ∧ f_Cu_binaryOperator st inn = nI j) := by
  have hT := hw.1
  unfold f_Mo_operator f_Cu_binaryOperator
  rw [rs_word hw hq ha (s := 14) (by decide) (by decide), bndM_some, cu_word hc, cu_word hc, gC_tk hc, gC_at hc]
  simp only [t01]
  by_cases c14 : f_Tk_keyword tk (nI a) = 14
  · rw [if_neg (fun h => h c14), if_neg (fun h => h c14)]
    exact ⟨rfl, Or.inr ⟨lt_of_word hT (by omega) c14 (by decide), 14, by decide, by decide, rfl⟩⟩
  · rw [if_pos c14, if_pos c14, rs_word hw hq ha (s := 13) (by decide) (by decide), bndM_some]
    simp only [t01]
    have sgn : (f_Tk_sign tk (nI a) = -1 ∧ ¬ f_Tk_kind tk (nI a) = 4) ∨ (a < tkn tk ∧ f_Tk_kind tk (nI a) = 4 ∧ f_Tk_sign tk (nI a) = tkW tk a ∧ ¬ tkW tk a < 1 ∧ (tkW tk a ≤ 23 ∨ 30 ≤ tkW tk a)) := by
      by_cases c4 : f_Tk_kind tk (nI a) = 4
      · right
        have hl := lt_of_kind hT (by omega) c4 (by decide)
        have c4' := c4
        rw [(tk_in hT hl).1] at c4'
        have := sg_known (known4 (hw.2.2 a hl).2.2.2.2.2 c4')
        exact ⟨hl, c4, by rw [(tk_in hT hl).2.2.2.1, if_pos c4'], this.1, this.2⟩
      · left
        exact ⟨tk_nosign hT (by omega) c4, c4⟩
    have body : (¬ f_Tk_keyword tk (nI a) = 13 ∨ inn = 0) → (bndM (f_Mo_isKind mo 4) (fun r_5 mo_5 => (if r_5 = 0 then (some (.inr (0, mo_5))) else (if inb (q_at mo_5) 1001 then (if 30 ≤ ((q_words mo_5) ((q_at mo_5) : Int32).toNatClampNeg) then (some (.inr (0, mo_5))) else (some (.inr (((q_words mo_5) ((q_at mo_5) : Int32).toNatClampNeg), mo_5)))) else none))) : Rm) = some (.inr ((if (f_Tk_sign tk (nI a)) < 1 then 0 else (if 23 < (f_Tk_sign tk (nI a)) then 0 else (f_Tk_sign tk (nI a)))), mo)) ∧ ((if (f_Tk_sign tk (nI a)) < 1 then 0 else (if 23 < (f_Tk_sign tk (nI a)) then 0 else (f_Tk_sign tk (nI a)))) = 0 ∨ a < tkn tk ∧ ∃ j, j < 24 ∧ 1 ≤ j ∧ (if (f_Tk_sign tk (nI a)) < 1 then 0 else (if 23 < (f_Tk_sign tk (nI a)) then 0 else (f_Tk_sign tk (nI a)))) = nI j) := by
      intro _
      rw [rs_kind hw hq ha (k := 4) (by decide), bndM_some]
      simp only [t01]
      rcases sgn with ⟨s1, s2⟩ | ⟨hl, s2, s3, s4, s5⟩
      · rw [if_pos s2, s1, if_pos (by decide)]
        exact ⟨rfl, Or.inl rfl⟩
      · rw [if_neg (fun h => h s2), if_pos (gM_inb hq (by omega)), (gM_word hw hq hl).1, s3, if_neg s4]
        by_cases c23 : tkW tk a ≤ 23
        · have n30 : ¬ 30 ≤ tkW tk a := fun h => absurd (Int32.le_trans h c23) (by decide)
          rw [if_neg n30, if_neg (Int32.not_lt.mpr c23)]
          refine ⟨rfl, Or.inr ⟨hl, ?_⟩⟩
          have n0 : ¬ tkW tk a < 0 := fun h => s4 (Int32.lt_trans h (by decide))
          obtain ⟨j, hj, hjj⟩ := nI_of2 (n := 23) (by decide) n0 c23
          refine ⟨j, by omega, ?_, hjj⟩
          cases j with
          | zero => rw [hjj] at s4; exact absurd (by decide) s4
          | succ j => omega
        · have h30 := s5.resolve_left c23
          rw [if_pos h30, if_pos (Int32.not_le.mp c23)]
          exact ⟨rfl, Or.inl rfl⟩
    by_cases c13 : f_Tk_keyword tk (nI a) = 13
    · rw [if_neg (fun h => h c13)]
      rcases hi with rfl | rfl
      · rw [if_pos rfl, if_pos rfl]
        have k1 := word_kind hT (by omega) c13 (by decide)
        have s1 := tk_nosign (tk := tk) (a := a) hT (by omega) (by rw [k1]; decide)
        rw [s1, if_pos (by decide)]
        exact ⟨rfl, Or.inl rfl⟩
      · rw [if_neg (by decide), if_neg (by decide), if_neg (fun h => h c13)]
        exact ⟨rfl, Or.inr ⟨lt_of_word hT (by omega) c13 (by decide), 15, by decide, by decide, rfl⟩⟩
    · rw [if_pos c13]
      rcases hi with rfl | rfl
      · rw [if_pos rfl]
        exact body (Or.inl c13)
      · rw [if_neg (by decide), if_pos c13]
        exact body (Or.inl c13)
theorem sm_bins (hi : inn = 0 ∨ inn = 1) (h2 : ∀ j, 2 ≤ j → j ≤ 11 → HC 1 2 XT (E (nI j) (nI (e + 1)) inn) (K 2 [nI (e + 1), inn, nI j]) (e + 1)) (tk : TK) (gt : gT) (co : CO) (lb0 : LB) (ge0 : gE) (gp0 : gP) (gq : gQ) (a0 : Nat) (g0 : gN) (m0 : Nat) (L0 : List Nd) (hlb : lbn lb0 < e + 1) (lw : Nat) (hlw : 1 ≤ lw) (hlw2 : lw ≤ 11) :
    ∀ (fu fm x : Nat) (lb : LB) (ge : gE) (gp : gP) (a : Nat) (li : Int32) (g : gN) (m : Nat) (sg : List Nd) (n : Nat) (st : ST) (mo : MO),
      CU (lbn lb0) tk gt co lb0 ge0 gp0 gq a0 g0 m0 L0 lb ge gp a li g m sg n st mo → XL (tk, co) a0 a sg → tkn tk - a < fu → tkn tk - a < fm → x ≤ a →
      Sim (f_Pa_binaries_L11 E S F (nI L0.length) (nI lw) (nI e) inn fu (f_Cu_binaryOperator st inn) (nI x) st) (f_Mo_binary_L19 K (nI e) inn (nI lw) fm (nI n) (f_Cu_binaryOperator st inn) mo) (PX 1 (lbn lb0) (XL (tk, co) a0) tk gt co lb0 ge0 gp0 gq a0 g0 m0 L0) := by
  intro fu
  induction fu with
  | zero => intro fm x lb ge gp a li g m sg n st mo _ _ h; omega
  | succ fu ih =>
    intro fm x lb ge gp a li g m sg n st mo hU hX hfu hfm hx
    have hU' := hU
    obtain ⟨⟨hw, hc, hq, hd⟩, hF, hN, hO, h5, h6, h7, h8, h9⟩ := hU
    have hT := hw.1.1
    have ha := hw.2.1
    have hlb2 : lbn lb = lbn lb0 := hF.1
    have hon := One_in hO
    have hlen : (L0 ++ sg).length = L0.length + sg.length := by simp
    obtain ⟨fm', rfl⟩ : ∃ q, fm = q + 1 := ⟨fm - 1, by omega⟩
    obtain ⟨_, hop⟩ := rs_oper (inn := inn) hw.1 ha hc hq hi
    unfold f_Pa_binaries_L11 f_Mo_binary_L19
    rw [if_neg (x_le hx ha hT)]
    rcases hop with h0 | ⟨hl, j, j1, j2, hj⟩
    · have e0 : f_Pa_rank 0 = nI 0 := by decide +kernel
      have e1 : f_Pa_rank 0 < nI lw := by rw [e0]; exact nI_lt (by omega) (by omega)
      rw [h0, if_pos e1, if_pos (show (0 : Int32) ≤ 0 by decide)]
      exact Sim_ret (CU_PX hU' hX 0)
    · obtain ⟨er, q, q1, q2, hq2⟩ := rank_str j j1 j2
      rw [hj, hq2, if_neg (nI_nle (by omega) (by omega)), f_str, bndM_some, er, hq2]
      by_cases cl : q < lw
      · rw [if_pos (nI_lt cl (by omega)), if_pos (nI_lt cl (by omega))]
        exact Sim_ret (CU_PX hU' hX 0)
      · rw [if_neg (nI_nlt (by omega) (by omega)), if_neg (nI_nlt (by omega) (by omega)), nI_1 q, nI_1 e, nI_1 x]
        obtain ⟨mo1, g1, e2, q1', o1, f1, d1⟩ := rs_make' hq hd (show m < 2600 by omega) 41 (nI j) (q_at mo)
        refine Sim_m e2 ?_
        rw [gM_at hq] at o1
        have on := One_fr hO (f1 m (Nat.le_refl _)) (Nat.le_refl _)
        obtain ⟨mo2, g2, e3, q2', o2, f2, d2⟩ := rs_hang' (gM_inc q1') (o1 m0 m0) on (Nat.le_refl _) (Nat.le_refl _) (Or.inr (Nat.le_refl _))
        refine Sim_m e3 ?_
        rw [List.nil_append] at o2
        rw [f_str, bndM_some, er, hq2, nI_1 q]
        refine Sim_bind (h2 (q + 1) (by omega) (by omega) tk gt co lb ge gp gq (a + 1) li g2 (m + 1) _ _ _ ⟨Wf_up hw (by omega) (by omega), gC_inc hc, q2', d2.trans d1⟩ (by omega) (by omega) (by omega)) ?_
        intro r st3 n3 mo3 h3
        obtain ⟨lb3, ge3, gp3, a3, li3, g3, m3, sg3, n3', rfl, w3, c3, q3, d3, fr3, fn3, o3, l1, l2, l3, l4, l5, l6, l7, _⟩ := PX_le h3
        have o2' := Opn_fr o2 fn3 (Nat.le_succ m) (Nat.lt_succ_self m)
        obtain ⟨mo4, g4, e4, q4, o4, f4, d4⟩ := rs_hang' q3 o2' o3 (Nat.le_succ m) (by omega) (Or.inl (Nat.lt_succ_self m))
        refine Sim_m e4 ?_
        obtain ⟨st6, e6, c6⟩ := cs_wrap (pre := L0) (sg := sg ++ sg3) c3 (by simp) (by have := One_pos hO; simp; omega) (by omega) hT 41 (nI j) (sAt st) rfl
        refine Sim_c e6 ?_
        rw [gC_at hc] at c6
        obtain ⟨ho6, _⟩ := rs_oper (inn := inn) w3.1 l2 c6 q4 hi
        rw [ho6, bndM_some]
        have hone := Opn_one o4 (Nat.le_refl _) (Nat.le_refl _) (by omega) (by omega)
        refine ih fm' (x + 1) lb3 ge3 gp3 a3 li3 g4 m3 _ m _ _ ⟨⟨w3, c6, q4, d4.trans d3⟩, Fr_trans hF fr3 (by rw [hlb2]; exact Nat.le_refl _), ?_, hone, by omega, by simp; omega, by omega, h8, h9⟩ (XL_hd (by decide) (by decide) (by omega)) (by omega) (by omega) (by omega)
        exact FrN_trans (FrN_trans (FrN_trans (FrN_trans hN (f1 m (Nat.le_refl _)) (by omega)) (f2 m0 (Nat.le_refl _) (by omega)) (Nat.le_refl _)) fn3 (by omega)) (f4 m0 (Nat.le_refl _) (by omega)) (Nat.le_refl _)
theorem sm_commas (he : HC 1 2 XA (E 0 (nI (e + 1)) inn) (K 1 [nI (e + 1), inn]) (e + 1)) (tk : TK) (gt : gT) (co : CO) (lb0 : LB) (ge0 : gE) (gp0 : gP) (gq : gQ) (a0 : Nat) (g0 : gN) (m0 : Nat) (L0 : List Nd) (hlb : lbn lb0 < e + 1) :
    ∀ (fu fm x : Nat) (lb : LB) (ge : gE) (gp : gP) (a : Nat) (li : Int32) (g : gN) (m : Nat) (sg : List Nd) (n : Nat) (st : ST) (mo : MO),
      CU (lbn lb0) tk gt co lb0 ge0 gp0 gq a0 g0 m0 L0 lb ge gp a li g m sg n st mo → XL (tk, co) a0 a sg → tkn tk - a < fu → tkn tk - a < fm → x ≤ a →
      Sim (f_Pa_commas_L9 E S F (nI L0.length) (nI e) inn fu (sAt st) (nI x) st) (f_Mo_expression_L7 K (nI e) inn fm (nI n) mo) (PX 1 (lbn lb0) (XL (tk, co) a0) tk gt co lb0 ge0 gp0 gq a0 g0 m0 L0) := by
  intro fu
  induction fu with
  | zero => intro fm x lb ge gp a li g m sg n st mo _ _ h; omega
  | succ fu ih =>
    intro fm x lb ge gp a li g m sg n st mo hU hX hfu hfm hx
    have hU' := hU
    obtain ⟨⟨hw, hc, hq, hd⟩, hF, hN, hO, h5, h6, h7, h8, h9⟩ := hU
    have hT := hw.1.1
    have ha := hw.2.1
    have hlb2 : lbn lb = lbn lb0 := hF.1
    have hon := One_in hO
    have hlen : (L0 ++ sg).length = L0.length + sg.length := by simp
    obtain ⟨fm', rfl⟩ : ∃ q, fm = q + 1 := ⟨fm - 1, by omega⟩
    unfold f_Pa_commas_L9 f_Mo_expression_L7
    rw [if_neg (x_le hx ha hT), rs_sign hw.1 hq ha (s := 68) (by decide), bndM_some]
    simp only [t01]
    by_cases c68 : f_Tk_sign tk (nI a) = 68
    · have hl := lt_of_sign hT (by omega) c68 (by decide)
      obtain ⟨st1, e1, c1⟩ := cs_acc hc c68
      refine Sim_c e1 ?_
      rw [if_neg (by decide), if_neg (fun h => h c68), nI_1, nI_1]
      obtain ⟨mo1, g1, e2, q1', o1, f1, d1⟩ := rs_make' hq hd (show m < 2600 by omega) 45 0 (q_at mo)
      refine Sim_m e2 ?_
      rw [gM_at hq] at o1
      have on := One_fr hO (f1 m (Nat.le_refl _)) (Nat.le_refl _)
      obtain ⟨mo2, g2, e3, q2', o2, f2, d2⟩ := rs_hang' (gM_inc q1') (o1 m0 m0) on (Nat.le_refl _) (Nat.le_refl _) (Or.inr (Nat.le_refl _))
      refine Sim_m e3 ?_
      rw [List.nil_append] at o2
      refine Sim_bind (he tk gt co lb ge gp gq (a + 1) li g2 (m + 1) _ _ _ ⟨Wf_up hw (by omega) (by omega), c1, q2', d2.trans d1⟩ (by omega) (by omega) (by omega)) ?_
      intro r st3 n3 mo3 h3
      obtain ⟨lb3, ge3, gp3, a3, li3, g3, m3, sg3, n3', rfl, w3, c3, q3, d3, fr3, fn3, o3, l1, l2, l3, l4, l5, l6, l7, _⟩ := PX_le h3
      have o2' := Opn_fr o2 fn3 (Nat.le_succ m) (Nat.lt_succ_self m)
      obtain ⟨mo4, g4, e4, q4, o4, f4, d4⟩ := rs_hang' q3 o2' o3 (Nat.le_succ m) (by omega) (Or.inl (Nat.lt_succ_self m))
      refine Sim_m e4 ?_
      obtain ⟨st6, e6, c6⟩ := cs_wrap (pre := L0) (sg := sg ++ sg3) c3 (by simp) (by have := One_pos hO; simp; omega) (by omega) hT 45 0 (sAt st) rfl
      refine Sim_c e6 ?_
      rw [gC_at hc] at c6
      have hone := Opn_one o4 (Nat.le_refl _) (Nat.le_refl _) (by omega) (by omega)
      refine ih fm' (x + 1) lb3 ge3 gp3 a3 li3 g4 m3 _ m _ _ ⟨⟨w3, c6, q4, d4.trans d3⟩, Fr_trans hF fr3 (by rw [hlb2]; exact Nat.le_refl _), ?_, hone, by omega, by simp; omega, by omega, h8, h9⟩ (XL_hd (by decide) (by decide) (by omega)) (by omega) (by omega) (by omega)
      exact FrN_trans (FrN_trans (FrN_trans (FrN_trans hN (f1 m (Nat.le_refl _)) (by omega)) (f2 m0 (Nat.le_refl _) (by omega)) (Nat.le_refl _)) fn3 (by omega)) (f4 m0 (Nat.le_refl _) (by omega)) (Nat.le_refl _)
    · refine Sim_c (cs_nacc hc c68) ?_
      rw [if_pos rfl, if_pos c68]
      exact Sim_ret (CU_PX hU' hX 0)
end PUO
