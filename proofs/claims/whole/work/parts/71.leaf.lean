/-! operands: single tokens -/
theorem kind_cases {k w n : Int32} (h : f_Tk_known k w n = 1) : k = 1 ∨ k = 2 ∨ k = 3 ∨ k = 4 ∨ k = 5 := by
  by_cases h1 : k = 1
  · exact Or.inl h1
  · by_cases h2 : k = 2
    · exact Or.inr (Or.inl h2)
    · by_cases h3 : k = 3
      · exact Or.inr (Or.inr (Or.inl h3))
      · by_cases h4 : k = 4
        · exact Or.inr (Or.inr (Or.inr (Or.inl h4)))
        · by_cases h5 : k = 5
          · exact Or.inr (Or.inr (Or.inr (Or.inr h5)))
          · unfold f_Tk_known at h
            rw [if_neg h1, if_neg h2, if_neg h3, if_neg h4, if_neg h5] at h
            exact absurd h (by decide)
section PUL
variable {tk : TK} {lb : LB} {co : CO} {L : List Nd} {st : ST} {gt : gT} {ge : gE} {gp : gP} {gq : gQ} {a : Nat} {li : Int32} {g : gN} {mo : MO} {m e : Nat}
variable {E : Int32 → Int32 → Int32 → ST → Rz} {S : Int32 → Int32 → ST → Rz} {F : Int32 → Int32 → ST → Rz} {K : Nat → List Int32 → MO → Rm}
theorem tk_nosign (hT : tkn tk ≤ 1000) (ha : a ≤ 1000) (h : ¬ f_Tk_kind tk (nI a) = 4) : f_Tk_sign tk (nI a) = -1 := by
  by_cases e : a < tkn tk
  · rw [(tk_in hT e).2.2.2.1]; rw [(tk_in hT e).1] at h; rw [if_neg h]
  · exact (tk_out hT (by omega) (by omega)).2.2.2.1
theorem tk_noword (hT : tkn tk ≤ 1000) (ha : a ≤ 1000) (h : ¬ f_Tk_kind tk (nI a) = 1) : f_Tk_keyword tk (nI a) = -1 ∧ ∀ s, f_Tk_identifier tk (nI a) s = 0 := by
  by_cases e : a < tkn tk
  · rw [(tk_in hT e).2.2.2.2]
    rw [(tk_in hT e).1] at h
    refine ⟨if_neg h, fun s => ?_⟩
    unfold f_Tk_identifier
    rw [if_neg (nI_pos (by omega)), if_neg (nI_ge e (by omega)), nI_clamp (by omega), if_neg h]
  · exact ⟨(tk_out hT (by omega) (by omega)).2.2.2.2.1, (tk_out hT (by omega) (by omega)).2.2.2.2.2⟩
theorem cu_id (hc : gC tk lb co a li L st) : f_Cu_atIdentifier st = f_Tk_identifier tk (nI a) co.2.2.1 := by
  unfold f_Cu_atIdentifier; rw [gC_tk hc, gC_at hc, gC_cs hc]
theorem cs_lit (hc : gC tk lb co a li L st) (hL : L.length ≤ 2 * tkn tk + 3) (hT : tkn tk ≤ 1000) {k : Int32} (hk : f_Pa_leafKind st = k) (h : k = 29 ∨ k = 30 ∨ k = 31) : ∃ st', f_Pa_leaf st = some (.inr (0, st')) ∧ gC tk lb co (a + 1) (li + 1) (L ++ [(k, li, nI a, 1)]) st' := by
  obtain ⟨st1, e1, c1⟩ := cs_open hc hL hT k (sLi st) (sAt st)
  rw [gC_li hc, gC_at hc] at c1
  have c2 := gC_setLi (gC_inc c1) (sLi st1 + 1)
  refine ⟨setLi (setAt st1 (sAt st1 + 1)) (sLi st1 + 1), ?_, by rw [gC_li c1] at c2 ⊢; exact c2⟩
  unfold f_Pa_leaf
  rw [hk, e1]
  rcases h with rfl | rfl | rfl
  · rfl
  · rfl
  · rfl
theorem cs_plain (hc : gC tk lb co a li L st) (hL : L.length ≤ 2 * tkn tk + 3) (hT : tkn tk ≤ 1000) {k : Int32} (hk : f_Pa_leafKind st = k) (h : k = 27 ∨ k = 32 ∨ k = 33 ∨ k = 34) : ∃ st', f_Pa_leaf st = some (.inr (0, st')) ∧ gC tk lb co (a + 1) li (L ++ [(k, 0, nI a, 1)]) st' := by
  obtain ⟨st1, e1, c1⟩ := cs_open hc hL hT k 0 (sAt st)
  rw [gC_at hc] at c1
  refine ⟨_, ?_, gC_inc c1⟩
  unfold f_Pa_leaf
  rw [hk, e1]
  rcases h with rfl | rfl | rfl | rfl
  · rfl
  · rfl
  · rfl
  · rfl
theorem cs_name (hc : gC tk lb co a li L st) (hL : L.length ≤ 2 * tkn tk + 3) (hT : tkn tk ≤ 1000) (hk : f_Pa_leafKind st = 28) : ∃ st', f_Pa_leaf st = some (.inr (0, st')) ∧ gC tk lb co (a + 1) li (L ++ [(28, f_Tk_name tk (nI a), nI a, 1)]) st' := by
  obtain ⟨st1, e1, c1⟩ := cs_open hc hL hT 28 (f_Tk_name (sTk st) (sAt st)) (sAt st)
  rw [gC_at hc, gC_tk hc] at c1
  refine ⟨_, ?_, gC_inc c1⟩
  unfold f_Pa_leaf
  rw [hk, if_pos rfl, e1]
  rfl
theorem sm_leaf (hR : RR tk gt co lb ge gp gq a li g m L st mo) (hee : e ≤ 100) (hL : L.length ≤ 2 * a + 2) (hm : m ≤ 2 * a + 2) (h60 : ¬ f_Tk_sign tk (nI a) = 60) (h62 : ¬ f_Tk_sign tk (nI a) = 62) (h64 : ¬ f_Tk_sign tk (nI a) = 64) (h11 : ¬ f_Tk_keyword tk (nI a) = 11) :
    Sim (f_Pa_leaf st) (f_Mo_primary K mo (nI e)) (PX 1 (lbn lb) (XL (tk, co) a) tk gt co lb ge gp gq a g m L) := by
  obtain ⟨hw, hc, hq, hd⟩ := hR
  have hT := hw.1.1
  have ha := hw.2.1
  have hs3 : ge.1 = 0 ∨ ge.1 = 1 := by rw [hw.2.2.1.1]; exact hw.2.2.1.2
  have hgs : ge.1 = co.2.2.1 := hw.2.2.1.1
  have k2 := rs_kind hw.1 hq ha (k := 2) (by decide)
  have k3 := rs_kind hw.1 hq ha (k := 3) (by decide)
  have k5 := rs_kind hw.1 hq ha (k := 5) (by decide)
  have w18 := rs_word hw.1 hq ha (s := 18) (by decide) (by decide)
  have w27 := rs_word hw.1 hq ha (s := 27) (by decide) (by decide)
  have w28 := rs_word hw.1 hq ha (s := 28) (by decide) (by decide)
  have w26 := rs_word hw.1 hq ha (s := 26) (by decide) (by decide)
  have w11 := rs_word hw.1 hq ha (s := 11) (by decide) (by decide)
  have s62 := rs_sign hw.1 hq ha (s := 62) (by decide)
  have s64 := rs_sign hw.1 hq ha (s := 64) (by decide)
  have s60 := rs_sign hw.1 hq ha (s := 60) (by decide)
  have etk := gC_tk hc
  have eat := gC_at hc
  have eid := cu_id hc
  have lit : ∀ k : Int32, (k = 29 ∨ k = 30 ∨ k = 31) → (f_Tk_kind tk (nI a) = 3 → k = 30) → f_Pa_leafKind st = k → a < tkn tk → Sim (f_Pa_leaf st) (bndM (f_Mo_literal mo k) (fun r mo1 => some (.inr (r, mo1)))) (PX 1 (lbn lb) (XL (tk, co) a) tk gt co lb ge gp gq a g m L) := by
    intro k hk h30 hk2 hl
    obtain ⟨st1, e1, c1⟩ := cs_lit hc (by omega) hT hk2 hk
    obtain ⟨mo1, g1, e2, q1, o1, f1, d1⟩ := rs_literal hq hd (show m < 2600 by omega) k
    rw [e1, e2]
    exact Sim_ret ⟨lb, ge, gp, a + 1, li + 1, g1, m + 1, [(k, li, nI a, 1)], m, rfl, ⟨Wf_up hw (by omega) (by omega), c1, q1, d1⟩, Fr_refl _ _ _ _, f1 m (Nat.le_refl _), Opn_one (o1 m (m + 1)) (Nat.le_refl _) (Nat.le_refl _) (Nat.le_refl _) (by omega), by omega, by simp, by omega, ⟨fun h3 k' v w z t h => by rw [← (hd_k h).1]; exact ⟨fun _ => rfl, fun _ => h30 h3⟩, fun v w z t h => by rcases hk with rfl | rfl | rfl <;> exact absurd (hd_k h).1 (by decide), fun v w z t h => by rcases hk with rfl | rfl | rfl <;> exact absurd (hd_k h).1 (by decide)⟩⟩
  have pln : ∀ k : Int32, (k = 27 ∨ k = 32 ∨ k = 33 ∨ k = 34) → f_Pa_leafKind st = k → f_Tk_kind tk (nI a) = 1 → Sim (f_Pa_leaf st) (bndM (f_Mo_plain mo k) (fun r mo1 => some (.inr (r, mo1)))) (PX 1 (lbn lb) (XL (tk, co) a) tk gt co lb ge gp gq a g m L) := by
    intro k hk hk2 hkd
    have hl := lt_of_kind hT (by omega) hkd (by decide)
    obtain ⟨st1, e1, c1⟩ := cs_plain hc (by omega) hT hk2 hk
    obtain ⟨mo1, g1, e2, q1, o1, f1, d1⟩ := rs_plain hq hd (show m < 2600 by omega) k
    rw [e1, e2]
    exact Sim_ret ⟨lb, ge, gp, a + 1, li, g1, m + 1, [(k, 0, nI a, 1)], m, rfl, ⟨Wf_up hw (by omega) (by omega), c1, q1, d1⟩, Fr_refl _ _ _ _, f1 m (Nat.le_refl _), Opn_one (o1 m (m + 1)) (Nat.le_refl _) (Nat.le_refl _) (Nat.le_refl _) (by omega), by omega, by simp, by omega, ⟨fun h => absurd h (by rw [hkd]; decide), fun v w z t h => by rcases hk with rfl | rfl | rfl | rfl <;> exact absurd (hd_k h).1 (by decide), fun v w z t h => by rcases hk with rfl | rfl | rfl | rfl <;> exact absurd (hd_k h).1 (by decide)⟩⟩
  unfold f_Mo_primary
  rw [rs_deep mo hee, bndM_some, k2, bndM_some]
  simp only [t01]
  by_cases c2 : f_Tk_kind tk (nI a) = 2
  · rw [if_neg (fun h => h c2)]
    refine lit 29 (Or.inl rfl) (fun h => absurd h (by rw [c2]; decide)) ?_ (lt_of_kind hT (by omega) c2 (by decide))
    unfold f_Pa_leafKind
    rw [etk, eat, c2]
    rfl
  · rw [if_pos c2, k3, bndM_some]
    simp only [t01]
    by_cases c3 : f_Tk_kind tk (nI a) = 3
    · rw [if_neg (fun h => h c3)]
      refine lit 30 (Or.inr (Or.inl rfl)) (fun _ => rfl) ?_ (lt_of_kind hT (by omega) c3 (by decide))
      unfold f_Pa_leafKind
      rw [etk, eat, c3]
      rfl
    · rw [if_pos c3, k5, bndM_some]
      simp only [t01]
      by_cases c5 : f_Tk_kind tk (nI a) = 5
      · rw [if_neg (fun h => h c5)]
        refine lit 31 (Or.inr (Or.inr rfl)) (fun h => absurd h (by rw [c5]; decide)) ?_ (lt_of_kind hT (by omega) c5 (by decide))
        unfold f_Pa_leafKind
        rw [etk, eat, c5]
        rfl
      · rw [if_pos c5, w18, bndM_some]
        simp only [t01]
        have lk1 : f_Tk_kind tk (nI a) = 1 → f_Tk_identifier tk (nI a) co.2.2.1 = 0 → f_Pa_leafKind st = f_Pa_wordKind st := by
          intro h1 h2
          unfold f_Pa_leafKind
          rw [etk, eat, if_pos h1, eid, if_pos h2]
        have resv : ∀ w : Int32, f_Tk_keyword tk (nI a) = w → ¬ w = -1 → f_Tk_identifier tk (nI a) co.2.2.1 = 0 := by
          intro w hww hw1
          have hkd := word_kind hT (by omega) hww hw1
          have hl := lt_of_kind hT (by omega) hkd (by decide)
          have hkk : tkK tk a = 1 := by rw [← (tk_in hT hl).1]; exact hkd
          rw [(tk_in hT hl).2.2.2.2, if_pos hkk] at hww
          rw [tk_id hT hl hkk]
          by_cases c35 : 35 < tkW tk a
          · rw [if_pos c35] at hww; exact absurd hww.symm hw1
          · rw [if_neg c35] at hww
            have h100 : tkW tk a < 100 := Int32.lt_of_le_of_lt (Int32.not_lt.mp c35) (by decide)
            unfold idW
            rw [if_pos h100, if_neg (by rw [hww]; exact hw1)]
            split
            · rw [if_pos (Int32.not_lt.mp c35)]
            · rfl
        have wk : ∀ w k : Int32, f_Tk_keyword tk (nI a) = w → ¬ w = -1 → (k = 27 ∨ k = 32 ∨ k = 33 ∨ k = 34) → (f_Pa_wordKind st = k) → Sim (f_Pa_leaf st) (bndM (f_Mo_plain mo k) (fun r mo1 => some (.inr (r, mo1)))) (PX 1 (lbn lb) (XL (tk, co) a) tk gt co lb ge gp gq a g m L) := by
          intro w k h1 h2 h3 h4
          have hkd := word_kind hT (by omega) h1 h2
          exact pln k h3 (by rw [lk1 hkd (resv w h1 h2)]; exact h4) hkd
        by_cases d18 : f_Tk_keyword tk (nI a) = 18
        · rw [if_neg (fun h => h d18)]
          refine wk 18 27 d18 (by decide) (Or.inl rfl) ?_
          unfold f_Pa_wordKind; rw [etk, eat, d18]; rfl
        · rw [if_pos d18, w27, bndM_some]
          simp only [t01]
          by_cases d27 : f_Tk_keyword tk (nI a) = 27
          · rw [if_neg (fun h => h d27)]
            refine wk 27 32 d27 (by decide) (Or.inr (Or.inl rfl)) ?_
            unfold f_Pa_wordKind; rw [etk, eat, d27]; rfl
          · rw [if_pos d27, w28, bndM_some]
            simp only [t01]
            by_cases d28 : f_Tk_keyword tk (nI a) = 28
            · rw [if_neg (fun h => h d28)]
              refine wk 28 33 d28 (by decide) (Or.inr (Or.inr (Or.inl rfl))) ?_
              unfold f_Pa_wordKind; rw [etk, eat, d28]; rfl
            · rw [if_pos d28, w26, bndM_some]
              simp only [t01]
              by_cases d26 : f_Tk_keyword tk (nI a) = 26
              · rw [if_neg (fun h => h d26)]
                refine wk 26 34 d26 (by decide) (Or.inr (Or.inr (Or.inr rfl))) ?_
                unfold f_Pa_wordKind; rw [etk, eat, d26]; rfl
              · rw [if_pos d26, w11, bndM_some]
                simp only [t01]
                rw [if_pos h11, s62, bndM_some]
                simp only [t01]
                rw [if_pos h62, s64, bndM_some]
                simp only [t01]
                rw [if_pos h64, s60, bndM_some]
                simp only [t01]
                rw [if_pos h60]
                by_cases hi : f_Tk_identifier tk (nI a) co.2.2.1 = 0
                · refine Sim_rr (p := nI a) ?_ (RefM_bnd (RefM_ident hw.1 ha hq hs3 (by rw [hgs]; exact hi))) (at_ne hw.1 ha)
                  have lk59 : f_Pa_leafKind st = 59 := by
                    by_cases hk1 : f_Tk_kind tk (nI a) = 1
                    · rw [lk1 hk1 hi]
                      unfold f_Pa_wordKind
                      rw [etk, eat, if_neg d18, if_neg d26, if_neg d27, if_neg d28]
                    · unfold f_Pa_leafKind
                      rw [etk, eat, if_neg hk1, if_neg c2, if_neg c3, if_neg c5]
                  unfold f_Pa_leaf
                  rw [lk59, eat, if_neg (by decide), if_neg (by decide), if_neg (by decide), if_neg (by decide), if_pos rfl]
                  exact Ref_bnd (Ref_refuse hc _)
                · obtain ⟨hl, hkd⟩ := id_kind hw.1 ha hi
                  have lk28 : f_Pa_leafKind st = 28 := by
                    unfold f_Pa_leafKind
                    rw [etk, eat, if_pos hkd, eid, if_neg hi]
                  obtain ⟨st1, e1, c1⟩ := cs_name hc (by omega) hT lk28
                  rw [e1, rs_ident hw.1 ha hq hs3 (by rw [hgs]; exact hi), bndM_some]
                  obtain ⟨mo1, g1, e2, q1, o1, f1, d1⟩ := rs_make' (gM_inc hq) hd (show m < 2600 by omega) 28 (f_Tk_name tk (nI a)) (q_at mo)
                  rw [e2, bndM_some]
                  rw [gM_at hq] at o1
                  exact Sim_ret ⟨lb, ge, gp, a + 1, li, g1, m + 1, [(28, f_Tk_name tk (nI a), nI a, 1)], m, rfl, ⟨Wf_up hw (by omega) (by omega), c1, q1, d1⟩, Fr_refl _ _ _ _, f1 m (Nat.le_refl _), Opn_one (o1 m (m + 1)) (Nat.le_refl _) (Nat.le_refl _) (Nat.le_refl _) (by omega), by omega, by simp, by omega, ⟨fun h => absurd h (by rw [hkd]; decide), fun v w z t h => by rw [← (hd_k h).2]; exact ⟨nm_pos hw.1 hl hkd, fun _ => hi⟩, fun v w z t h => absurd (hd_k h).1 (by decide)⟩⟩
end PUL
