/-! a statement, by its first token -/
section PVG
variable {E : Int32 → Int32 → Int32 → ST → Rz} {S : Int32 → Int32 → ST → Rz} {F : Int32 → Int32 → ST → Rz} {K : Nat → List Int32 → MO → Rm} {e : Nat}
set_option maxHeartbeats 1000000 in
theorem sm_statement (hE : HE E K (e + 1)) (hs : HSt (fun o st => S (nI (e + 1)) o st) (fun o mo => K 5 [nI (e + 1), o] mo) (e + 1)) (hb : HBl (fun st => f_Pa_block E S F st (nI (e + 1))) (K 7 [nI (e + 1)]) (e + 1)) (hal : HAl K (e + 1)) (hee : e ≤ 100) : HSt (fun o st => f_Pa_statement E S F st (nI e) o) (fun o mo => f_Mo_statement K mo (nI e) o) e := by
  intro tk gt co lb ge gp gq a li g m L st mo o hR hlab ho hlb hL hm
  have hR' := hR
  obtain ⟨hw, hc, hq, hd⟩ := hR
  have hT := hw.1.1
  have ha := hw.2.1
  have he1 := hE.1 1 (Or.inr rfl)
  show Sim (f_Pa_statement E S F st (nI e) (nI o)) (f_Mo_statement K mo (nI e) (nI o)) _
  have th : ∀ (x : Rz) (y : Rm), Sim x y (PX 0 o (XS tk a) tk gt co lb ge gp gq a g m L) → Sim (bnd x (fun _ s => some (.inr (0, s)))) (bndM y (fun r q => some (.inr (r, q)))) (PX 0 o (XS tk a) tk gt co lb ge gp gq a g m L) := fun x y h => Sim_bind h (fun _ _ _ _ h1 => Sim_ret h1)
  have thm : ∀ (x : Rz) (y : Rm), Sim x y (PX 0 o (XS tk a) tk gt co lb ge gp gq a g m L) → Sim x (bndM y (fun r q => some (.inr (r, q)))) (PX 0 o (XS tk a) tk gt co lb ge gp gq a g m L) := fun x y h => Sim_bindM h (fun _ _ _ _ h1 => Sim_ret h1)
  have le : ∀ (x : Rz) (y : Rm), Sim x y (PX 0 (lbn lb) (XS tk a) tk gt co lb ge gp gq a g m L) → Sim x y (PX 0 o (XS tk a) tk gt co lb ge gp gq a g m L) := fun x y h => Sim_mono h (fun _ _ _ _ h1 => PX_less h1 ho)
  unfold f_Pa_statement f_Mo_statement
  rw [cs_guard st hee, rs_deep mo hee, bnd_some, bndM_some, rs_sign hw.1 hq ha (s := 64) (by decide), bndM_some, rs_sign hw.1 hq ha (s := 67) (by decide), bndM_some, rs_kind hw.1 hq ha (k := 1) (by decide), bndM_some]
  rw [gC_tk hc, gC_at hc, cu_word hc, cu_sign hc, cu_sign hc, cu_id hc, nI_1 a]
  -- what is no keyword of a statement
  have plain : ¬ f_Tk_keyword tk (nI a) = 11 → Sim (if f_Tk_identifier tk (nI a) co.2.2.1 = 0 then (bnd (f_Pa_expressionStatement E S F st (nI e)) (fun _ st_41 => (some (.inr (0, st_41))))) else (if (f_Tk_sign tk (nI (a + 1))) = 70 then (bnd (f_Pa_labelled E S F st (nI e) (nI o)) (fun _ st_44 => (some (.inr (0, st_44))))) else (bnd (f_Pa_expressionStatement E S F st (nI e)) (fun _ st_43 => (some (.inr (0, st_43)))))))
      (bndM (f_Mo_plainStatement K mo (nI e) (nI o)) (fun r_38 mo_38 => (some (.inr (r_38, mo_38))))) (PX 0 o (XS tk a) tk gt co lb ge gp gq a g m L) := by
    intro h11
    by_cases hi : f_Tk_identifier tk (nI a) co.2.2.1 = 0
    · rw [if_pos hi]
      exact th _ _ (le _ _ (sm_exprS he1 hal hR' hlb hee hL hm h11 (Or.inl hi)))
    · rw [if_neg hi]
      by_cases c70 : f_Tk_sign tk (nI (a + 1)) = 70
      · rw [if_pos c70]
        exact th _ _ (sm_label hs hal hR' hlab ho hlb hee hL hm hi c70)
      · rw [if_neg c70]
        exact th _ _ (le _ _ (sm_exprS he1 hal hR' hlb hee hL hm h11 (Or.inr c70)))
  by_cases k1 : f_Tk_kind tk (nI a) = 1
  · have hl := lt_of_kind hT (by omega) k1 (by decide)
    have sg : f_Tk_sign tk (nI a) = -1 := tk_nosign hT (by omega) (by rw [k1]; decide)
    have ew : q_words mo (q_at mo).toNatClampNeg = tkW tk a := (gM_word hw.1 hq hl).1
    have ekw : f_Tk_keyword tk (nI a) = if 35 < tkW tk a then -1 else tkW tk a := by
      rw [(tk_in hT hl).2.2.2.2, if_pos (by rw [← (tk_in hT hl).1]; exact k1)]
    rw [sg, if_neg (show ¬ (-1 : Int32) = 64 by decide), if_neg (show ¬ (-1 : Int32) = 67 by decide), if_pos k1]
    simp only [i10, if_false, if_true]
    rw [if_pos (gM_inb hq (by omega)), ew]
    by_cases h35 : 35 < tkW tk a
    · rw [if_pos h35] at ekw
      have ne : ∀ j : Int32, j ≤ 35 → ¬ tkW tk a = j := fun j h h2 => by rw [h2] at h35; exact absurd h35 (Int32.not_lt.mpr h)
      rw [if_neg (ne 0 (by decide)), if_neg (ne 3 (by decide)), if_neg (ne 4 (by decide)), if_neg (ne 7 (by decide)), if_neg (ne 10 (by decide)), if_neg (ne 11 (by decide)), if_neg (ne 12 (by decide)), if_neg (ne 16 (by decide)), if_neg (ne 17 (by decide)), if_neg (ne 19 (by decide)), if_neg (ne 20 (by decide)), if_neg (ne 22 (by decide)), if_neg (ne 24 (by decide)), if_neg (ne 25 (by decide))]
      rw [ekw, if_neg (by decide), if_neg (by decide), if_neg (by decide), if_neg (by decide), if_neg (by decide), if_neg (by decide), if_neg (by decide), if_neg (by decide), if_neg (by decide), if_neg (by decide), if_neg (by decide), if_neg (by decide), if_neg (by decide)]
      exact plain (by rw [ekw]; decide)
    · rw [if_neg h35] at ekw
      rw [ekw]
      by_cases w0 : tkW tk a = 0
      · have hk : f_Tk_keyword tk (nI a) = 0 := ekw.trans w0
        rw [w0, if_pos rfl]
        rw [if_neg (by decide)]
        rw [if_pos rfl]
        exact th _ _ (le _ _ (sm_jump hR' hlab hL hm hl k1 (Or.inr rfl)))
      by_cases w3 : tkW tk a = 3
      · have hk : f_Tk_keyword tk (nI a) = 3 := ekw.trans w3
        rw [w3, if_neg (by decide), if_pos rfl]
        rw [if_pos (by decide)]
        rw [if_neg (by decide), if_pos rfl]
        exact th _ _ (le _ _ (sm_jump hR' hlab hL hm hl k1 (Or.inl rfl)))
      by_cases w4 : tkW tk a = 4
      · have hk : f_Tk_keyword tk (nI a) = 4 := ekw.trans w4
        rw [w4, if_neg (by decide), if_neg (by decide), if_pos rfl]
        rw [if_neg (by decide), if_neg (by decide), if_pos rfl]
        exact th _ _ (le _ _ (sm_debug hR' hL hm hk))
      by_cases w7 : tkW tk a = 7
      · have hk : f_Tk_keyword tk (nI a) = 7 := ekw.trans w7
        rw [w7, if_neg (by decide), if_neg (by decide), if_neg (by decide), if_pos rfl]
        rw [if_neg (by decide), if_neg (by decide), if_neg (by decide), if_pos rfl]
        exact th _ _ (sm_do he1 hs hR' hlab ho hlb hL hm hk)
      by_cases w10 : tkW tk a = 10
      · have hk : f_Tk_keyword tk (nI a) = 10 := ekw.trans w10
        rw [w10, if_neg (by decide), if_neg (by decide), if_neg (by decide), if_neg (by decide), if_pos rfl]
        rw [if_neg (by decide), if_neg (by decide), if_neg (by decide), if_neg (by decide), if_pos rfl]
        exact thm _ _ (sm_for he1 (hE.1 0 (Or.inl rfl)) (hE.2.1 0 (Or.inl rfl)) hs hR' hlab ho hlb hL hm hk)
      by_cases w12 : tkW tk a = 12
      · have hk : f_Tk_keyword tk (nI a) = 12 := ekw.trans w12
        rw [w12, if_neg (by decide), if_neg (by decide), if_neg (by decide), if_neg (by decide), if_neg (by decide), if_pos rfl]
        rw [if_neg (by decide), if_neg (by decide), if_neg (by decide), if_neg (by decide), if_neg (by decide), if_neg (by decide), if_pos rfl]
        exact th _ _ (le _ _ (sm_if he1 hs hR' hlab hlb hL hm hk))
      by_cases w16 : tkW tk a = 16
      · have hk : f_Tk_keyword tk (nI a) = 16 := ekw.trans w16
        rw [w16, if_neg (by decide), if_neg (by decide), if_neg (by decide), if_neg (by decide), if_neg (by decide), if_neg (by decide), if_pos rfl]
        rw [if_neg (by decide), if_neg (by decide), if_neg (by decide), if_neg (by decide), if_neg (by decide), if_neg (by decide), if_neg (by decide), if_pos rfl]
        exact th _ _ (le _ _ (sm_return he1 hR' hlb hL hm hk))
      by_cases w17 : tkW tk a = 17
      · have hk : f_Tk_keyword tk (nI a) = 17 := ekw.trans w17
        rw [w17, if_neg (by decide), if_neg (by decide), if_neg (by decide), if_neg (by decide), if_neg (by decide), if_neg (by decide), if_neg (by decide), if_pos rfl]
        rw [if_neg (by decide), if_neg (by decide), if_neg (by decide), if_neg (by decide), if_neg (by decide), if_neg (by decide), if_neg (by decide), if_neg (by decide), if_pos rfl]
        exact th _ _ (le _ _ (sm_switch he1 hs hR' hlab hlb hL hm hk))
      by_cases w19 : tkW tk a = 19
      · have hk : f_Tk_keyword tk (nI a) = 19 := ekw.trans w19
        rw [w19, if_neg (by decide), if_neg (by decide), if_neg (by decide), if_neg (by decide), if_neg (by decide), if_neg (by decide), if_neg (by decide), if_neg (by decide), if_pos rfl]
        rw [if_neg (by decide), if_neg (by decide), if_neg (by decide), if_neg (by decide), if_neg (by decide), if_neg (by decide), if_neg (by decide), if_neg (by decide), if_neg (by decide), if_pos rfl]
        exact th _ _ (le _ _ (sm_throw he1 hR' hlb hL hm hk))
      by_cases w20 : tkW tk a = 20
      · have hk : f_Tk_keyword tk (nI a) = 20 := ekw.trans w20
        rw [w20, if_neg (by decide), if_neg (by decide), if_neg (by decide), if_neg (by decide), if_neg (by decide), if_neg (by decide), if_neg (by decide), if_neg (by decide), if_neg (by decide), if_pos rfl]
        rw [if_neg (by decide), if_neg (by decide), if_neg (by decide), if_neg (by decide), if_neg (by decide), if_neg (by decide), if_neg (by decide), if_neg (by decide), if_neg (by decide), if_neg (by decide), if_pos rfl]
        exact th _ _ (le _ _ (sm_try hb hR' hlab hlb hL hm hk))
      by_cases w22 : tkW tk a = 22
      · have hk : f_Tk_keyword tk (nI a) = 22 := ekw.trans w22
        rw [w22, if_neg (by decide), if_neg (by decide), if_neg (by decide), if_neg (by decide), if_neg (by decide), if_neg (by decide), if_neg (by decide), if_neg (by decide), if_neg (by decide), if_neg (by decide), if_pos rfl]
        rw [if_neg (by decide), if_neg (by decide), if_neg (by decide), if_neg (by decide), if_neg (by decide), if_neg (by decide), if_neg (by decide), if_neg (by decide), if_neg (by decide), if_neg (by decide), if_neg (by decide), if_pos rfl]
        exact thm _ _ (le _ _ (sm_varS (hE.2.1 1 (Or.inr rfl)) hR' hlb hL hm hk))
      by_cases w24 : tkW tk a = 24
      · have hk : f_Tk_keyword tk (nI a) = 24 := ekw.trans w24
        rw [w24, if_neg (by decide), if_neg (by decide), if_neg (by decide), if_neg (by decide), if_neg (by decide), if_neg (by decide), if_neg (by decide), if_neg (by decide), if_neg (by decide), if_neg (by decide), if_neg (by decide), if_pos rfl]
        rw [if_neg (by decide), if_neg (by decide), if_neg (by decide), if_neg (by decide), if_neg (by decide), if_neg (by decide), if_neg (by decide), if_neg (by decide), if_neg (by decide), if_neg (by decide), if_neg (by decide), if_neg (by decide), if_pos rfl]
        exact th _ _ (sm_while he1 hs hR' hlab ho hlb hL hm hk)
      by_cases w25 : tkW tk a = 25
      · have hk : f_Tk_keyword tk (nI a) = 25 := ekw.trans w25
        rw [w25, if_neg (by decide), if_neg (by decide), if_neg (by decide), if_neg (by decide), if_neg (by decide), if_neg (by decide), if_neg (by decide), if_neg (by decide), if_neg (by decide), if_neg (by decide), if_neg (by decide), if_neg (by decide), if_pos rfl]
        rw [if_neg (by decide), if_neg (by decide), if_neg (by decide), if_neg (by decide), if_neg (by decide), if_neg (by decide), if_neg (by decide), if_neg (by decide), if_neg (by decide), if_neg (by decide), if_neg (by decide), if_neg (by decide), if_neg (by decide), if_pos rfl]
        exact th _ _ (le _ _ (sm_with he1 hs hR' hlab hlb hL hm hk))
      by_cases w11 : tkW tk a = 11
      · have hk : f_Tk_keyword tk (nI a) = 11 := ekw.trans w11
        have hi : f_Tk_identifier tk (nI a) co.2.2.1 = 0 := by
          rw [tk_id hT hl (by rw [← (tk_in hT hl).1]; exact k1), w11]
          rcases hw.2.2.1.2 with h | h <;> rw [h] <;> decide
        rw [w11, if_neg (by decide), if_neg (by decide), if_neg (by decide), if_neg (by decide), if_neg (by decide), if_neg (by decide), if_neg (by decide), if_neg (by decide), if_neg (by decide), if_neg (by decide), if_neg (by decide), if_neg (by decide), if_neg (by decide), if_pos hi, if_neg (by decide), if_neg (by decide), if_neg (by decide), if_neg (by decide), if_neg (by decide), if_pos rfl, gM_at hq]
        refine Sim_rr (p := nI a) (Ref_bnd ?_) (RefM_bnd (RefM_refuse _ _)) (at_ne hw.1 ha)
        unfold f_Pa_expressionStatement
        rw [cu_word hc, if_pos hk, if_neg n10, gC_at hc]
        exact Ref_bnd (Ref_refuse hc _)
      · rw [if_neg w0, if_neg w3, if_neg w4, if_neg w7, if_neg w10, if_neg w12, if_neg w16, if_neg w17, if_neg w19, if_neg w20, if_neg w22, if_neg w24, if_neg w25]
        rw [if_neg w0, if_neg w3, if_neg w4, if_neg w7, if_neg w10, if_neg w11, if_neg w12, if_neg w16, if_neg w17, if_neg w19, if_neg w20, if_neg w22, if_neg w24, if_neg w25]
        exact plain (by rw [ekw]; exact w11)
  · obtain ⟨nw, nid⟩ := tk_noword hT (by omega) k1
    rw [nw, if_neg (by decide), if_neg (by decide), if_neg (by decide), if_neg (by decide), if_neg (by decide), if_neg (by decide), if_neg (by decide), if_neg (by decide), if_neg (by decide), if_neg (by decide), if_neg (by decide), if_neg (by decide), if_neg (by decide)]
    by_cases c64 : f_Tk_sign tk (nI a) = 64
    · rw [if_pos c64, if_neg n10, if_neg n10]
      exact th _ _ (le _ _ (sm_block (fun _ => hs) (by omega) hR' hlab hlb (by omega) (by omega)))
    · rw [if_neg c64, if_pos rfl, if_pos rfl]
      by_cases c67 : f_Tk_sign tk (nI a) = 67
      · rw [if_pos c67, if_neg n10, if_neg n10]
        exact th _ _ (le _ _ (sm_empty hR' hL hm c67))
      · rw [if_neg c67, if_pos rfl, if_pos rfl, if_neg k1, if_pos rfl]
        exact plain (by rw [nw]; decide)
end PVG
