/-! the program -/
section PVI
variable {E : Int32 → Int32 → Int32 → ST → Rz} {S : Int32 → Int32 → ST → Rz} {F : Int32 → Int32 → ST → Rz} {e : Nat}
/-- a token that begins no expression -/
def Dd (tk : TK) (a : Nat) : Prop := (f_Tk_sign tk (nI a) = -1 ∨ f_Tk_sign tk (nI a) = 65) ∧ f_Tk_keyword tk (nI a) = -1 ∧ (∀ s, f_Tk_identifier tk (nI a) s = 0) ∧ (f_Tk_kind tk (nI a) = 0 ∨ f_Tk_kind tk (nI a) = 4)
theorem dd_expr {inn : Int32} (he : e < 1000) {tk : TK} {lb : LB} {co : CO} {a : Nat} {li : Int32} {L : List Nd} {st : ST} (hc : gC tk lb co a li L st) (hd : Dd tk a) : Ref (f_Pa_expression E S F st (-1) (nI e) inn) (nI a) := by
  obtain ⟨t4, t5, t6, t1⟩ := hd
  rw [x_eq]
  by_cases hee : e ≤ 100
  · rw [cs_guard st hee, bnd_some, if_neg (by decide)]
    refine Ref_bnd ?_
    have ep : f_Pa_prefixOperator st = -1 := by
      unfold f_Pa_prefixOperator
      rw [gC_tk hc, gC_at hc, t5]
      rcases t4 with t4 | t4 <;> rw [t4] <;> decide
    have ek : f_Pa_leafKind st = 59 := by
      unfold f_Pa_leafKind
      rw [gC_tk hc, gC_at hc]
      rcases t1 with t1 | t1 <;> rw [t1] <;> rfl
    unfold xOpd
    rw [ep, if_pos rfl]
    refine Ref_bnd ?_
    unfold xPrim
    rw [cu_sign hc, cu_sign hc, cu_sign hc, cu_word hc, cu_word hc, t5]
    have n1 : ∀ s : Int32, (s = 60 ∨ s = 62 ∨ s = 64) → (if f_Tk_sign tk (nI a) = s then (1 : Int32) else 0) = 0 := by
      intro s hs
      rcases t4 with t4 | t4 <;> rw [t4] <;> rcases hs with rfl | rfl | rfl <;> decide
    rw [if_pos (n1 60 (Or.inl rfl)), if_pos (n1 62 (Or.inr (Or.inl rfl))), if_pos (n1 64 (Or.inr (Or.inr rfl))), if_pos (by decide), if_pos (by decide)]
    unfold f_Pa_leaf
    rw [ek, if_neg (by decide), if_neg (by decide), if_neg (by decide), if_neg (by decide), if_pos rfl, gC_at hc]
    exact Ref_bnd (Ref_refuse hc _)
  · exact Ref_bnd (Ref_guard hc hee he)
theorem dd_stmt {tk : TK} {lb : LB} {co : CO} {a : Nat} {li : Int32} {L : List Nd} {st : ST} (hE : ∀ (L : List Nd) (st : ST), gC tk lb co a li L st → Ref (E (-1) (nI (e + 1)) 1 st) (nI a)) (he : e < 1000) (o : Int32) (hc : gC tk lb co a li L st) (hd : Dd tk a) (hT : tkn tk ≤ 1000) (hL : L.length ≤ 2 * tkn tk + 2) : Ref (f_Pa_statement E S F st (nI e) o) (nI a) := by
  obtain ⟨t4, t5, t6, t1⟩ := hd
  unfold f_Pa_statement
  by_cases hee : e ≤ 100
  · rw [cs_guard st hee, bnd_some, gC_tk hc, gC_at hc, cu_sign hc, cu_sign hc, cu_id hc, t5, t6]
    rw [if_neg (by decide), if_neg (by decide), if_neg (by decide), if_neg (by decide), if_neg (by decide), if_neg (by decide), if_neg (by decide), if_neg (by decide), if_neg (by decide), if_neg (by decide), if_neg (by decide), if_neg (by decide), if_neg (by decide)]
    have n1 : ∀ s : Int32, (s = 64 ∨ s = 67) → (if f_Tk_sign tk (nI a) = s then (1 : Int32) else 0) = 0 := by
      intro s hs
      rcases t4 with t4 | t4 <;> rw [t4] <;> rcases hs with rfl | rfl <;> decide
    rw [if_pos (n1 64 (Or.inl rfl)), if_pos (n1 67 (Or.inr rfl)), if_pos rfl]
    refine Ref_bnd ?_
    unfold f_Pa_expressionStatement
    rw [cu_word hc, t5, if_pos (by decide), nI_1 e]
    obtain ⟨st1, e1, c1⟩ := cs_open hc (by omega) hT 5 0 (sAt st)
    rw [e1, bnd_some]
    exact Ref_bnd (hE _ st1 c1)
  · exact Ref_bnd (Ref_guard hc hee he)
/-- what the program's statements leave -/
def PQ (tk : TK) (gt : gT) (gq : gQ) : Int32 → ST → Int32 → MO → Prop := fun _ st _ mo =>
  ∃ co lb ge gp li g m sg, RR tk gt co lb ge gp gq (tkn tk) li g m ((0, 0, 0, 1) :: sg) st mo ∧ Opn g 0 0 0 0 sg 1 m ∧ 0 < m ∧ sg.length ≤ 2 * tkn tk ∧ m ≤ 2 * tkn tk + 1
abbrev finM (se : MO) : Rm := if q_count se ≤ q_at se then some (.inr (0, se)) else f_Mo_refuse se (q_at se)
theorem sm_progL (tk : TK) (gt : gT) (gq : gQ) :
    ∀ (fu fm x : Nat) (t : Int32) (co : CO) (lb : LB) (ge : gE) (gp : gP) (a : Nat) (li : Int32) (g : gN) (m : Nat) (sg : List Nd) (st : ST) (mo : MO),
      (t = 0 ∨ t = 1) → RR tk gt co lb ge gp gq a li g m ((0, 0, 0, 1) :: sg) st mo → lbn lb = 0 → ge.2.2.1 = 0 → Opn g 0 0 0 0 sg 1 m → 0 < m →
      sg.length ≤ 2 * a → m ≤ 2 * a + 1 → tkn tk - a < fu → tkn tk - a < fm → x ≤ a →
      Sim (f_Pa_program_L15 (lv3 101).1 (lv3 101).2.1 (lv3 101).2.2 fu t (nI x) st) (bndM (f_Mo_statements_L3 (Kn 100) (nI 0) (nI 1) 0 fm t mo) (fun _ se => finM se)) (PQ tk gt gq) := by
  obtain ⟨hE, hS, hD, hEn⟩ := all_1
  have hS := hS 101 100 (by omega) (by omega)
  have hD := hD 101 100 (by omega) (by omega)
  intro fu
  induction fu with
  | zero => intro fm x t co lb ge gp a li g m sg st mo _ _ _ _ _ _ _ _ h; omega
  | succ fu ih =>
    intro fm x t co lb ge gp a li g m sg st mo ht hR hlb0 hlz hO hpm hL hm hfu hfm hx
    have hR' := hR
    obtain ⟨hw, hc, hq, hd⟩ := hR
    have hT := hw.1.1
    have ha := hw.2.1
    obtain ⟨fm', rfl⟩ : ∃ q, fm = q + 1 := ⟨fm - 1, by omega⟩
    have hcnt : q_count mo = nI (tkn tk) := by have := gM_gt hq; show mo.1.2.2.2.2 = _; rw [this]; exact hw.1.2.1
    have hlab : LabR co lb ge := by
      intro i h1 h2
      rw [hlb0] at h2
      omega
    have hqlab : q_labels mo = nI (lbn lb) := by show mo.2.2.2.1.2.2.2.1 = _; rw [gM_ge hq]; exact hw.2.2.2.2.2.1.1
    unfold f_Pa_program_L15 f_Mo_statements_L3 f_Cu_atEnd
    rw [if_neg (x_le hx ha hT), hcnt, gM_at hq, gC_tk hc, gC_at hc]
    by_cases hend : a = tkn tk
    · -- behind the last token
      rw [(tk_out hT (show tkn tk ≤ a by omega) (by omega)).1, if_pos (show (0 : Int32) = 0 from rfl), if_neg n10, if_pos (nI_le (by omega) (by omega)), bndM_some]
      have ef : finM mo = some (.inr (0, mo)) := by
        show (if q_count mo ≤ q_at mo then _ else _) = _
        rw [hcnt, gM_at hq, if_pos (nI_le (by omega) (by omega))]
      rw [ef]
      subst hend
      exact Sim_ret ⟨co, lb, ge, gp, li, g, m, sg, hR', hO, hpm, hL, hm⟩
    · have hl : a < tkn tk := by omega
      have hk0 : ¬ f_Tk_kind tk (nI a) = 0 := by rw [(tk_in hT hl).1]; exact kind_pos (hw.1.2.2 a hl).2.2.2.2.2
      rw [if_neg hk0, if_pos rfl, if_neg (nI_ge hl (by omega)), rs_sign hw.1 hq ha (s := 65) (by decide), bndM_some]
      by_cases s65 : f_Tk_sign tk (nI a) = 65
      · have k4 := sign_kind hT (by omega) s65 (by decide)
        obtain ⟨nw, nid⟩ := tk_noword hT (show a ≤ 1000 by omega) (show ¬ f_Tk_kind tk (nI a) = 1 by rw [k4]; decide)
        have hdd : Dd tk a := ⟨Or.inr s65, nw, nid, Or.inr k4⟩
        rw [if_pos s65, if_neg n10, bndM_some, cu_word hc, nw, if_pos (by decide)]
        have ef : finM mo = f_Mo_refuse mo (nI a) := by
          show (if q_count mo ≤ q_at mo then _ else _) = _
          rw [hcnt, gM_at hq, if_neg (nI_ge hl (by omega))]
        rw [ef]
        refine Sim_rr (p := nI a) (Ref_bnd ?_) (RefM_refuse _ _) (at_ne hw.1 ha)
        exact dd_stmt (E := (lv3 100).1) (S := (lv3 100).2.1) (F := (lv3 100).2.2) (e := 1) (fun L1 st1 c1 => dd_expr (E := (lv3 99).1) (S := (lv3 99).2.1) (F := fun form depth st => f_Pa_function (lv3 99).1 (lv3 99).2.1 (lv3 99).2.2 st form depth) (e := 2) (by omega) c1 hdd) (by omega) _ hc hdd hT (by simp; omega)
      · rw [if_neg s65, if_pos rfl, rs_kind hw.1 hq ha (k := 3) (by decide), bndM_some, rs_word hw.1 hq ha (s := 11) (by decide) (by decide), bndM_some, cu_word hc, nI_1 x]
        simp only [t01, gM_at hq]
        -- what follows a statement that was read
        have nxt : ∀ (st1 : ST) (n1 : Int32) (mo1 : MO) (X1 : Prop), (f_Tk_kind tk (nI a) = 3 → X1) → (∃ lb1 ge1 gp1 a1 li1 g1 m1 sg1 n', n1 = nI n' ∧ RR tk gt co lb1 ge1 gp1 gq a1 li1 g1 m1 ((0, 0, 0, 1) :: sg ++ sg1) st1 mo1 ∧ Fr (lbn lb) lb lb1 ge ge1 gp gp1 ∧ FrN g g1 m ∧ One g1 n' sg1 m m1 ∧ a < a1 ∧ sg1.length ≤ 2 * (a1 - a) ∧ m1 ≤ m + 2 * (a1 - a) ∧ (X1 → XS tk a a1 sg1)) →
            Sim (if t = 0 then (f_Pa_program_L15 (lv3 101).1 (lv3 101).2.1 (lv3 101).2.2 fu 0 (nI (x + 1)) st1) else (if (f_Cu_wasTextAlone st1 (nI a)) = 0 then (f_Pa_program_L15 (lv3 101).1 (lv3 101).2.1 (lv3 101).2.2 fu 0 (nI (x + 1)) st1) else (if (f_Tk_asksForStrict (sTk st1) (nI a)) = 0 then (f_Pa_program_L15 (lv3 101).1 (lv3 101).2.1 (lv3 101).2.2 fu 1 (nI (x + 1)) st1) else (f_Pa_program_L15 (lv3 101).1 (lv3 101).2.1 (lv3 101).2.2 fu 1 (nI (x + 1)) (setCo st1 ((coF st1), (coL st1), 1, (coP st1), (coW st1)))))))
              (bndM (f_Mo_hang mo1 (nI 0) n1) (fun _ mo_9 => bndM (if t = 0 then (f_Mo_statements_L3 (Kn 100) (nI 0) (nI 1) 0 fm' 0 mo_9) else (if ¬ f_Tk_kind tk (nI a) = 3 then (f_Mo_statements_L3 (Kn 100) (nI 0) (nI 1) 0 fm' 0 mo_9) else (if inb n1 2600 then (if ((q_kind mo_9) (n1 : Int32).toNatClampNeg) = 5 then (if inb ((q_first mo_9) (n1 : Int32).toNatClampNeg) 2600 then (if ((q_kind mo_9) (((q_first mo_9) (n1 : Int32).toNatClampNeg) : Int32).toNatClampNeg) = 30 then (if inb (nI a) 1001 then (if ((q_words mo_9) ((nI a) : Int32).toNatClampNeg) = 1 then (if (q_strict mo_9) = 0 then (if (q_loose mo_9) = 0 then (f_Mo_statements_L3 (Kn 100) (nI 0) (nI 1) 0 fm' 1 (s_strict mo_9 1)) else (bndM (f_Mo_refuse (s_strict mo_9 1) 0) (fun _ mo_20 => (f_Mo_statements_L3 (Kn 100) (nI 0) (nI 1) 0 fm' 1 mo_20)))) else (f_Mo_statements_L3 (Kn 100) (nI 0) (nI 1) 0 fm' 1 mo_9)) else (f_Mo_statements_L3 (Kn 100) (nI 0) (nI 1) 0 fm' 1 mo_9)) else none) else (f_Mo_statements_L3 (Kn 100) (nI 0) (nI 1) 0 fm' 0 mo_9)) else none) else (f_Mo_statements_L3 (Kn 100) (nI 0) (nI 1) 0 fm' 0 mo_9)) else none))) (fun _ se => finM se)))
              (PQ tk gt gq) := by
          intro st1 n1 mo1 X1 hX1 h1
          obtain ⟨lb1, ge1, gp1, a1, li1, g1, m1, sg1, n', rfl, ⟨w1, c1, q1, d1⟩, f1, fn1, o1, l1, l2, l3, xs⟩ := h1
          have ha1 := w1.2.1
          have hon := One_in o1
          have hlb1 : lbn lb1 = lbn lb := f1.1
          have hO1 := Opn_fr hO fn1 (Nat.le_refl _) hpm
          have hn' : n' < 2600 := o1.1
          obtain ⟨mo2, e2, q2⟩ := rs_hang (n := n') q1 hO1.2.2.2.2.2 hO1.1 (nI n')
          obtain ⟨hO2, fn2, d2⟩ := Opn_hang hO1 o1 (Nat.le_refl _) (by omega) (Or.inl hpm)
          refine Sim_m e2 ?_
          rw [d1] at d2
          have ecat : (0, 0, 0, 1) :: sg ++ sg1 = ((0, 0, 0, 1) : Nd) :: (sg ++ sg1) := rfl
          -- going on
          have go : ∀ (t' s' : Int32) (st3 : ST) (mo3 : MO), (t' = 0 ∨ t' = 1) → (s' = 0 ∨ s' = 1) → gC tk lb1 (co.1, co.2.1, s', co.2.2.2) a1 li1 ((0, 0, 0, 1) :: (sg ++ sg1)) st3 → gM gt (s', ge1.2) gp1 gq a1 li1 (hgN g1 0 (nI n')) mo3 →
              Sim (f_Pa_program_L15 (lv3 101).1 (lv3 101).2.1 (lv3 101).2.2 fu t' (nI (x + 1)) st3) (bndM (f_Mo_statements_L3 (Kn 100) (nI 0) (nI 1) 0 fm' t' mo3) (fun _ se => finM se)) (PQ tk gt gq) := by
            intro t' s' st3 mo3 ht' hs' c3 q3
            have hl3 : (s', ge1.2).2.2.1 = ge.2.2.1 := f1.2.2.2.1.2.2.1
            exact ih fm' (x + 1) t' (co.1, co.2.1, s', co.2.2.2) lb1 (s', ge1.2) gp1 a1 li1 (hgN g1 0 (nI n')) m1 (sg ++ sg1) st3 mo3 ht' ⟨Wf_gs w1 hs', c3, q3, d2⟩ (by rw [hlb1]; exact hlb0) (by rw [hl3]; exact hlz) hO2 (by omega) (by rw [List.length_append]; omega) (by omega) (by omega) (by omega) (by omega)
          have ege1 : ge1 = (co.2.2.1, ge1.2) := by rw [← w1.2.2.1.1]
          have c1e : gC tk lb1 (co.1, co.2.1, co.2.2.1, co.2.2.2) a1 li1 ((0, 0, 0, 1) :: (sg ++ sg1)) st1 := c1
          have q2e : gM gt (co.2.2.1, ge1.2) gp1 gq a1 li1 (hgN g1 0 (nI n')) mo2 := by rw [← ege1]; exact q2
          have same : ∀ t' : Int32, (t' = 0 ∨ t' = 1) → Sim (f_Pa_program_L15 (lv3 101).1 (lv3 101).2.1 (lv3 101).2.2 fu t' (nI (x + 1)) st1) (bndM (f_Mo_statements_L3 (Kn 100) (nI 0) (nI 1) 0 fm' t' mo2) (fun _ se => finM se)) (PQ tk gt gq) := fun t' ht' => go t' co.2.2.1 st1 mo2 ht' hw.2.2.1.2 c1e q2e
          by_cases t0 : t = 0
          · rw [if_pos t0, if_pos t0]
            exact same 0 (Or.inl rfl)
          · have htx := cs_txt (a := a) c1 (by omega) (by omega)
            rw [if_neg t0, if_neg t0]
            by_cases k3 : f_Tk_kind tk (nI a) = 3
            · obtain ⟨v, w, zz, k2, r, hsg, hiff⟩ := xs (hX1 k3) k3
              obtain ⟨hk5, j, hj1, hj2, hj3⟩ := One_text o1 hsg
              have hnp : ¬ n' = 0 := by omega
              have ek : q_kind mo2 (nI n').toNatClampNeg = 5 := by rw [clN hn']; show mo2.2.1.1 n' = _; rw [gM_g q2]; show nK (hgN g1 0 (nI n')) n' = _; rw [hgN_K]; exact hk5
              have ef : q_first mo2 (nI n').toNatClampNeg = nI j := by rw [clN hn']; show mo2.2.1.2.2.2.1 n' = _; rw [gM_g q2]; show nF (hgN g1 0 (nI n')) n' = _; rw [hgN_F g1 _ hnp]; exact hj1
              have ek2 : q_kind mo2 (nI j).toNatClampNeg = k2.1 := by rw [clN hj2]; show mo2.2.1.1 j = _; rw [gM_g q2]; show nK (hgN g1 0 (nI n')) j = _; rw [hgN_K]; exact hj3
              have ew : q_words mo2 (nI a).toNatClampNeg = tkW tk a := by
                rw [nI_clamp (by omega)]
                show mo2.1.2.1 a = _
                rw [gM_gt q2]
                exact (hw.1.2.2 a (by omega)).2.1
              rw [if_neg (show ¬ ¬ f_Tk_kind tk (nI a) = 3 from fun h => h k3), if_pos (inbN hn'), ek, if_pos rfl, ef, if_pos (inbN hj2), ek2]
              by_cases c30 : k2.1 = 30
              · have htt : txt tk a a1 := ⟨k3, hiff.mp c30⟩
                rw [if_neg (fun h => (htx.mp h) htt), if_pos c30, if_pos (nI_in (c := a) (N := 1001) (by omega) (by decide)), ew]
                have eas : f_Tk_asksForStrict (sTk st1) (nI a) = if tkW tk a = 1 then 1 else 0 := by
                  rw [gC_tk c1]
                  unfold f_Tk_asksForStrict
                  rw [if_neg (nI_pos (by omega)), if_neg (nI_ge (show a < tkn tk by omega) (by omega)), nI_clamp (by omega)]
                  have : tkK tk a = 3 := by rw [← (tk_in hT (by omega)).1]; exact k3
                  rw [if_pos this]
                rw [eas]
                by_cases w1' : tkW tk a = 1
                · rw [if_pos w1', if_neg n10, if_pos w1']
                  have est : q_strict mo2 = co.2.2.1 := by show mo2.2.2.2.1.1 = _; rw [gM_ge q2, ege1]
                  have elo : q_loose mo2 = 0 := by show mo2.2.2.2.1.2.2.1 = _; rw [gM_ge q2]; exact f1.2.2.2.1.2.2.1.trans hlz
                  rw [est, elo]
                  have ecs : ((coF st1), (coL st1), (1 : Int32), (coP st1), (coW st1)) = (co.1, co.2.1, 1, co.2.2.2) := by
                    have := gC_co c1
                    show (st1.2.2.2.1.1, st1.2.2.2.1.2.1, (1 : Int32), st1.2.2.2.1.2.2.2.1, st1.2.2.2.1.2.2.2.2) = _
                    rw [show st1.2.2.2.1 = co from this]
                  rw [ecs]
                  have c5 := gC_setCo c1e (co.1, co.2.1, 1, co.2.2.2)
                  by_cases cs : co.2.2.1 = 0
                  · rw [if_pos cs, if_pos rfl]
                    exact go 1 1 _ _ (Or.inr rfl) (Or.inr rfl) c5 (gM_gs q2 1)
                  · rw [if_neg cs]
                    have cs1 := hw.2.2.1.2.resolve_left cs
                    exact go 1 1 _ _ (Or.inr rfl) (Or.inr rfl) c5 (by rw [← cs1]; exact q2e)
                · rw [if_neg w1', if_pos rfl, if_neg w1']
                  exact same 1 (Or.inr rfl)
              · have htt : ¬ txt tk a a1 := fun h => c30 (hiff.mpr h.2)
                rw [if_pos (htx.mpr htt), if_neg c30]
                exact same 0 (Or.inl rfl)
            · have htt : ¬ txt tk a a1 := fun h => k3 h.1
              rw [if_pos (htx.mpr htt), if_pos k3]
              exact same 0 (Or.inl rfl)
        have hLl : ((0, 0, 0, 1) :: sg : List Nd).length = sg.length + 1 := rfl
        by_cases w11 : f_Tk_keyword tk (nI a) = 11
        · rw [if_neg (show ¬ ¬ f_Tk_keyword tk (nI a) = 11 from fun h => h w11), if_neg (show ¬ ¬ f_Tk_keyword tk (nI a) = 11 from fun h => h w11)]
          have k1 := word_kind hT (by omega) w11 (by decide)
          simp only [bndM_as]
          refine Sim_bind (hD tk gt co lb ge gp gq a li g m _ st mo hR' w11 (by omega) (by omega) (by omega)) ?_
          intro r1 st1 n1 mo1 h1
          obtain ⟨lb1, ge1, gp1, a1, li1, g1, m1, sg1, n', rfl, w1, c1, q1, d1, fr1, fn1, o1, l1, l2, l3, l4, l5, l6, l7, _⟩ := PX_le h1
          exact nxt st1 _ mo1 False (fun h => absurd h (by rw [k1]; decide)) ⟨lb1, ge1, gp1, a1, li1, g1, m1, sg1, n', rfl, ⟨w1, c1, q1, d1⟩, fr1, fn1, o1, l1, by omega, by omega, fun h => h.elim⟩
        · rw [if_pos w11, if_pos w11]
          simp only [bndM_as]
          have hla : f_La_count (sLb st) = nI (lbn lb) := by unfold f_La_count; rw [gC_lb hc]
          rw [hla, hqlab]
          refine Sim_bind (hS tk gt co lb ge gp gq a li g m _ st mo (lbn lb) hR' hlab (Nat.le_refl _) (by omega) (by omega) (by omega)) ?_
          intro r1 st1 n1 mo1 h1
          obtain ⟨lb1, ge1, gp1, a1, li1, g1, m1, sg1, n', rfl, w1, c1, q1, d1, fr1, fn1, o1, l1, l2, l3, l4, l5, l6, l7, xs⟩ := PX_le h1
          exact nxt st1 _ mo1 True (fun _ => trivial) ⟨lb1, ge1, gp1, a1, li1, g1, m1, sg1, n', rfl, ⟨w1, c1, q1, d1⟩, fr1, fn1, o1, l1, by omega, by omega, fun _ => xs⟩
end PVI
