/-! functions -/
def fnB (K : Nat → List Int32 → MO → Rm) (depth lo0 node : Int32) (mo_186 : MO) : Rm := (bndM (f_Mo_expect mo_186 64) (fun _ mo_187 => (bndM (f_Mo_make mo_187 26 0 (q_at mo_186)) (fun r_188 mo_188 => (bndM (f_Mo_hang mo_188 node r_188) (fun _ mo_189 => (bndM (K 6 [r_188, (depth + 1), (q_at mo_186)] (s_breakables (s_loops (s_ownLabels (s_inFunction mo_189 1) (q_labels mo_189)) 0) 0)) (fun _ mo_190 => (bndM (f_Mo_expect mo_190 65) (fun _ mo_191 => (if (q_strict mo_191) = 0 then (if inb r_188 2600 then (if (q_strict mo_189) = 0 ∨ (q_strict mo_189) = 1 then (if (q_inFunction mo_189) = 0 ∨ (q_inFunction mo_189) = 1 then (if lo0 = 0 ∨ lo0 = 1 then (some (.inr (node, (s_breakables (s_loops (s_ownLabels (s_loose (s_inFunction (s_strict (s_value mo_191 (upd (q_value mo_191) (r_188 : Int32).toNatClampNeg 0)) (q_strict mo_189)) (q_inFunction mo_189)) lo0) (q_ownLabels mo_189)) (q_loops mo_189)) (q_breakables mo_189))))) else none) else none) else none) else none) else (if inb r_188 2600 then (if (q_strict mo_189) = 0 ∨ (q_strict mo_189) = 1 then (if (q_inFunction mo_189) = 0 ∨ (q_inFunction mo_189) = 1 then (if lo0 = 0 ∨ lo0 = 1 then (some (.inr (node, (s_breakables (s_loops (s_ownLabels (s_loose (s_inFunction (s_strict (s_value mo_191 (upd (q_value mo_191) (r_188 : Int32).toNatClampNeg 1)) (q_strict mo_189)) (q_inFunction mo_189)) lo0) (q_ownLabels mo_189)) (q_loops mo_189)) (q_breakables mo_189))))) else none) else none) else none) else none))))))))))))
def xfB (E : Int32 → Int32 → Int32 → ST → Rz) (S : Int32 → Int32 → ST → Rz) (F : Int32 → Int32 → ST → Rz) (form depth made : Int32) (st_3 : ST) : Rz := (bnd (f_Cu_expect st_3 64) (fun _ st_4 => (bnd (p_open st_4 26 0 (sAt st_3)) (fun r_5 st_5 => (if bC st_5 < 1 ∨ bS st_5 < 5 then none else (bnd (f_Pa_function_L79 E S F form depth made r_5 5000 1 0 (setB (setCo st_5 (1, (f_La_count (sLb st_5)), (coS st_5), 0, 0)) (bC st_5 - 1) (bS st_5 - 5))) (fun _ sx_7 => (if (coS sx_7) = 0 then (bnd (p_setValue sx_7 r_5 0) (fun _ st_10 => (bnd (p_close (setCo st_10 ((coF st_5), (coL st_5), (coS st_5), (coP st_5), (coW st_5))) r_5) (fun _ st_11 => (bnd (p_close st_11 made) (fun _ st_12 => (some (.inr (0, st_12))))))))) else (bnd (p_setValue sx_7 r_5 1) (fun _ st_13 => (bnd (p_close (setCo st_13 ((coF st_5), (coL st_5), (coS st_5), (coP st_5), (coW st_5))) r_5) (fun _ st_14 => (bnd (p_close st_14 made) (fun _ st_15 => (some (.inr (0, st_15)))))))))))))))))
/-- a tree that was hung before it was finished -/
theorem Hg_late {g g' : gN} {p n lo mid mid' hi : Nat} {bd sg : List Nd} (h : Hg g p bd lo mid) (ho : One g' n sg mid' hi) (hm : mid ≤ mid') (hlm : lo ≤ mid') (hp : p < mid') (hf : FrN (hgN g p (nI n)) g' mid') : Hg g' p (bd ++ sg) lo hi := by
  have hon := One_in ho
  obtain ⟨o1, o2, k2, bd2, ns2, o3, o4, o5, o6⟩ := ho
  have hpn : ¬ p ∈ n :: ns2 := by intro e; have := o5 p e; omega
  obtain ⟨⟨p1, p2, p3, p4, p5⟩, p6⟩ := hf p hp
  rcases h with ⟨e1, e2⟩ | ⟨k, ns, l, e1, e2, e3, e4, e5, e6⟩
  · subst e1
    have hg := hgN_nil (n := nI n) e2
    have hFp : nF g' p = nI n := by rw [p4, hg]; exact up_eq
    have hLp : nL g' p = nI n := by rw [p6, hg]; exact up_eq
    refine Or.inr ⟨k2 + 1, n :: ns2, n, o1, hLp, ?_, o4, hpn, fun i hi2 => ?_⟩
    · rw [hFp]
      refine ⟨n, bd2, [], ns2, [], rfl, o1, ?_, by simp, o3, Or.inl ⟨rfl, o2, rfl, rfl⟩⟩
      rw [o6]; simp
    · have := o5 i hi2; omega
  · have hff : ∃ f, nF g p = nI f ∧ f < 2600 := by
      cases k with
      | zero => exact e3.elim
      | succ k => obtain ⟨i, bd9, rs, n1, n2, h1, h2, _⟩ := e3; exact ⟨i, h1, h2⟩
    obtain ⟨f, hf1, hf2⟩ := hff
    have hg := hgN_cons (n := nI n) hf1 hf2 e2 e1
    have hlm' := Fl_mem e3
    have hl2 := e6 l hlm'
    obtain ⟨⟨q1, q2, q3, q4, q5⟩, q6⟩ := hf l (by omega)
    have ag : ∀ i, i ∈ ns → ¬ i = l → Ag g g' i := by
      intro i hi2 hi3
      have hb := e6 i hi2
      obtain ⟨⟨r1, r2, r3, r4, r5⟩, r6⟩ := hf i (by omega)
      rw [hg] at r1 r2 r3 r4 r5
      exact ⟨r1, r2, r3, r4, r5.trans (up_ne hi3)⟩
    have hFp : nF g' p = nF g p := by rw [p4, hg]
    have hLp : nL g' p = nI n := by rw [p6, hg]; exact up_eq
    refine Or.inr ⟨k + k2 + 1, ns ++ n :: ns2, n, o1, hLp, ?_, ?_, ?_, ?_⟩
    · rw [hFp, o6]
      rw [hg] at q1 q2 q3 q4 q5
      exact Fl_app (g := g) (g' := g') (l := l) o1 o3 o2 (q5.trans up_eq) e3 e4 ag ⟨q1, q2, q3, q4⟩
    · refine List.nodup_append.mpr ⟨e4, o4, ?_⟩
      intro x hx y hy e
      subst e
      have := e6 x hx
      have := o5 x hy
      omega
    · intro e
      rcases List.mem_append.mp e with e | e
      · exact e5 e
      · exact hpn e
    · intro i hi2
      rcases List.mem_append.mp hi2 with e | e
      · have := e6 i e; omega
      · have := o5 i e; omega
theorem Opn_late {g g' : gN} {p n lo mid mid' hi : Nat} {k v w : Int32} {bd sg : List Nd} (h : Opn g p k v w bd lo mid) (ho : One g' n sg mid' hi) (hm : mid ≤ mid') (hlm : lo ≤ mid') (hp : p < mid') (hnp : ¬ n = p) (hf : FrN (hgN g p (nI n)) g' mid') : Opn g' p k v w (bd ++ sg) lo hi := by
  obtain ⟨e1, e2, e3, e4, e5, e6⟩ := h
  have hh := Hg_late e1 ho hm hlm hp hf
  obtain ⟨⟨p1, p2, p3, p4, p5⟩, p6⟩ := hf p hp
  have hX : nX (hgN g p (nI n)) p = nX g p := by
    rcases e1 with ⟨_, e1b⟩ | ⟨k9, ns, l, f1, f2, f3, f4, f5, f6⟩
    · rw [hgN_nil e1b]
    · have hff : ∃ f, nF g p = nI f ∧ f < 2600 := by
        cases k9 with
        | zero => exact f3.elim
        | succ k9 => obtain ⟨i, bd9, rs, n1, n2, h1, h2, _⟩ := f3; exact ⟨i, h1, h2⟩
      obtain ⟨f, hf1, hf2⟩ := hff
      rw [hgN_cons hf1 hf2 f2 f1]
      exact up_ne (fun e => f5 (by rw [e]; exact Fl_mem f3))
  have hK : nK (hgN g p (nI n)) p = nK g p := by rw [hgN_K]
  have hV : nV (hgN g p (nI n)) p = nV g p := by unfold hgN; split <;> rfl
  have hS : nS (hgN g p (nI n)) p = nS g p := by unfold hgN; split <;> rfl
  exact ⟨hh, by rw [p1, hK, e2], by rw [p2, hV, e3], by rw [p3, hS, e4], by rw [p5, hX, e5], e6⟩
theorem Opn_oth {g : gN} {p q lo hi lo2 hi2 : Nat} {bd : List Nd} {k v w c : Int32} (hp : Hg g p bd lo hi) (hq : Opn g q k v w [] lo2 hi2) (h1 : ¬ q = p) (h2 : hi ≤ q) : Opn (hgN g p c) q k v w [] lo2 hi2 := by
  obtain ⟨e1, e2, e3, e4, e5, e6⟩ := hq
  have hF : nF g q = -1 := by
    rcases e1 with ⟨_, h⟩ | ⟨k9, ns, l, f1, f2, f3, _⟩
    · exact h
    · cases k9 with
      | zero => exact f3.elim
      | succ k9 => obtain ⟨i, bd9, rs, n1, n2, _, _, h3, _⟩ := f3; exact absurd h3 (by simp)
  rcases hp with ⟨_, hn⟩ | ⟨k9, ns, l, f1, f2, f3, f4, f5, f6⟩
  · rw [hgN_nil hn]
    exact ⟨Or.inl ⟨rfl, (up_ne h1).trans hF⟩, e2, e3, e4, e5, e6⟩
  · have hff : ∃ f, nF g p = nI f ∧ f < 2600 := by
      cases k9 with
      | zero => exact f3.elim
      | succ k9 => obtain ⟨i, bd9, rs, n1, n2, h1, h2, _⟩ := f3; exact ⟨i, h1, h2⟩
    obtain ⟨f, hf1, hf2⟩ := hff
    have hl := f6 l (Fl_mem f3)
    rw [hgN_cons hf1 hf2 f2 f1]
    exact ⟨Or.inl ⟨rfl, hF⟩, e2, e3, e4, (up_ne (by omega)).trans e5, e6⟩
theorem cs_brace {tk : TK} {lb : LB} {co : CO} {a : Nat} {li : Int32} {L : List Nd} {st : ST} (hc : gC tk lb co a li L st) (ha : a < tkn tk) (hl : L.length ≤ 2 * tkn tk + 3) (hT : tkn tk ≤ 1000) (w : Int32) (co2 : CO) :
    ∃ st5, p_open (setAt st (sAt st + 1)) 26 0 w = some (.inr (nI L.length, st5)) ∧ ¬ (bC st5 < 1 ∨ bS st5 < 5) ∧ gC tk lb co (a + 1) li (L ++ [(26, 0, w, 1)]) st5 ∧ gC tk lb co2 (a + 1) li (L ++ [(26, 0, w, 1)]) (setB (setCo st5 co2) (bC st5 - 1) (bS st5 - 5)) := by
  obtain ⟨tr, ra, bc, bs, rfl, hL, h1, h2, h3, h4⟩ := hc
  have hat : nI a + 1 = nI (a + 1) := nI_1 a
  have A : gC tk lb co (a + 1) li L (tk, tr, lb, co, nI (a + 1), ra, li, bc, bs) := ⟨tr, ra, bc, bs, rfl, hL, h1, h2, by omega, by omega⟩
  have B : gC tk lb co2 (a + 1) li L (tk, tr, lb, co2, nI (a + 1), ra, li, bc - 1, bs - 5) := ⟨tr, ra, bc - 1, bs - 5, rfl, hL, h1, h2, by omega, by omega⟩
  obtain ⟨st5, e5, c5⟩ := cs_open A hl hT 26 0 w
  obtain ⟨st6, e6, c6⟩ := cs_open B hl hT 26 0 w
  have g5 := p_open_e (st := (tk, tr, lb, co, nI (a + 1), ra, li, bc, bs)) (k := 26) (v := 0) (w := w) (by rw [e5]; simp)
  have g6 := p_open_e (st := (tk, tr, lb, co2, nI (a + 1), ra, li, bc - 1, bs - 5)) (k := 26) (v := 0) (w := w) (by rw [e6]; simp)
  rw [e5] at g5
  rw [e6] at g6
  have i5 : st5 = tB (tk, tr, lb, co, nI (a + 1), ra, li, bc, bs) (t_open tr 26 0 w) (rcT tr) (rsT tr) := congrArg (fun q : Int32 × ST => q.2) (Sum.inr.inj (Option.some.inj g5))
  have i6 : st6 = tB (tk, tr, lb, co2, nI (a + 1), ra, li, bc - 1, bs - 5) (t_open tr 26 0 w) (rcT tr) (rsT tr) := congrArg (fun q : Int32 × ST => q.2) (Sum.inr.inj (Option.some.inj g6))
  have b6 := gC_bC c6
  have b6s := gC_bS c6
  rw [i6] at b6 b6s
  have b6' : 1 ≤ bc - 1 - rcT tr := b6
  have b6s' : 6 ≤ bs - 5 - rsT tr := b6s
  have j1 : bC st5 = bc - rcT tr := by rw [i5]
  have j2 : bS st5 = bs - rsT tr := by rw [i5]
  refine ⟨st5, ?_, by rw [j1, j2]; omega, c5, ?_⟩
  · show p_open (tk, tr, lb, co, nI a + 1, ra, li, bc, bs) 26 0 w = _
    rw [hat]; exact e5
  · have : setB (setCo st5 co2) (bC st5 - 1) (bS st5 - 5) = st6 := by
      rw [j1, j2, i6, i5]
      show (tk, t_open tr 26 0 w, lb, co2, nI (a + 1), ra, li, bc - rcT tr - 1, bs - rsT tr - 5) = (tk, t_open tr 26 0 w, lb, co2, nI (a + 1), ra, li, bc - 1 - rcT tr, bs - 5 - rsT tr)
      rw [Nat.sub_right_comm, Nat.sub_right_comm bs]
    rw [this]; exact c6
/-- behind the ) of a function's head -/
def FE (tk : TK) (gt : gT) (co : CO) (lb : LB) (ge0 : gE) (gp0 : gP) (gq : gQ) (mk p : Nat) (kd val : Int32) (aF : Nat) (L0 : List Nd) (ok0 : Prop) (ps : List Pq) (a : Nat) (li : Int32) (g : gN) (st : ST) (mo : MO) : Prop :=
  gC tk lb co a li (L0 ++ (kd, val, nI aF, 1) :: segQ ps) st ∧ ∃ (lz : Int32) (gp : gP), gM gt (geL ge0 lz) gp gq a li g mo ∧ (lz = 0 ∨ lz = 1) ∧ (lz = 0 ↔ ok0 ∧ okPs tk [] ps) ∧ gp.1 = nI mk ∧ (∀ i, i < mk → gp.2.1 i = gp0.2.1 i ∧ gp.2.2 i = gp0.2.2 i) ∧ nM g = nI (p + 1 + ps.length) ∧ Opn g p kd val (nI aF) (segQ ps) (p + 1) (p + 1 + ps.length) ∧ a ≤ tkn tk ∧ aF + ps.length + 1 < a
theorem sm_fbody {E : Int32 → Int32 → Int32 → ST → Rz} {S : Int32 → Int32 → ST → Rz} {F : Int32 → Int32 → ST → Rz} {K K' : Nat → List Int32 → MO → Rm} {e : Nat} {form : Int32}
    (hS : HSt (fun o st => S (nI (e + 1)) o st) (fun o mo => f_Mo_statement K' mo (nI (e + 1)) o) (e + 1)) (hSe : ∀ o, HEnd (fun st => S (nI (e + 1)) o st)) (hD : HD 0 1 (Pw 11) XT (fun st => F 24 (nI (e + 1)) st) (fun mo => f_Mo_declaration K' mo (nI (e + 1))) (e + 1))
    (hK6 : ∀ (q br : Int32) (mo : MO), K 6 [q, nI (e + 1), br] mo = f_Mo_statements K' mo q (nI (e + 1)) br)
    {tk : TK} {gt : gT} {co : CO} {lb : LB} {ge0 : gE} {gp0 : gP} {gq : gQ} {mk p : Nat} {kd val : Int32} {aF : Nat} {L0 : List Nd} {ok0 : Prop} {ps : List Pq} {a : Nat} {li : Int32} {g g0 : gN} {st : ST} {mo : MO}
    (hw : Wf tk gt co lb ge0 gp0 aF) (hmk : gp0.1 = nI mk) (hmkb : mk ≤ aF) (hF : FE tk gt co lb ge0 gp0 gq mk p kd val aF L0 ok0 ps a li g st mo) (h0 : ok0 ↔ (kd = 24 ∨ ¬ val = 0) → mayB tk (aF + 1)) (hlb : lbn lb < e) (hL : L0.length ≤ 2 * aF + 2) (hp : p ≤ 2 * aF + 2) (hz : FrN g0 g p)
    (hkd : ¬ kd = 30) (hkd2 : ¬ kd = 28) (hkd3 : ¬ kd = 2) :
    Sim (xfB E S F form (nI e) (nI L0.length) st) (fnB K (nI e) ge0.2.2.1 (nI p) mo) (PX 1 (lbn lb) (XL (tk, co) aF) tk gt co lb ge0 gp0 gq aF g0 p L0) := by
  obtain ⟨hc, lz, gp, hq, hlz, hok, hpr, hfr, hd, hO, ha, haf⟩ := hF
  have hT := hw.1.1
  have hlen : (L0 ++ (kd, val, nI aF, 1) :: segQ ps).length = L0.length + 1 + ps.length := by simp [segQ_len]; omega
  have hw' := hw
  obtain ⟨w1, w2, ⟨w3, w4⟩, ⟨w5, w6⟩, w7, ⟨w8, w9⟩, ⟨w10, ff, w11, w12⟩, ⟨pp, ww, w13, w14, w15, w16, w17⟩, pr, w18, w19⟩ := hw
  unfold xfB fnB
  by_cases c64 : f_Tk_sign tk (nI a) = 64
  · have hl := lt_of_sign hT (by omega) c64 (by decide)
    have ex : f_Cu_expect st 64 = some (.inr (0, setAt st (sAt st + 1))) := by
      unfold f_Cu_expect; rw [gC_tk hc, gC_at hc, if_pos c64]
    have ey : f_Mo_expect mo 64 = some (.inr (0, s_at mo (q_at mo + 1))) := by
      unfold f_Mo_expect
      rw [rs_sign w1 hq ha (s := 64) (by decide), if_pos c64, bndM_some, if_neg n10]
    refine Sim_c ex ?_
    refine Sim_m ey ?_
    have eco : (coF st, coL st, coS st, coP st, coW st) = co := by
      have h9 := gC_co hc
      show (st.2.2.2.1.1, st.2.2.2.1.2.1, st.2.2.2.1.2.2.1, st.2.2.2.1.2.2.2.1, st.2.2.2.1.2.2.2.2) = co
      have : st.2.2.2.1 = co := h9
      rw [this]
    obtain ⟨st5, e5, hbud, c5, c5b⟩ := cs_brace hc hl (by omega) hT (sAt st) (1, nI (lbn lb), co.2.2.1, 0, 0)
    refine Sim_c e5 ?_
    rw [if_neg hbud]
    rw [gC_at hc] at c5 c5b
    have ela : f_La_count (sLb st5) = nI (lbn lb) := by unfold f_La_count; rw [gC_lb c5]
    have ecs : coS st5 = co.2.2.1 := gC_cs c5
    rw [ela, ecs, gM_at hq, hlen]
    have q1 := gM_at' hq (v := nI a + 1) (nI_1 a)
    obtain ⟨mo1, g1, e1, qm1, o1, f1, d1⟩ := rs_make' q1 hd (show p + 1 + ps.length < 2600 by omega) 26 0 (nI a)
    refine Sim_m e1 ?_
    have hOp := Opn_fr hO (f1 _ (Nat.le_refl _)) (Nat.le_refl _) (by omega)
    have one1 := Opn_one (o1 (p + 1 + ps.length) (p + 1 + ps.length)) (Nat.le_refl _) (Nat.le_succ _) (Nat.le_refl _) (Nat.lt_succ_self _)
    obtain ⟨mo2, e2, qm2⟩ := rs_hang (n := p + 1 + ps.length) qm1 hOp.2.2.2.2.2 hOp.1 (nI (p + 1 + ps.length))
    refine Sim_m e2 ?_
    obtain ⟨hOh, fh, dh⟩ := Opn_hang hOp one1 (Nat.le_refl _) (by omega) (Or.inl (by omega))
    have eqst : q_strict mo2 = ge0.1 := by show mo2.2.2.2.1.1 = _; rw [gM_ge qm2]
    have eqin : q_inFunction mo2 = ge0.2.1 := by show mo2.2.2.2.1.2.1 = _; rw [gM_ge qm2]
    have eqlb : q_labels mo2 = ge0.2.2.2.1 := by show mo2.2.2.2.1.2.2.2.1 = _; rw [gM_ge qm2]
    have eqow : q_ownLabels mo2 = ge0.2.2.2.2.1 := by show mo2.2.2.2.1.2.2.2.2.1 = _; rw [gM_ge qm2]
    have eqlo : q_loops mo2 = ge0.2.2.2.2.2.1 := by show mo2.2.2.2.1.2.2.2.2.2.1 = _; rw [gM_ge qm2]
    have eqbr : q_breakables mo2 = ge0.2.2.2.2.2.2.1 := by show mo2.2.2.2.1.2.2.2.2.2.2.1 = _; rw [gM_ge qm2]
    have qm3 : gM gt (ge0.1, 1, lz, ge0.2.2.2.1, ge0.2.2.2.1, 0, 0, ge0.2.2.2.2.2.2.2) gp gq (a + 1) li (hgN g1 p (nI (p + 1 + ps.length))) (s_breakables (s_loops (s_ownLabels (s_inFunction mo2 1) (q_labels mo2)) 0) 0) := by
      obtain ⟨th, rfl⟩ := qm2
      exact ⟨th, rfl⟩
    have hwB : Wf tk gt (1, nI (lbn lb), co.2.2.1, 0, 0) lb (ge0.1, 1, lz, ge0.2.2.2.1, ge0.2.2.2.1, 0, 0, ge0.2.2.2.2.2.2.2) gp (a + 1) := by
      refine ⟨w1, by omega, ⟨w3, w4⟩, ⟨rfl, Or.inr rfl⟩, hlz, ⟨w8, w9⟩, ⟨w8, lbn lb, rfl, Nat.le_refl _⟩, ⟨0, 0, rfl, rfl, rfl, rfl, by omega⟩, mk, hpr, by omega⟩
    have hb := sm_bodyL (E := E) (form := form) hS hSe hD tk gt gq L0 kd val aF a ps ok0 h0 (p + 1 + ps.length) (p + 1 + ps.length) (Nat.le_refl _) ha 5000 5000 0 1 (1, nI (lbn lb), co.2.2.1, 0, 0) lb (ge0.1, 1, lz, ge0.2.2.2.1, ge0.2.2.2.1, 0, 0, ge0.2.2.2.2.2.2.2) gp (a + 1) li (hgN g1 p (nI (p + 1 + ps.length))) (p + 1 + ps.length + 1) [] _ _ (Or.inr rfl) ⟨hwB, by rw [List.append_nil]; exact c5b, qm3, dh.trans d1⟩ rfl hok (Opn_oth hOp.1 (o1 (p + 1 + ps.length + 1) (p + 1 + ps.length + 1)) (by omega) (Nat.le_refl _)) (by omega) (by omega) (by rw [List.append_nil, List.length_append, hlen]; simp; omega) (by omega) (by omega) (by omega) (by omega)
    rw [nI_1 e, hK6]
    unfold f_Mo_statements
    have as : ∀ (x : Rm) (k' : Int32 → MO → Rm), bndM (bndM x (fun _ se_1 => some (.inr (0, se_1)))) (fun _ se => bndM (f_Mo_expect se 65) k') = bndM (bndM x (fun _ se => f_Mo_expect se 65)) k' := by
      intro x k'
      simp only [bndM_as, bndM_some]
    rw [as]
    refine Sim_bind hb ?_
    intro r7 st7 n7 mo7 h7
    obtain ⟨lb', ge', gp', a', li', g', m', sg', s', b1, b2, b3, b4, b5, b6, b7, b8, b9, b10, b11⟩ := h7
    rw [List.nil_append] at b1 b7
    have ha' := b4.2.1
    have hs' : s' = 0 ∨ s' = 1 := b4.2.2.1.2
    obtain ⟨t1, t2, t3, ⟨u1, u2, u3, u4, u5, u6, u7⟩, t5, t6⟩ := b5
    have hpb : p + 1 + ps.length < 2600 := by omega
    have eco5 : ((coF st5), (coL st5), co.2.2.1, (coP st5), (coW st5)) = co := by
      have h9 := gC_co c5
      show (st5.2.2.2.1.1, st5.2.2.2.1.2.1, co.2.2.1, st5.2.2.2.1.2.2.2.1, st5.2.2.2.1.2.2.2.2) = co
      have : st5.2.2.2.1 = co := h9
      rw [this]
    have ecs7 : coS st7 = s' := gC_cs b1
    have eqs7 : q_strict mo7 = s' := by show mo7.2.2.2.1.1 = _; rw [gM_ge b2]; exact u1
    have hsz : (L0 ++ (kd, val, nI aF, 1) :: segQ ps ++ [(26, 0, nI a, 1)] ++ sg').length = L0.length + 1 + ps.length + 1 + sg'.length := by rw [List.length_append, List.length_append, hlen]; rfl
    -- the end, for either value
    have fin : ∀ v : Int32, v = s' → Sim (bnd (p_setValue st7 (nI (L0.length + 1 + ps.length)) v) (fun _ st_10 => (bnd (p_close (setCo st_10 ((coF st5), (coL st5), co.2.2.1, (coP st5), (coW st5))) (nI (L0.length + 1 + ps.length))) (fun _ st_11 => (bnd (p_close st_11 (nI L0.length)) (fun _ st_12 => (some (.inr (0, st_12)))))))))
        (if inb (nI (p + 1 + ps.length)) 2600 then (if (q_strict mo2) = 0 ∨ (q_strict mo2) = 1 then (if (q_inFunction mo2) = 0 ∨ (q_inFunction mo2) = 1 then (if ge0.2.2.1 = 0 ∨ ge0.2.2.1 = 1 then (some (.inr (nI p, (s_breakables (s_loops (s_ownLabels (s_loose (s_inFunction (s_strict (s_value mo7 (upd (q_value mo7) ((nI (p + 1 + ps.length)) : Int32).toNatClampNeg v)) (q_strict mo2)) (q_inFunction mo2)) ge0.2.2.1) (q_ownLabels mo2)) (q_loops mo2)) (q_breakables mo2)))) : Rm) else none) else none) else none) else none)
        (PX 1 (lbn lb) (XL (tk, co) aF) tk gt co lb ge0 gp0 gq aF g0 p L0) := by
      intro v hv
      subst hv
      rw [if_pos (inbN hpb), clN hpb, eqst, eqin, eqow, eqlo, eqbr, if_pos (by rw [w3]; exact w4), if_pos (by rw [w5]; exact w6), if_pos w7]
      obtain ⟨st8, e8, c8⟩ := cs_setV (pre := L0 ++ (kd, val, nI aF, 1) :: segQ ps) (k := 26) (v := 0) (w := nI a) (z := 1) (x := v) (bd := sg') b1 (by simp) (by omega) (by rw [hlen])
      refine Sim_c e8 ?_
      have c8' := gC_setCo c8 co
      rw [eco5]
      have hl8 : ((L0 ++ (kd, val, nI aF, 1) :: segQ ps) ++ (26, v, nI a, 1) :: sg').length = L0.length + 1 + ps.length + 1 + sg'.length := by rw [List.length_append, hlen]; simp; omega
      obtain ⟨st9, e9, c9⟩ := cs_close (pre := L0 ++ (kd, val, nI aF, 1) :: segQ ps) (k := 26) (v := v) (w := nI a) (z := 1) (bd := sg') c8' rfl (by omega) (by rw [hlen])
      refine Sim_c e9 ?_
      have hl9 : ((L0 ++ (kd, val, nI aF, 1) :: segQ ps) ++ (26, v, nI a, nI (sg'.length + 1)) :: sg').length = L0.length + 1 + ps.length + 1 + sg'.length := by rw [List.length_append, hlen]; simp; omega
      obtain ⟨st10, e10, c10⟩ := cs_close (pre := L0) (k := kd) (v := val) (w := nI aF) (z := 1) (bd := segQ ps ++ (26, v, nI a, nI (sg'.length + 1)) :: sg') c9 (by simp) (by omega) rfl
      refine Sim_c e10 ?_
      have qF : gM gt (ge0.1, ge0.2.1, ge0.2.2.1, ge'.2.2.2.1, ge0.2.2.2.2.1, ge0.2.2.2.2.2.1, ge0.2.2.2.2.2.2.1, ge'.2.2.2.2.2.2.2) gp' gq a' li' (svN g' (p + 1 + ps.length) v) (s_breakables (s_loops (s_ownLabels (s_loose (s_inFunction (s_strict (s_value mo7 (upd (q_value mo7) (p + 1 + ps.length) v)) ge0.1) ge0.2.1) ge0.2.2.1) ge0.2.2.2.2.1) ge0.2.2.2.2.2.1) ge0.2.2.2.2.2.2.1) := by
        obtain ⟨th, rfl⟩ := b2
        exact ⟨th, rfl⟩
      have hFr : Fr (lbn lb) lb lb' ge0 (ge0.1, ge0.2.1, ge0.2.2.1, ge'.2.2.2.1, ge0.2.2.2.2.1, ge0.2.2.2.2.2.1, ge0.2.2.2.2.2.2.1, ge'.2.2.2.2.2.2.2) gp0 gp' := by
        refine ⟨t1, t2, t3, ⟨rfl, rfl, rfl, u4, rfl, rfl, rfl⟩, by rw [t5, hpr, hmk], ?_⟩
        intro i hi hib
        rw [hmk] at hi
        have him : i < mk := (nI_ltI hib (by omega)).mp hi
        have h1 := t6 i (by rw [hpr]; exact hi) hib
        have h2 := hfr i him
        exact ⟨h1.1.trans h2.1, h1.2.trans h2.2⟩
      have oS := Opn_sv v b7
      have oneB := Opn_one oS (show p + 1 + ps.length ≤ p + 1 + ps.length + 1 by omega) (Nat.le_refl _) (Nat.le_refl _) (by omega)
      have oP := Opn_late hOp oneB (Nat.le_refl _) (by omega) (by omega) (by omega) (FrN_trans b6 (FrN_sv g' _ v (Nat.le_refl _)) (Nat.le_refl _))
      have oneP := Opn_one oP (show p ≤ p + 1 by omega) (Nat.le_refl _) (Nat.le_refl _) (by omega)
      have hFrN : FrN g0 (svN g' (p + 1 + ps.length) v) p := FrN_trans (FrN_trans (FrN_trans (FrN_trans hz (f1 p (by omega)) (Nat.le_refl _)) (fh p (by omega) (Nat.le_refl _)) (Nat.le_refl _)) (FrN_less b6 (by omega)) (Nat.le_refl _)) (FrN_sv g' _ v (by omega)) (Nat.le_refl _)
      exact Sim_ret ⟨lb', _, gp', a', li', svN g' (p + 1 + ps.length) v, m', _, p, rfl, ⟨Wf_fr hw' hFr (by omega) ha', c10, qF, b3⟩, hFr, hFrN, oneP, by omega, by simp [segQ_len]; omega, by omega, XL_hd hkd hkd2 (by omega) hkd3⟩
    rw [ecs7, eqs7]
    rcases hs' with hs0 | hs1
    · rw [if_pos hs0, if_pos hs0]
      exact fin 0 hs0.symm
    · have hs0 : ¬ s' = 0 := by rw [hs1]; decide
      rw [if_neg hs0, if_neg hs0]
      exact fin 1 hs1.symm
  · refine Sim_rr (p := nI a) (Ref_bnd ?_) (RefM_bnd ?_) (at_ne w1 ha)
    · unfold f_Cu_expect
      rw [gC_tk hc, gC_at hc, if_neg c64]
      exact Ref_bnd (Ref_refuse hc _)
    · unfold f_Mo_expect
      rw [rs_sign w1 hq ha (s := 64) (by decide), bndM_some, if_neg c64, if_pos rfl, gM_at hq]
      exact RefM_bnd (RefM_refuse _ _)
