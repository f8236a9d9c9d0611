/-! the whole parse -/
/-- what a parse that is not refused leaves -/
def PZ (tk : TK) (gt : gT) (gq : gQ) : Int32 → ST → Int32 → MO → Prop := fun r st _ mo =>
  r = -1 ∧ sTk st = tk ∧ ∃ L, Tl (sTr st) L ∧ L.length ≤ 2001 ∧ mo.1 = gt ∧ mo.2.2.1 = gq ∧ q_place mo = -1 ∧ ∃ m, m ≤ 2001 ∧ One mo.2.1 0 L 0 m
theorem sm_parse {st : ST} {mo : MO} {gt : gT} (hst : okSt st) (hR : TkR (sTk st) gt) (hmo : mo.1 = gt) (hbc : 3 * tkn (sTk st) + 10 ≤ bC st) (hbs : 8 * (2 * (2 * tkn (sTk st) + 8)) + 5 * tkn (sTk st) + 11 ≤ bS st) :
    Sim (f_parse st) (f_progM mo) (PZ (sTk st) (gt.1, gt.2.1, gt.2.2.1, upd gt.2.2.2.1 (tkn (sTk st)) 1, gt.2.2.2.2) (mo.2.2.1.1, mo.2.2.1.2.1, 0)) := by
  subst hmo
  obtain ⟨tk, tr, lb, co, at9, ra, li, bc, bs⟩ := st
  obtain ⟨gt, g, gq, ge, gp, gz⟩ := mo
  have hT : tkn tk ≤ 1000 := hR.1
  have hbc' : 3 * tkn tk + 10 ≤ bc := hbc
  have hbs' : 8 * (2 * (2 * tkn tk + 8)) + 5 * tkn tk + 11 ≤ bs := hbs
  have htc : 64 ≤ trc tr := hst.2.1.2.2
  unfold f_parse f_progM f_prog f_Pa_program
  rw [if_neg (show ¬ (bc < 1 ∨ bs < 5) by omega)]
  have hc : gC tk (lbN lb, lbL lb, 0) (0, 0, 0, 0, 0) 0 0 [] (st_par (tk, tr, lb, co, at9, ra, li, bc, bs)) := by
    refine ⟨t_clear tr, -1, bc - 1, bs - 5, rfl, ⟨rfl, fun i hi => absurd hi (by simp)⟩, ?_, ?_, ?_, ?_⟩
    · show 0 ≤ _; omega
    · exact htc
    · show (2 * tkn tk + 8 - trc tr) + (tkn tk - 0) + 1 ≤ bc - 1; omega
    · show 8 * (2 * (2 * tkn tk + 8) - trc tr) + 5 * (tkn tk - 0) + 6 ≤ bs - 5; omega
  obtain ⟨st1, e1, c1⟩ := cs_open hc (by simp) hT 0 0 0
  have ec : gt.2.2.2.2 = nI (tkn tk) := hR.2.1
  have eb : f_Mo_begin (gt, g, gq, ge, gp, gz) = some (.inr (0, (gt, (g.1, g.2.1, g.2.2.1, g.2.2.2.1, g.2.2.2.2.1, g.2.2.2.2.2.1, 0), (gq.1, gq.2.1, 0), (0, 0, 0, 0, 0, 0, 0, ge.2.2.2.2.2.2.2.1, ge.2.2.2.2.2.2.2.2), (0, gp.2.1, gp.2.2), (0, -1, 0, gz.2.2.2)))) := rfl
  rw [eb, bndM_some, e1, bnd_some]
  show Sim _ (if inb gt.2.2.2.2 1001 then bndM (f_Mo_make ((gt.1, gt.2.1, gt.2.2.1, upd gt.2.2.2.1 (gt.2.2.2.2 : Int32).toNatClampNeg 1, gt.2.2.2.2), (g.1, g.2.1, g.2.2.1, g.2.2.2.1, g.2.2.2.2.1, g.2.2.2.2.2.1, 0), (gq.1, gq.2.1, 0), (0, 0, 0, 0, 0, 0, 0, ge.2.2.2.2.2.2.2.1, ge.2.2.2.2.2.2.2.2), (0, gp.2.1, gp.2.2), (0, -1, 0, gz.2.2.2)) 0 0 0) _ else none) _
  rw [ec, if_pos (nI_in (by omega) (by decide)), nI_clamp (by omega)]
  have hm : gM (gt.1, gt.2.1, gt.2.2.1, upd gt.2.2.2.1 (tkn tk) 1, nI (tkn tk)) (0, 0, 0, 0, 0, 0, 0, ge.2.2.2.2.2.2.2.1, ge.2.2.2.2.2.2.2.2) (0, gp.2.1, gp.2.2) (gq.1, gq.2.1, 0) 0 0 (g.1, g.2.1, g.2.2.1, g.2.2.2.1, g.2.2.2.2.1, g.2.2.2.2.2.1, nI 0) ((gt.1, gt.2.1, gt.2.2.1, upd gt.2.2.2.1 (tkn tk) 1, nI (tkn tk)), (g.1, g.2.1, g.2.2.1, g.2.2.2.1, g.2.2.2.2.1, g.2.2.2.2.2.1, 0), (gq.1, gq.2.1, 0), (0, 0, 0, 0, 0, 0, 0, ge.2.2.2.2.2.2.2.1, ge.2.2.2.2.2.2.2.2), (0, gp.2.1, gp.2.2), (0, -1, 0, gz.2.2.2)) := ⟨gz.2.2.2, rfl⟩
  obtain ⟨mo2, e2, q2⟩ := rs_make (m := 0) hm rfl (by omega) 0 0 0
  refine Sim_m e2 ?_
  have hO : Opn (mkN (g.1, g.2.1, g.2.2.1, g.2.2.2.1, g.2.2.2.2.1, g.2.2.2.2.2.1, nI 0) 0 0 0 0) 0 0 0 0 [] 1 1 := Opn_mk _ 0 0 0 (by omega) 1 1
  have hR2 : TkR tk (gt.1, gt.2.1, gt.2.2.1, upd gt.2.2.2.1 (tkn tk) 1, nI (tkn tk)) := by
    refine ⟨hT, rfl, fun i hi => ?_⟩
    obtain ⟨z1, z2, z3, z4, z5, z6⟩ := hR.2.2 i hi
    refine ⟨z1, z2, z3, ?_, z5, z6⟩
    show upd gt.2.2.2.1 (tkn tk) 1 i = tkL tk i
    rw [up_ne (Nat.ne_of_lt hi)]; exact z4
  have hw : Wf tk (gt.1, gt.2.1, gt.2.2.1, upd gt.2.2.2.1 (tkn tk) 1, nI (tkn tk)) (0, 0, 0, 0, 0) (lbN lb, lbL lb, 0) (0, 0, 0, 0, 0, 0, 0, ge.2.2.2.2.2.2.2.1, ge.2.2.2.2.2.2.2.2) (0, gp.2.1, gp.2.2) 0 := by
    refine ⟨hR2, Nat.zero_le _, ⟨rfl, Or.inl rfl⟩, ⟨rfl, Or.inl rfl⟩, Or.inl rfl, ⟨rfl, Nat.zero_le _⟩, ⟨rfl, 0, rfl, Nat.zero_le _⟩, ⟨0, 0, rfl, rfl, rfl, rfl, Nat.le_refl _⟩, 0, rfl, Nat.le_refl _⟩
  have hP := sm_progL tk (gt.1, gt.2.1, gt.2.2.1, upd gt.2.2.2.1 (tkn tk) 1, nI (tkn tk)) (gq.1, gq.2.1, 0) 5000 5000 0 1 (0, 0, 0, 0, 0) (lbN lb, lbL lb, 0) (0, 0, 0, 0, 0, 0, 0, ge.2.2.2.2.2.2.2.1, ge.2.2.2.2.2.2.2.2) (0, gp.2.1, gp.2.2) 0 0 _ 1 [] st1 mo2 (Or.inr rfl) ⟨hw, c1, q2, rfl⟩ rfl rfl hO (by omega) (by simp) (by omega) (by omega) (by omega) (by omega)
  have eK : ∀ k : Int32 → MO → Rm, bndM (Kn 101 6 [nI 0, 1, 0] mo2) k = bndM (f_Mo_statements_L3 (Kn 100) (nI 0) (nI 1) 0 5000 1 mo2) (fun _ se => k 0 se) := by
    intro k
    show bndM (f_Mo_statements (Kn 100) mo2 (nI 0) 1 0) k = _
    unfold f_Mo_statements
    rw [bndM_as]
    rfl
  rw [eK]
  have ek : ∀ (k : MO → Rm), (fun (_ : Int32) (se : MO) => (if q_count se ≤ q_at se then k se else f_Mo_refuse se (q_at se))) = fun _ se => bndM (finM se) (fun _ m4 => k m4) := by
    intro k
    funext _ se
    show _ = bndM (if q_count se ≤ q_at se then some (.inr (0, se)) else f_Mo_refuse se (q_at se)) _
    by_cases c : q_count se ≤ q_at se
    · rw [if_pos c, if_pos c, bndM_some]
    · rw [if_neg c, if_neg c]; rfl
  rw [ek (fun m3 => if inb (nI 0) 2600 then some (.inr (0, s_value m3 (upd (q_value m3) (nI 0 : Int32).toNatClampNeg (if q_strict m3 = 0 then 0 else 1)))) else none), ← bndM_as, bnd_as]
  refine Sim_bind hP ?_
  rintro r st3 n3 mo3 ⟨co3, lb3, ge3, gp3, li3, g3, m3, sg, ⟨w3, c3, q3, d3⟩, o3, l1, l2, l3⟩
  have ecs : coS st3 = co3.2.2.1 := gC_cs c3
  have est : q_strict mo3 = co3.2.2.1 := by show mo3.2.2.2.1.1 = _; rw [gM_ge q3]; exact w3.2.2.1.1
  rw [if_pos (inbN (by omega)), clN (by omega), est, ecs]
  have hll : ((0, 0, 0, 1) :: sg : List Nd).length = sg.length + 1 := rfl
  have fin : ∀ x : Int32, Sim (bnd (bnd (p_setValue st3 (nI ([] : List Nd).length) x) (fun _ st_5 => (bnd (p_close st_5 (nI ([] : List Nd).length)) (fun _ st_6 => (some (.inr (0, st_6))))))) (fun _ s1 => some (.inr (-1, s1)))) (some (.inr (0, s_value mo3 (upd (q_value mo3) 0 x)))) (PZ tk (gt.1, gt.2.1, gt.2.2.1, upd gt.2.2.2.1 (tkn tk) 1, nI (tkn tk)) (gq.1, gq.2.1, 0)) := by
    intro x
    obtain ⟨st4, e4, c4⟩ := cs_setV (pre := []) (k := 0) (v := 0) (w := 0) (z := 1) (x := x) (bd := sg) (i := nI ([] : List Nd).length) c3 rfl (by omega) rfl
    obtain ⟨st5, e5, c5⟩ := cs_close (pre := []) (k := 0) (v := x) (w := 0) (z := 1) (bd := sg) (i := nI ([] : List Nd).length) c4 rfl (by simp; omega) rfl
    rw [bnd_as]
    refine Sim_c e4 ?_
    rw [bnd_as]
    refine Sim_c e5 ?_
    rw [bnd_some]
    have q4 := gM_sv (p := 0) q3 x
    have o4 := Opn_sv x o3
    refine Sim_ret ⟨rfl, gC_tk c5, _, gC_tr c5, by simp; omega, gM_gt q4, ?_, ?_, m3, by omega, ?_⟩
    · obtain ⟨th, e9⟩ := q4; rw [e9]
    · obtain ⟨th, e9⟩ := q4; rw [e9]
    · rw [gM_g q4]
      exact Opn_one o4 (by omega) (Nat.le_refl _) (by omega) (by omega)
  by_cases cs : co3.2.2.1 = 0
  · rw [if_pos cs, if_pos cs]
    exact fin 0
  · rw [if_neg cs, if_neg cs]
    exact fin 1
