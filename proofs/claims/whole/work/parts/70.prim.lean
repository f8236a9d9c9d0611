/-! operands: what new makes, and single tokens -/
/-- the operand without what stands behind it -/
def xPrim (E : Int32 → Int32 → Int32 → ST → Rz) (S : Int32 → Int32 → ST → Rz) (F : Int32 → Int32 → ST → Rz) (st : ST) (depth : Int32) : Rz :=
  if f_Cu_atSign st 60 = 0 then (if f_Cu_atSign st 62 = 0 then (if f_Cu_atSign st 64 = 0 then (if f_Cu_atWord st 11 = 0 then (if f_Cu_atWord st 15 = 0 then f_Pa_leaf st else f_Pa_construction E S F st depth) else F 50 depth st) else f_Pa_object E S F st depth) else f_Pa_array E S F st depth) else f_Pa_group E S F st depth
section PUN
variable {tk : TK} {lb : LB} {co : CO} {L : List Nd} {st : ST} {gt : gT} {ge : gE} {gp : gP} {gq : gQ} {a : Nat} {li : Int32} {g : gN} {mo : MO} {m e : Nat}
variable {E : Int32 → Int32 → Int32 → ST → Rz} {S : Int32 → Int32 → ST → Rz} {F : Int32 → Int32 → ST → Rz} {K : Nat → List Int32 → MO → Rm}
theorem sm_argl1 (he : HC 1 2 XA (E 0 (nI (e + 1)) 1) (K 1 [nI (e + 1), 1]) (e + 1)) {z p lo : Nat} {k v w : Int32} {bd : List Nd} (hR : RR tk gt co lb ge gp gq a li g m L st mo) (hlb : lbn lb < e + 1) (hL : L.length ≤ 2 * a + 2) (hm : m ≤ 2 * a + 2) (hO : Opn g p k v w bd lo m) (hz1 : z ≤ lo) (hz2 : z ≤ p) (hpm : p < m) (hlm : lo ≤ m) :
    Sim (f_Pa_construction_L46 E S F (nI e) 5000 0 st) (bndM (f_Mo_isSign mo 61) (fun r_1 mo_1 => (if r_1 = 0 then (bndM (f_Mo_arguments_L25 K (nI p) (nI e) 5000 1 mo_1) (fun _ se_10 => (bndM (f_Mo_expect se_10 61) (fun _ mo_12 => (some (.inr (0, mo_12))))))) else (bndM (f_Mo_arguments_L25 K (nI p) (nI e) 5000 0 mo_1) (fun _ se_3 => (bndM (f_Mo_expect se_3 61) (fun _ mo_5 => (some (.inr (0, mo_5)))))))))) (PO z (lbn lb) (fun _ _ => True) p k v w bd lo tk gt co lb ge gp gq a g m L) := by
  have hR' := hR
  obtain ⟨hw, hc, hq, hd⟩ := hR
  have hT := hw.1.1
  have ha := hw.2.1
  have h0 : (0 : Int32) = nI 0 := rfl
  rw [rs_sign hw.1 hq ha (s := 61) (by decide), bndM_some]
  unfold f_Pa_construction_L46
  rw [if_neg (show ¬ (1000 : Int32) < 0 by decide)]
  by_cases c : f_Tk_sign tk (nI a) = 61
  · have hl := lt_of_sign hT (by omega) c (by decide)
    obtain ⟨st1, e1, c1⟩ := cs_acc hc c
    have en : f_Cu_nextArgument st 0 = some (.inr (0, st1)) := by
      unfold f_Cu_nextArgument
      rw [if_pos rfl, e1]
      first | rw [bndM_some, if_neg (by decide)] | rw [bnd_some, if_neg (by decide)]
    rw [en, bnd_some, if_pos rfl, if_pos c, if_neg (by decide)]
    unfold f_Mo_arguments_L25
    rw [if_pos rfl, bndM_some]
    have ex : f_Mo_expect mo 61 = some (.inr (0, s_at mo (q_at mo + 1))) := by
      unfold f_Mo_expect
      rw [rs_sign hw.1 hq ha (s := 61) (by decide), if_pos c]
      first | rw [bndM_some, if_neg (by decide)] | rw [bnd_some, if_neg (by decide)]
    rw [ex, bndM_some]
    exact Sim_ret ⟨lb, ge, gp, a + 1, li, g, m, [], ⟨Wf_up hw (by omega) (by omega), by rw [List.append_nil]; exact c1, gM_inc hq, hd⟩, Fr_refl _ _ _ _, FrN_refl _ _, by rw [List.append_nil]; exact hO, by omega, by simp, by omega, by omega, trivial⟩
  · have en : f_Cu_nextArgument st 0 = some (.inr (1, st)) := by
      unfold f_Cu_nextArgument
      rw [if_pos rfl, cs_nacc hc c]
      first | rw [bndM_some, if_pos rfl] | rw [bnd_some, if_pos rfl]
    rw [en, bnd_some, if_neg (by decide), if_neg c, if_pos rfl]
    have h1 := sm_args1 (S := S) (F := F) he 4999 4999 0 z p lo k v w bd tk gt co lb ge gp gq a li g m L st mo hR' hlb hL hm (by omega) (by omega) (by omega) hO hz1 hz2 hpm hlm
    exact h1
theorem sm_argl2 {start calls : Int32} (he : HC 1 2 XA (E 0 (nI (e + 1)) 1) (K 1 [nI (e + 1), 1]) (e + 1)) {z p lo : Nat} {k v w : Int32} {bd : List Nd} (hR : RR tk gt co lb ge gp gq a li g m L st mo) (hlb : lbn lb < e + 1) (hL : L.length ≤ 2 * a + 2) (hm : m ≤ 2 * a + 2) (hO : Opn g p k v w bd lo m) (hz1 : z ≤ lo) (hz2 : z ≤ p) (hpm : p < m) (hlm : lo ≤ m) :
    Sim (f_Pa_tails_L100 E S F start (nI e) calls 5000 0 st) (bndM (f_Mo_isSign mo 61) (fun r_1 mo_1 => (if r_1 = 0 then (bndM (f_Mo_arguments_L25 K (nI p) (nI e) 5000 1 mo_1) (fun _ se_10 => (bndM (f_Mo_expect se_10 61) (fun _ mo_12 => (some (.inr (0, mo_12))))))) else (bndM (f_Mo_arguments_L25 K (nI p) (nI e) 5000 0 mo_1) (fun _ se_3 => (bndM (f_Mo_expect se_3 61) (fun _ mo_5 => (some (.inr (0, mo_5)))))))))) (PO z (lbn lb) (fun _ _ => True) p k v w bd lo tk gt co lb ge gp gq a g m L) := by
  have hR' := hR
  obtain ⟨hw, hc, hq, hd⟩ := hR
  have hT := hw.1.1
  have ha := hw.2.1
  rw [rs_sign hw.1 hq ha (s := 61) (by decide), bndM_some]
  unfold f_Pa_tails_L100
  rw [if_neg (show ¬ (1000 : Int32) < 0 by decide)]
  by_cases c : f_Tk_sign tk (nI a) = 61
  · have hl := lt_of_sign hT (by omega) c (by decide)
    obtain ⟨st1, e1, c1⟩ := cs_acc hc c
    have en : f_Cu_nextArgument st 0 = some (.inr (0, st1)) := by
      unfold f_Cu_nextArgument
      rw [if_pos rfl, e1]
      first | rw [bndM_some, if_neg (by decide)] | rw [bnd_some, if_neg (by decide)]
    rw [en, bnd_some, if_pos rfl, if_pos c, if_neg (by decide)]
    unfold f_Mo_arguments_L25
    rw [if_pos rfl, bndM_some]
    have ex : f_Mo_expect mo 61 = some (.inr (0, s_at mo (q_at mo + 1))) := by
      unfold f_Mo_expect
      rw [rs_sign hw.1 hq ha (s := 61) (by decide), if_pos c]
      first | rw [bndM_some, if_neg (by decide)] | rw [bnd_some, if_neg (by decide)]
    rw [ex, bndM_some]
    exact Sim_ret ⟨lb, ge, gp, a + 1, li, g, m, [], ⟨Wf_up hw (by omega) (by omega), by rw [List.append_nil]; exact c1, gM_inc hq, hd⟩, Fr_refl _ _ _ _, FrN_refl _ _, by rw [List.append_nil]; exact hO, by omega, by simp, by omega, by omega, trivial⟩
  · have en : f_Cu_nextArgument st 0 = some (.inr (1, st)) := by
      unfold f_Cu_nextArgument
      rw [if_pos rfl, cs_nacc hc c]
      first | rw [bndM_some, if_pos rfl] | rw [bnd_some, if_pos rfl]
    rw [en, bnd_some, if_neg (by decide), if_neg c, if_pos rfl]
    exact sm_args2 (S := S) (F := F) (start := start) (calls := calls) he 4999 4999 0 z p lo k v w bd tk gt co lb ge gp gq a li g m L st mo hR' hlb hL hm (by omega) (by omega) (by omega) hO hz1 hz2 hpm hlm
theorem sm_new (he : HC 1 2 XA (E 0 (nI (e + 1)) 1) (K 1 [nI (e + 1), 1]) (e + 1)) (h4 : HC 1 2 XT (E 12 (nI (e + 1)) 1) (fun q => bndM (f_Mo_deep q (nI (e + 1))) (fun _ q1 => K 4 [nI (e + 1), 0] q1)) (e + 1)) (hR : RR tk gt co lb ge gp gq a li g m L st mo) (hlb : lbn lb < e) (hee : e ≤ 100) (hL : L.length ≤ 2 * a + 2) (hm : m ≤ 2 * a + 2) (hs : f_Tk_keyword tk (nI a) = 15) :
    Sim (f_Pa_construction E S F st (nI e)) (f_Mo_newOne K mo (nI e)) (PX 1 (lbn lb) (XL (tk, co) a) tk gt co lb ge gp gq a g m L) := by
  obtain ⟨hw, hc, hq, hd⟩ := hR
  have hT := hw.1.1
  have ha := hw.2.1
  have hl := lt_of_word hT (by omega) hs (by decide)
  have hk := word_kind hT (by omega) hs (by decide)
  unfold f_Pa_construction f_Mo_newOne
  rw [rs_deep mo hee, bndM_some]
  obtain ⟨st1, e1, c1⟩ := cs_open hc (by omega) hT 39 0 (sAt st)
  rw [gC_at hc] at c1
  refine Sim_c e1 ?_
  obtain ⟨mo1, g1, e2, q1, o1, f1, d1⟩ := rs_make' hq hd (show m < 2600 by omega) 39 0 (q_at mo)
  refine Sim_m e2 ?_
  rw [gM_at hq] at o1
  rw [nI_1]
  have as : ∀ (x : MO) (d : Int32) (l : List Int32) (f : Int32 → MO → Rm), bndM (f_Mo_deep x d) (fun _ mo3 => bndM (K 4 l mo3) f) = bndM (bndM (f_Mo_deep x d) (fun _ mo3 => K 4 l mo3)) f := fun x d l f => (bndM_as _ _ _).symm
  rw [as]
  refine Sim_bind (h4 tk gt co lb ge gp gq (a + 1) li g1 (m + 1) _ _ _ ⟨Wf_up hw (by omega) (by omega), gC_inc c1, gM_inc q1, d1⟩ (by omega) (by simp; omega) (by omega)) ?_
  intro r st2 n mo2 h2
  obtain ⟨lb2, ge2, gp2, a2, li2, g2, m2, sg, n2, rfl, w2, c2, q2, d2, f2, fn2, o2, l1, l2, l3, l4, l5, l6, l7, _⟩ := PX_le h2
  have hO2 := Opn_fr (o1 (m + 1) (m + 1)) fn2 (Nat.le_refl _) (by omega)
  obtain ⟨mo3, g3, e3, q3, hO3, fn3, d3⟩ := rs_hang' q2 hO2 o2 (Nat.le_refl _) (Nat.le_refl _) (Or.inl (by omega))
  rw [d2] at d3
  refine Sim_m e3 ?_
  have fz : FrN g g3 m := FrN_trans (FrN_trans (f1 m (Nat.le_refl _)) fn2 (by omega)) (fn3 m (by omega) (Nat.le_refl _)) (Nat.le_refl _)
  rw [rs_sign w2.1 q3 l2 (s := 60) (by decide), bndM_some]
  have hll : (L ++ [(39, 0, nI a, (1 : Int32))] ++ sg).length = L.length + 1 + sg.length := by simp; omega
  by_cases c60 : f_Tk_sign tk (nI a2) = 60
  · have hl2 := lt_of_sign hT (by omega) c60 (by decide)
    obtain ⟨st4, e4, c4⟩ := cs_acc c2 c60
    refine Sim_c e4 ?_
    rw [if_neg (by decide), if_pos c60, if_neg (by decide)]
    unfold f_Mo_arguments
    have hA := sm_argl1 (S := S) (F := F) he (z := m) (p := m) (lo := m + 1) ⟨Wf_up w2 (by omega) (by omega), c4, gM_inc q3, d3⟩ (by rw [l3]; omega) (by omega) (by omega) hO3 (by omega) (Nat.le_refl _) (by omega) (by omega)
    refine Sim_bind hA ?_
    intro r5 st5 n5 mo5 h5
    obtain ⟨lb', ge', gp', a', li', g', m', sg', ⟨w', c', q', d'⟩, b2, b3, b4, b5, b6, b7, b8, _⟩ := h5
    have ha' := w'.2.1
    obtain ⟨st6, e6, c6⟩ := cs_close (pre := L) (k := 39) (v := 0) (w := nI a) (z := 1) (bd := sg ++ sg') c' (by simp) (by simp; omega) rfl
    refine Sim_c e6 ?_
    exact Sim_ret ⟨lb', ge', gp', a', li', g', m', _, m, rfl, ⟨w', c6, q', d'⟩, Fr_trans f2 b2 (by rw [l3]; exact Nat.le_refl _), FrN_trans fz b3 (Nat.le_refl _), by rw [List.nil_append] at b4; exact Opn_one b4 (by omega) (Nat.le_refl _) (Nat.le_refl _) (by omega), by omega, by simp; omega, by omega, XL_hk (by rw [hk]; decide) (by decide)⟩
  · refine Sim_c (cs_nacc c2 c60) ?_
    rw [if_pos rfl, if_neg c60, if_pos rfl]
    obtain ⟨st6, e6, c6⟩ := cs_close (pre := L) (k := 39) (v := 0) (w := nI a) (z := 1) (bd := sg) c2 (by simp) (by omega) rfl
    refine Sim_c e6 ?_
    exact Sim_ret ⟨lb2, ge2, gp2, a2, li2, g3, m2, _, m, rfl, ⟨w2, c6, q3, d3⟩, f2, fz, by rw [List.nil_append] at hO3; exact Opn_one hO3 (by omega) (Nat.le_refl _) (Nat.le_refl _) (by omega), by omega, by simp; omega, by omega, XL_hk (by rw [hk]; decide) (by decide)⟩
end PUN
