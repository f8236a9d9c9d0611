/-! what ties the two between the law's calls -/
def LI (u : UY) (mo : MO) : Prop := okSt (uS u) ∧ TkR (sTk (uS u)) mo.1 ∧ TrR (sTr (uS u)) mo ∧ uR u = q_place mo
theorem TrR_nil {tr : TR} {mo : MO} (h1 : trn tr = 0) (h2 : q_nodes mo = 0) : TrR tr mo := ⟨[], [], 1, -1, ⟨h1, fun i hi => absurd hi (by simp)⟩, Or.inl ⟨rfl, rfl, rfl⟩, h2, by simp, fun j i h => absurd h (by simp)⟩
theorem TkR_nil {tk : TK} {gt : gT} (h1 : tkn tk = 0) (h2 : gt.2.2.2.2 = 0) : TkR tk gt := ⟨by omega, by rw [h2, h1]; rfl, fun i hi => by omega⟩
abbrev poT (u0 : UY) (kind word name line : Int32) : Int32 → UY → Prop := fun r u => ¬ f_Tk_known kind word name = 0 ∧ tkn (sTk (uS u0)) < 1000 ∧ r = nI (tkn (sTk (uS u0)) + 1) ∧ ∃ a9 : AD, u = (a9, u0.2.1, u0.2.2.1, setTk (uS u0) (k_add (sTk (uS u0)) kind word name line), uR u0)
abbrev pxT (u0 : UY) (kind word name : Int32) : String → UY → Prop := fun E u => ((E = IAE ∧ f_Tk_known kind word name = 0) ∨ (E = ISE ∧ ¬ f_Tk_known kind word name = 0 ∧ 1000 ≤ tkn (sTk (uS u0)))) ∧ u = u0
theorem ne_12 : ¬ IAE = ISE := by decide
theorem ne_13 : ¬ IAE = IOB := by decide
theorem tok_fin {u : UY} {mo : MO} (hLI : LI u mo) (k w n b : Int32) (hb : b = 0 ∨ b = 1) {r : Int32} {u1 : UO} (hp : (r = 0 ∧ ∃ v, poT u k w n b v u1.2 ∧ u1.1 0 = v.toInt64) ∨ (r = 1 ∧ pxT u k w n IAE u1.2) ∨ (r = 2 ∧ pxT u k w n ISE u1.2)) :
    ∃ vM moM, f_Mo_token mo k w n b = some (.inr (vM, moM)) ∧ q_thrown moM = r ∧ (r = 0 → u1.1 0 = vM.toInt64) ∧ LI u1.2 moM ∧ tkn (sTk (uS u1.2)) ≤ tkn (sTk (uS u)) + 1 := by
  obtain ⟨h1, h2, h3, h4⟩ := hLI
  rcases q_token h1.1.1 h2 k w n b hb with ⟨q1, q2⟩ | ⟨q1, q2, q3⟩ | ⟨q1, q2, gt, q3, q4⟩
  · rcases hp with ⟨rfl, v, p1, p2⟩ | ⟨rfl, p1, p2⟩ | ⟨rfl, p1, p2⟩
    · exact absurd q1 p1.1
    · refine ⟨0, _, q2, rfl, fun h => absurd h (by decide), ?_, by rw [p2]; omega⟩
      rw [p2]; exact ⟨h1, h2, h3, h4⟩
    · rcases p1 with ⟨p1, _⟩ | ⟨_, p1, _⟩
      · exact absurd p1.symm ne_12
      · exact absurd q1 p1
  · rcases hp with ⟨rfl, v, p1, p2⟩ | ⟨rfl, p1, p2⟩ | ⟨rfl, p1, p2⟩
    · exact absurd p1.2.1 (by omega)
    · rcases p1 with ⟨_, p1⟩ | ⟨p1, _⟩
      · exact absurd p1 q1
      · exact absurd p1 ne_12
    · refine ⟨0, _, q3, rfl, fun h => absurd h (by decide), ?_, by rw [p2]; omega⟩
      rw [p2]; exact ⟨h1, h2, h3, h4⟩
  · rcases hp with ⟨rfl, v, p1, p2⟩ | ⟨rfl, p1, p2⟩ | ⟨rfl, p1, p2⟩
    · obtain ⟨_, _, p3, a9, p4⟩ := p1
      refine ⟨_, _, q3, rfl, fun _ => by rw [p2, p3], ?_, ?_⟩
      · rw [p4]
        exact ⟨⟨k_add_ok k w n b h1.1 q2, h1.2⟩, q4, h3, h4⟩
      · rw [p4]
        exact Nat.le_refl _
    · rcases p1 with ⟨_, p1⟩ | ⟨p1, _⟩
      · exact absurd p1 q1
      · exact absurd p1 ne_12
    · rcases p1 with ⟨p1, _⟩ | ⟨_, _, p1⟩
      · exact absurd p1.symm ne_12
      · exact absurd p1 (by omega)
/-- the budgets are mine to set -/
abbrev bud (u : UY) (c s : Nat) : UY := (u.1, u.2.1, u.2.2.1, setB (uS u) c s, uR u)
abbrev poR (u0 : UY) : Int32 → UY → Prop := fun r u => ∃ st1 : ST, f_parse (uS u0) = some (.inr (-1, st1)) ∧ r = f_Tr_count (sTr st1) ∧ uR u = -1 ∧ uS u = setTk st1 (k_clear (sTk st1)) ∧ okSt (uS u)
abbrev pxR (u0 : UY) : String → UY → Prop := fun E u => E = IAE ∧ okSt (uS u) ∧ tkn (sTk (uS u)) = 0 ∧ trn (sTr (uS u)) = 0 ∧ ∃ c9 s9 : Nat, f_parse (uS u0) = some (.inl (uR u, c9, s9))
theorem read_pre {u : UY} {mo : MO} (hLI : LI u mo) (c s : Nat) (hc : 3 * tkn (sTk (uS u)) + 10 ≤ c) (hs : 37 * tkn (sTk (uS u)) + 139 ≤ s) :
    f_parse (uS (bud u c s)) ≠ none ∧ (∀ q, f_parse (uS (bud u c s)) = some (.inl q) → ¬ q.1 = -1) ∧ (∀ q, f_parse (uS (bud u c s)) = some (.inr q) → q.1 = -1) ∧ f_readM mo ≠ none := by
  obtain ⟨h1, h2, h3, h4⟩ := hLI
  have hst : okSt (uS (bud u c s)) := h1
  rcases q_read (st := uS (bud u c s)) (mo := mo) hst h2 hc (show 8 * (2 * (2 * tkn (sTk (uS u)) + 8)) + 5 * tkn (sTk (uS u)) + 11 ≤ s by omega) with ⟨p, c9, s9, mo', e1, e2, e3, _⟩ | ⟨st1, mo', e1, e2, _⟩
  · refine ⟨by rw [e1]; exact Option.some_ne_none _, fun q hq => ?_, fun q hq => ?_, by rw [e3]; exact Option.some_ne_none _⟩
    · rw [e1] at hq; cases hq; exact e2
    · rw [e1] at hq; cases hq
  · refine ⟨by rw [e1]; exact Option.some_ne_none _, fun q hq => ?_, fun q hq => ?_, by rw [e2]; exact Option.some_ne_none _⟩
    · rw [e1] at hq; cases hq
    · rw [e1] at hq; cases hq; rfl
theorem read_fin {u : UY} {mo : MO} (hLI : LI u mo) (c s : Nat) (hc : 3 * tkn (sTk (uS u)) + 10 ≤ c) (hs : 37 * tkn (sTk (uS u)) + 139 ≤ s) {r : Int32} {u1 : UO} (hp : (r = 0 ∧ ∃ v, poR (bud u c s) v u1.2 ∧ u1.1 0 = v.toInt64) ∨ (r = 1 ∧ pxR (bud u c s) IAE u1.2)) :
    ∃ vM moM, f_readM mo = some (.inr (vM, moM)) ∧ q_thrown moM = r ∧ (r = 0 → u1.1 0 = vM.toInt64) ∧ LI u1.2 moM ∧ tkn (sTk (uS u1.2)) = 0 := by
  obtain ⟨h1, h2, h3, h4⟩ := hLI
  have hst : okSt (uS (bud u c s)) := h1
  rcases q_read (st := uS (bud u c s)) (mo := mo) hst h2 hc (show 8 * (2 * (2 * tkn (sTk (uS u)) + 8)) + 5 * tkn (sTk (uS u)) + 11 ≤ s by omega) with ⟨p, c9, s9, mo', e1, e2, e3, e4, e5, e6, e7⟩ | ⟨st1, mo', e1, e2, e3, e4, e5, e6⟩
  · rcases hp with ⟨rfl, v, ⟨st1, p1, _⟩, _⟩ | ⟨rfl, _, p2, p3, p4, c8, s8, p5⟩
    · rw [e1] at p1; cases p1
    · rw [e1] at p5
      cases p5
      exact ⟨0, mo', e3, e4, fun h => absurd h (by decide), ⟨p2, TkR_nil p3 e7, TrR_nil p4 e6, e5.symm⟩, p3⟩
  · rcases hp with ⟨rfl, v, ⟨st2, p1, p2, p3, p4, p5⟩, p6⟩ | ⟨rfl, _, p2, p3, p4, c8, s8, p5⟩
    · rw [e1] at p1
      cases p1
      have et : tkn (sTk (uS u1.2)) = 0 := by rw [p4]; rfl
      refine ⟨_, mo', e2, e3, fun _ => by rw [p6, p2], ⟨p5, TkR_nil et e6, ?_, p3.trans e4.symm⟩, et⟩
      rw [p4]; exact e5
    · rw [e1] at p5; cases p5
abbrev poNd (u0 : UY) (k what v : Int32) : Int32 → UY → Prop := fun r u => ¬ what < 0 ∧ ¬ 3 < what ∧ ¬ f_Tr_has (sTr (uS u0)) k = 0 ∧ r = (if what = 0 then f_Tr_kind (sTr (uS u0)) k else if what = 1 then v else if what = 2 then f_Tr_value (sTr (uS u0)) k else f_Tr_where (sTr (uS u0)) k) ∧ u = u0
abbrev pxNd (u0 : UY) (k what : Int32) : String → UY → Prop := fun E u => ((E = IAE ∧ (what < 0 ∨ 3 < what)) ∨ (E = IOB ∧ ¬ what < 0 ∧ ¬ 3 < what ∧ f_Tr_has (sTr (uS u0)) k = 0)) ∧ u = u0
theorem node_fin {u : UY} {mo : MO} (hLI : LI u mo) (k what v : Int32) (hv : f_Tr_children (sTr (uS u)) k = some v) {r : Int32} {u1 : UO} (hp : (r = 0 ∧ ∃ w, poNd u k what v w u1.2 ∧ u1.1 0 = w.toInt64) ∨ (r = 1 ∧ pxNd u k what IAE u1.2) ∨ (r = 2 ∧ pxNd u k what IOB u1.2)) :
    ∃ vM moM, f_Mo_node mo k what = some (.inr (vM, moM)) ∧ q_thrown moM = r ∧ (r = 0 → u1.1 0 = vM.toInt64) ∧ LI u1.2 moM ∧ u1.2 = u := by
  obtain ⟨h1, h2, h3, h4⟩ := hLI
  rcases q_node h3 k what v hv with ⟨q1, q2⟩ | ⟨q1, q2, q3, q4⟩ | ⟨q1, q2, q3, q4⟩
  · rcases hp with ⟨rfl, w, p1, p2⟩ | ⟨rfl, p1, p2⟩ | ⟨rfl, p1, p2⟩
    · rcases q1 with q1 | q1
      · exact absurd q1 p1.1
      · exact absurd q1 p1.2.1
    · exact ⟨0, _, q2, rfl, fun h => absurd h (by decide), by rw [p2]; exact ⟨h1, h2, h3, h4⟩, p2⟩
    · rcases p1 with ⟨p1, _⟩ | ⟨_, p1, p3, _⟩
      · exact absurd p1.symm ne_13
      · rcases q1 with q1 | q1
        · exact absurd q1 p1
        · exact absurd q1 p3
  · rcases hp with ⟨rfl, w, p1, p2⟩ | ⟨rfl, p1, p2⟩ | ⟨rfl, p1, p2⟩
    · exact absurd q3 p1.2.2.1
    · rcases p1 with ⟨_, p1 | p1⟩ | ⟨p1, _⟩
      · exact absurd p1 q1
      · exact absurd p1 q2
      · exact absurd p1 ne_13
    · exact ⟨0, _, q4, rfl, fun h => absurd h (by decide), by rw [p2]; exact ⟨h1, h2, h3, h4⟩, p2⟩
  · rcases hp with ⟨rfl, w, ⟨_, _, _, p3, p4⟩, p2⟩ | ⟨rfl, p1, p2⟩ | ⟨rfl, p1, p2⟩
    · exact ⟨_, _, q4, rfl, fun _ => by rw [p2, p3], by rw [p4]; exact ⟨h1, h2, h3, h4⟩, p4⟩
    · rcases p1 with ⟨_, p1 | p1⟩ | ⟨p1, _⟩
      · exact absurd p1 q1
      · exact absurd p1 q2
      · exact absurd p1 ne_13
    · rcases p1 with ⟨p1, _⟩ | ⟨_, _, _, p1⟩
      · exact absurd p1.symm ne_13
      · exact absurd p1 q3
abbrev poC (u0 : UY) (v : Int32) : Int32 → UY → Prop := fun r u => r = v ∧ ¬ v = -1 ∧ u = u0
abbrev pxC (u0 : UY) (v : Int32) : String → UY → Prop := fun E u => E = IOB ∧ v = -1 ∧ u = u0
theorem child_fin {u : UY} {mo : MO} (hLI : LI u mo) (k i v : Int32) (hv : f_Tr_part (sTr (uS u)) k i = some v) {r : Int32} {u1 : UO} (hp : (r = 0 ∧ ∃ w, poC u v w u1.2 ∧ u1.1 0 = w.toInt64) ∨ (r = 1 ∧ pxC u v IOB u1.2)) :
    ∃ vM moM, f_Mo_child mo k i = some (.inr (vM, moM)) ∧ q_thrown moM = r ∧ (r = 0 → u1.1 0 = vM.toInt64) ∧ LI u1.2 moM ∧ u1.2 = u := by
  obtain ⟨h1, h2, h3, h4⟩ := hLI
  rcases q_child h3 k i with ⟨q1, q2⟩ | ⟨v', q0, q1, q2⟩
  · rw [hv] at q1
    cases q1
    rcases hp with ⟨rfl, w, p1, p2⟩ | ⟨rfl, _, p1, p2⟩
    · exact absurd rfl p1.2.1
    · exact ⟨0, _, q2, rfl, fun h => absurd h (by decide), by rw [p2]; exact ⟨h1, h2, h3, h4⟩, p2⟩
  · rw [hv] at q1
    cases q1
    rcases hp with ⟨rfl, w, ⟨p1, _, p3⟩, p2⟩ | ⟨rfl, _, p1, p2⟩
    · exact ⟨_, _, q2, rfl, fun _ => by rw [p2, p1], by rw [p3]; exact ⟨h1, h2, h3, h4⟩, p3⟩
    · exact absurd p1 q0
theorem part_some {u : UY} {mo : MO} (hLI : LI u mo) (k i : Int32) : ∃ v, f_Tr_part (sTr (uS u)) k i = some v := by
  rcases q_child hLI.2.2.1 k i with ⟨q1, q2⟩ | ⟨v', q0, q1, q2⟩
  · exact ⟨_, q1⟩
  · exact ⟨_, q1⟩
theorem place_fin {u : UY} {mo : MO} (hLI : LI u mo) : f_Mo_place mo = some (.inr (uR u, s_thrown mo 0)) ∧ LI u (s_thrown mo 0) := by
  obtain ⟨h1, h2, h3, h4⟩ := hLI
  exact ⟨by unfold f_Mo_place; rw [h4], h1, h2, h3, h4⟩
