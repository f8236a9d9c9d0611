/-! the reading -/
theorem begin_ok (mo u : MO) : f_Mo_begin mo ≠ some (.inl u) := by
  unfold f_Mo_begin
  intro h
  cases h
theorem throwing_ok (m : MO) (a b : Int32) (u : MO) : f_Mo_throwing m a b ≠ some (.inl u) := by
  unfold f_Mo_throwing
  intro h
  split at h
  · split at h <;> cases h
  · cases h
theorem n53_ok : ∀ (fu : Nat) (a b : Int32) (m u : MO), f_Mo_numberAll_L53 fu a b m ≠ some (.inl u) := by
  intro fu
  induction fu with
  | zero => intro a b m u h; cases h
  | succ fu ih =>
    intro a b m u h
    unfold f_Mo_numberAll_L53 at h
    split at h
    · cases h
    · split at h
      · exact ih _ _ _ _ h
      · cases h
theorem n84_ok (e1 : Int32) : ∀ (fu : Nat) (a b : Int32) (m u : MO), f_Mo_numberAll_L84 e1 fu a b m ≠ some (.inl u) := by
  intro fu
  induction fu with
  | zero => intro a b m u h; cases h
  | succ fu ih =>
    intro a b m u h
    unfold f_Mo_numberAll_L84 at h
    split at h
    · cases h
    · split at h
      · split at h
        · exact ih _ _ _ _ h
        · cases h
      · cases h
theorem n124_ok : ∀ (fu : Nat) (a : Int32) (m u : MO), f_Mo_numberAll_L124 fu a m ≠ some (.inl u) := by
  intro fu
  induction fu with
  | zero => intro a m u h; cases h
  | succ fu ih =>
    intro a m u h
    unfold f_Mo_numberAll_L124 at h
    split at h
    · cases h
    · split at h
      · split at h
        · exact ih _ _ _ h
        · cases h
      · cases h
theorem bndM_inl {x : Rm} {k : Int32 → MO → Rm} (h1 : ∀ u, x ≠ some (.inl u)) (h2 : ∀ r m u, k r m ≠ some (.inl u)) (u : MO) : bndM x k ≠ some (.inl u) := by
  intro h
  match x, h1, h with
  | none, _, h => cases h
  | some (.inl v), h1, _ => exact h1 v rfl
  | some (.inr (r, m)), _, h => exact h2 r m u h
theorem n9_ok : ∀ (fu : Nat) (a : Int32) (m u : MO), f_Mo_numberAll_L9 fu a m ≠ some (.inl u) := by
  intro fu
  induction fu with
  | zero => intro a m u h; cases h
  | succ fu ih =>
    intro a m u h
    unfold f_Mo_numberAll_L9 at h
    split at h
    · cases h
    · split at h
      · split at h
        · split at h
          · exact bndM_inl (fun u => n53_ok _ _ _ _ u) (fun r m u => bndM_inl (fun u => n84_ok _ _ _ _ _ u) (fun r m u => ih _ _ u) u) u h
          · cases h
        · cases h
      · cases h
theorem numberAll_ok (m u : MO) : f_Mo_numberAll m ≠ some (.inl u) := by
  unfold f_Mo_numberAll
  intro h
  split at h
  · exact bndM_inl (fun u => n9_ok _ _ _ u) (fun r m u => bndM_inl (fun u => n124_ok _ _ _ u) (fun r m u h => by cases h) u) u h
  · cases h
/-- both refuse the tokens at one place, or both make the tree -/
theorem q_read {st : ST} {mo : MO} (hst : okSt st) (hR : TkR (sTk st) mo.1) (hbc : 3 * tkn (sTk st) + 10 ≤ bC st) (hbs : 8 * (2 * (2 * tkn (sTk st) + 8)) + 5 * tkn (sTk st) + 11 ≤ bS st) :
    (∃ p c s mo', f_parse st = some (.inl (p, c, s)) ∧ ¬ p = -1 ∧ f_readM mo = some (.inr (0, mo')) ∧ q_thrown mo' = 1 ∧ q_place mo' = p ∧ q_nodes mo' = 0 ∧ q_count mo' = 0) ∨
    (∃ st1 mo', f_parse st = some (.inr (-1, st1)) ∧ f_readM mo = some (.inr (f_Tr_count (sTr st1), mo')) ∧ q_thrown mo' = 0 ∧ q_place mo' = -1 ∧ TrR (sTr st1) mo' ∧ q_count mo' = 0) := by
  rcases sm_parse hst hR rfl hbc hbs with ⟨p, c, s, m1, h1, h2, h3, h4⟩ | ⟨r, st1, n, m1, h1, h2, h3⟩
  · left
    have e : f_readM mo = some (.inr (0, s_nodes (s_thrown (s_count m1 0) 1) 0)) := by
      unfold f_readM f_isProg
      rw [h2]
      rfl
    exact ⟨p, c, s, _, h1, h4, e, rfl, h3, rfl, rfl⟩
  · right
    obtain ⟨rfl, e1, L, e2, e3, e4, e5, e6, m, e7, e8⟩ := h3
    have hO : One (s_thrown (s_count m1 0) 0).2.1 0 L 0 m := e8
    have hn0 : q_nodes (s_thrown (s_count m1 0) 0) = 0 := by show m1.2.2.1.2.2 = 0; rw [e5]
    obtain ⟨ord, num, NS, f1, f2, f3, f4, f5, q, bd, ns, f6, f7, f8⟩ := nu_all (mo := s_thrown (s_count m1 0) 0) rfl hO e7 hn0
    have e : f_readM mo = some (.inr (nI L.length, s_number (s_nodes (s_order (s_thrown (s_count m1 0) 0) ord) (nI L.length)) num)) := by
      unfold f_readM f_isProg
      rw [h2]
      show bndM (f_Mo_throwing (s_count m1 0) 0 0) (fun t m2 => if t = 0 then bndM (f_Mo_numberAll m2) (fun _ m3 => some (.inr (q_nodes m3, m3))) else some (.inr (0, s_nodes m2 0))) = _
      have t0 : f_Mo_throwing (s_count m1 0) 0 0 = some (.inr (0, s_thrown (s_count m1 0) 0)) := rfl
      rw [t0, bndM_some, if_pos rfl, f1, bndM_some]
    have ec : f_Tr_count (sTr st1) = nI L.length := by unfold f_Tr_count; rw [e2.1]
    refine ⟨st1, s_number (s_nodes (s_order (s_thrown (s_count m1 0) 0) ord) (nI L.length)) num, h1, by rw [ec]; exact e, rfl, e6, ⟨L, NS, q + 1, nI 0, e2, ?_, rfl, e3, f5⟩, rfl⟩
    refine Or.inr ⟨0, bd, [], ns, [], rfl, by omega, ?_, ?_, f6, ?_⟩
    · rw [f7, List.append_nil]
    · rw [f8, List.append_nil]
    · have hx : nX m1.2.1 0 = -1 := e8.2.1
      cases q with
      | zero => exact f6.elim
      | succ q => exact Or.inl ⟨hx, rfl, rfl⟩
