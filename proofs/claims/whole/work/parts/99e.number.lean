/-! the numbering in the reference: the order of the tree's list -/
/-- along next from c on stand ks -/
def Ch (g : gN) : Int32 → List Nat → Prop
  | c, [] => c = -1
  | c, i :: ks => c = nI i ∧ i < 2600 ∧ Ch g (nX g i) ks
/-- the trees of the nodes of a list, one behind the other, have the nodes R -/
def Stk (g : gN) : List Nat → List Nat → Prop
  | [], R => R = []
  | i :: ks, R => i < 2600 ∧ ∃ q bd n1 R', Fo g q (nF g i) bd n1 ∧ R = i :: (n1 ++ R') ∧ Stk g ks R'
theorem Stk_app {g : gN} : ∀ {a b ra rb : List Nat}, Stk g a ra → Stk g b rb → Stk g (a ++ b) (ra ++ rb) := by
  intro a
  induction a with
  | nil => intro b ra rb h1 h2; have h1 : ra = [] := h1; subst h1; exact h2
  | cons i ks ih =>
    intro b ra rb h1 h2
    obtain ⟨h3, q, bd, n1, R', h4, h5, h6⟩ := h1
    refine ⟨h3, q, bd, n1, R' ++ rb, h4, ?_, ih h6 h2⟩
    rw [h5]; simp
theorem Stk_len {g : gN} : ∀ {a ra : List Nat}, Stk g a ra → a.length ≤ ra.length := by
  intro a
  induction a with
  | nil => intro ra h; exact Nat.zero_le _
  | cons i ks ih =>
    intro ra h
    obtain ⟨h3, q, bd, n1, R', h4, h5, h6⟩ := h
    have := ih h6
    rw [h5]; simp; omega
theorem Fo_kids {g : gN} : ∀ {k : Nat} {c : Int32} {b : List Nd} {ns : List Nat}, Fo g k c b ns → ∃ ks, Ch g c ks ∧ Stk g ks ns := by
  intro k
  induction k with
  | zero => intro c b ns h; exact h.elim
  | succ k ih =>
    intro c b ns h
    rcases h with ⟨rfl, rfl, rfl⟩ | ⟨i, bd, rs, n1, n2, h1, h2, rfl, rfl, h5, h6⟩
    · exact ⟨[], rfl, rfl⟩
    · obtain ⟨ks, e1, e2⟩ := ih h6
      exact ⟨i :: ks, ⟨h1, h2, e1⟩, h2, k, bd, n1, n2, h5, rfl, e2⟩
theorem Ch_neg {g : gN} {c : Int32} {ks : List Nat} (h : Ch g c ks) : (c < 0) ↔ ks = [] := by
  cases ks with
  | nil =>
    have h : c = -1 := h
    subst h
    exact ⟨fun _ => rfl, fun _ => by decide⟩
  | cons i ks =>
    obtain ⟨rfl, h2, _⟩ := h
    exact ⟨fun e => absurd e (nI_pos (by omega)), fun e => absurd e (by simp)⟩
theorem nu_53 {g : gN} {mo : MO} (hg : mo.2.1 = g) : ∀ (ks : List Nat) (c : Int32) (fu x : Nat), Ch g c ks → ks.length < fu → f_Mo_numberAll_L53 fu (nI x) c mo = some (.inr (nI (x + ks.length), mo)) := by
  intro ks
  induction ks with
  | nil =>
    intro c fu x h hf
    obtain ⟨fu', rfl⟩ : ∃ z, fu = z + 1 := ⟨fu - 1, by simp at hf; omega⟩
    unfold f_Mo_numberAll_L53
    rw [if_pos ((Ch_neg h).mpr rfl)]; rfl
  | cons i ks ih =>
    intro c fu x h hf
    obtain ⟨fu', rfl⟩ : ∃ z, fu = z + 1 := ⟨fu - 1, by simp at hf; omega⟩
    unfold f_Mo_numberAll_L53
    rw [if_neg (fun e => absurd ((Ch_neg h).mp e) (by simp))]
    obtain ⟨rfl, h2, h3⟩ := h
    have hx : q_next mo i = nX g i := by rw [← hg]
    rw [if_pos (inbN h2), clN h2, hx, nI_1, ih _ fu' (x + 1) h3 (by simp at hf; omega)]
    have e : x + 1 + ks.length = x + (i :: ks).length := by simp; omega
    rw [e]
theorem co_9 {g : gN} {mo : MO} (hg : mo.2.1 = g) (n : Int32) : ∀ (ks : List Nat) (c : Int32) (fu x : Nat), Ch g c ks → ks.length < fu → f_Mo_childrenOf_L9 n fu (nI x) c mo = some (.inr (nI (x + ks.length), mo)) := by
  intro ks
  induction ks with
  | nil =>
    intro c fu x h hf
    obtain ⟨fu', rfl⟩ : ∃ z, fu = z + 1 := ⟨fu - 1, by simp at hf; omega⟩
    unfold f_Mo_childrenOf_L9
    rw [if_pos ((Ch_neg h).mpr rfl)]; rfl
  | cons i ks ih =>
    intro c fu x h hf
    obtain ⟨fu', rfl⟩ : ∃ z, fu = z + 1 := ⟨fu - 1, by simp at hf; omega⟩
    unfold f_Mo_childrenOf_L9
    rw [if_neg (fun e => absurd ((Ch_neg h).mp e) (by simp))]
    obtain ⟨rfl, h2, h3⟩ := h
    have hx : q_next mo i = nX g i := by rw [← hg]
    rw [if_pos (inbN h2), clN h2, hx, nI_1, ih _ fu' (x + 1) h3 (by simp at hf; omega)]
    have e : x + 1 + ks.length = x + (i :: ks).length := by simp; omega
    rw [e]
/-- the stack, its top first -/
def StN (num : Nat → Int32) : List Nat → Prop
  | [] => True
  | i :: st => num st.length = nI i ∧ StN num st
theorem StN_ag {num num' : Nat → Int32} : ∀ {st : List Nat}, StN num st → (∀ i, i < st.length → num' i = num i) → StN num' st := by
  intro st
  induction st with
  | nil => intro _ _; trivial
  | cons i st ih =>
    intro h ha
    exact ⟨(ha _ (by simp)).trans h.1, ih h.2 (fun j hj => ha j (by simp; omega))⟩
theorem nu_84 {g : gN} : ∀ (ks : List Nat) (c : Int32) (fu : Nat) (st : List Nat) (mo : MO), mo.2.1 = g → Ch g c ks → ks.length < fu → st.length + ks.length ≤ 2600 → StN (q_number mo) st → ∃ num, f_Mo_numberAll_L84 (nI st.length) fu (nI ks.length) c mo = some (.inr (0, s_number mo num)) ∧ StN num (ks ++ st) ∧ ∀ i, st.length + ks.length ≤ i → num i = q_number mo i := by
  intro ks
  induction ks with
  | nil =>
    intro c fu st mo hg h hf hb hs
    obtain ⟨fu', rfl⟩ : ∃ z, fu = z + 1 := ⟨fu - 1, by simp at hf; omega⟩
    refine ⟨q_number mo, ?_, hs, fun _ _ => rfl⟩
    unfold f_Mo_numberAll_L84
    rw [if_pos ((Ch_neg h).mpr rfl)]
  | cons i ks ih =>
    intro c fu st mo hg h hf hb hs
    obtain ⟨fu', rfl⟩ : ∃ z, fu = z + 1 := ⟨fu - 1, by simp at hf; omega⟩
    have hlk : (i :: ks).length = ks.length + 1 := rfl
    rw [hlk] at hb hf
    have e1 : nI (ks.length + 1) + (-1) = nI ks.length := by rw [sub1, nI_pred]
    have e2 : nI st.length + nI ks.length = nI (st.length + ks.length) := nI_add _ _
    have hn := (Ch_neg h)
    obtain ⟨rfl, h2, h3⟩ := h
    have hx : q_next mo i = nX g i := by rw [← hg]
    have hs1 : StN (q_number (s_number mo (upd (q_number mo) (st.length + ks.length) (nI i)))) st := StN_ag hs (fun j hj => up_ne (by omega))
    obtain ⟨num, f1, f2, f3⟩ := ih (nX g i) fu' st (s_number mo (upd (q_number mo) (st.length + ks.length) (nI i))) hg h3 (by omega) (by omega) hs1
    refine ⟨num, ?_, ⟨?_, f2⟩, fun j hj => ?_⟩
    · unfold f_Mo_numberAll_L84
      rw [if_neg (fun e => absurd (hn.mp e) (by simp)), hlk, e1, e2, if_pos (inbN (by omega)), if_pos (inbN h2), clN h2, hx, clN (by omega), f1]
    · have e : (ks ++ st).length = st.length + ks.length := by rw [List.length_append, Nat.add_comm]
      show num (ks ++ st).length = nI i
      rw [e, f3 _ (Nat.le_refl _)]
      exact up_eq
    · rw [f3 j (by simp at hj; omega)]
      exact up_ne (by simp at hj; omega)
theorem nu_9 {g : gN} : ∀ (R : List Nat) (fu : Nat) (st V : List Nat) (mo : MO), mo.2.1 = g → Stk g st R → StN (q_number mo) st → q_nodes mo = nI V.length → (∀ j x, V[j]? = some x → q_order mo j = nI x) → V.length + R.length ≤ 2599 → R.length < fu →
    ∃ ord num, f_Mo_numberAll_L9 fu (nI st.length) mo = some (.inr (0, s_number (s_nodes (s_order mo ord) (nI (V ++ R).length)) num)) ∧ ∀ j x, (V ++ R)[j]? = some x → ord j = nI x := by
  intro R fu
  induction fu generalizing R with
  | zero => intro st V mo _ _ _ _ _ _ h; omega
  | succ fu ih =>
    intro st V mo hg hS hN hn ho hb hf
    cases st with
    | nil =>
      have hS : R = [] := hS
      subst hS
      refine ⟨q_order mo, q_number mo, ?_, ?_⟩
      · unfold f_Mo_numberAll_L9
        rw [if_pos (show nI ([] : List Nat).length ≤ 0 by decide), List.append_nil, ← hn]
      · rw [List.append_nil]; exact ho
    | cons i st =>
      obtain ⟨h2, q, bd, n1, R', h4, rfl, h6⟩ := hS
      obtain ⟨ks, k1, k2⟩ := Fo_kids h4
      have hlk : (i :: st).length = st.length + 1 := rfl
      have hlR : (i :: (n1 ++ R')).length = n1.length + R'.length + 1 := by simp
      rw [hlR] at hb hf
      have l1 := Stk_len h6
      have l2 := Stk_len k2
      have e1 : nI (st.length + 1) + (-1) = nI st.length := by rw [sub1, nI_pred]
      have eN : q_number mo st.length = nI i := hN.1
      have ef : q_first mo i = nF g i := by rw [← hg]
      unfold f_Mo_numberAll_L9
      have hx : ¬ nI (st.length + 1) ≤ 0 := nI_ge (a := 0) (by omega) (by omega)
      rw [hlk, if_neg hx, e1, if_pos (inbN (by omega)), hn, if_pos (inbN (by omega)), clN (show st.length < 2600 by omega), eN, if_pos (inbN h2), clN h2, ef, clN (show V.length < 2600 by omega), nI_1]
      have g1 : (s_nodes (s_order mo (upd (q_order mo) V.length (nI i))) (nI (V.length + 1))).2.1 = g := hg
      have e53 := nu_53 g1 ks (nF g i) 5000 0 k1 (by omega)
      rw [Nat.zero_add] at e53
      have z0 : (0 : Int32) = nI 0 := rfl
      rw [z0, e53, bndM_some]
      have ef2 : q_first (s_nodes (s_order mo (upd (q_order mo) V.length (nI i))) (nI (V.length + 1))) i = nF g i := by rw [← hg]
      rw [ef2]
      obtain ⟨num, f1, f2, f3⟩ := nu_84 ks (nF g i) 5000 st (s_nodes (s_order mo (upd (q_order mo) V.length (nI i))) (nI (V.length + 1))) hg k1 (by omega) (by omega) hN.2
      rw [f1, bndM_some]
      have e3 : nI st.length + nI ks.length = nI (ks ++ st).length := by rw [nI_add, List.length_append, Nat.add_comm]
      rw [e3]
      have hv : (V ++ [i]).length = V.length + 1 := by simp
      have hord : ∀ j x, (V ++ [i])[j]? = some x → q_order (s_number (s_nodes (s_order mo (upd (q_order mo) V.length (nI i))) (nI (V.length + 1))) num) j = nI x := by
        intro j x hj
        show upd (q_order mo) V.length (nI i) j = nI x
        by_cases c : j = V.length
        · subst c
          rw [up_eq]
          have : (V ++ [i])[V.length]? = some i := by simp
          rw [this] at hj
          rw [Option.some.inj hj]
        · rw [up_ne c]
          refine ho j x ?_
          have hl : j < (V ++ [i]).length := by
            rcases Nat.lt_or_ge j (V ++ [i]).length with h | h
            · exact h
            · rw [List.getElem?_eq_none h] at hj; exact absurd hj (by simp)
          rw [hv] at hl
          rw [List.getElem?_append_left (by omega)] at hj
          exact hj
      obtain ⟨ord, num2, f4, f5⟩ := ih (n1 ++ R') (ks ++ st) (V ++ [i]) (s_number (s_nodes (s_order mo (upd (q_order mo) V.length (nI i))) (nI (V.length + 1))) num) hg (Stk_app k2 h6) f2 (by rw [hv]) hord (by rw [hv, List.length_append]; omega) (by rw [List.length_append]; omega)
      refine ⟨ord, num2, ?_, fun j x hj => f5 j x ?_⟩
      · rw [f4]
        have : (V ++ [i] ++ (n1 ++ R')).length = (V ++ i :: (n1 ++ R')).length := by simp
        rw [this]
        rfl
      · rw [← hj]; simp
theorem nu_124 : ∀ (q fu x : Nat) (NS : List Nat) (mo : MO), NS.Nodup → (∀ i, i ∈ NS → i < 2600) → NS.length ≤ 2599 → q_nodes mo = nI NS.length → (∀ j i, NS[j]? = some i → q_order mo j = nI i) → x ≤ NS.length → NS.length - x = q → q < fu → (∀ j i, j < x → NS[j]? = some i → q_number mo i = nI j) →
    ∃ num, f_Mo_numberAll_L124 fu (nI x) mo = some (.inr (0, s_number mo num)) ∧ ∀ j i, NS[j]? = some i → num i = nI j := by
  intro q
  induction q with
  | zero =>
    intro fu x NS mo h1 h2 h3 h4 h5 h6 h7 h8 h9
    obtain ⟨fu', rfl⟩ : ∃ z, fu = z + 1 := ⟨fu - 1, by omega⟩
    refine ⟨q_number mo, ?_, fun j i hj => h9 j i ?_ hj⟩
    · unfold f_Mo_numberAll_L124
      rw [h4, if_pos (nI_le (by omega) (by omega))]
    · rcases Nat.lt_or_ge j NS.length with h | h
      · omega
      · rw [List.getElem?_eq_none h] at hj; exact absurd hj (by simp)
  | succ q ih =>
    intro fu x NS mo h1 h2 h3 h4 h5 h6 h7 h8 h9
    obtain ⟨fu', rfl⟩ : ∃ z, fu = z + 1 := ⟨fu - 1, by omega⟩
    have hx : x < NS.length := by omega
    have hxe : NS[x]? = some NS[x] := List.getElem?_eq_getElem hx
    have hb : NS[x] < 2600 := h2 _ (List.getElem_mem hx)
    have eo := h5 x _ hxe
    have hnx : ∀ j i, j < x + 1 → NS[j]? = some i → q_number (s_number mo (upd (q_number mo) NS[x] (nI x))) i = nI j := by
      intro j i hj hji
      show upd (q_number mo) NS[x] (nI x) i = nI j
      by_cases c : i = NS[x]
      · subst c
        rw [up_eq]
        have hjl : j < NS.length := by omega
        rw [List.getElem?_eq_getElem hjl] at hji
        have he := Option.some.inj hji
        have hpw := List.pairwise_iff_getElem.mp h1
        by_cases c1 : j < x
        · exact absurd he (hpw j x hjl hx c1)
        · by_cases c2 : x < j
          · exact absurd he.symm (hpw x j hx hjl c2)
          · rw [show x = j by omega]
      · rw [up_ne c]
        refine h9 j i ?_ hji
        by_cases cj : j = x
        · subst cj
          rw [hxe] at hji
          exact absurd (Option.some.inj hji).symm c
        · omega
    obtain ⟨num, f1, f2⟩ := ih fu' (x + 1) NS (s_number mo (upd (q_number mo) NS[x] (nI x))) h1 h2 h3 h4 h5 (by omega) (by omega) (by omega) hnx
    refine ⟨num, ?_, f2⟩
    unfold f_Mo_numberAll_L124
    rw [h4, if_neg (nI_ge hx (by omega)), if_pos (inbN (by omega)), clN (by omega), eo, if_pos (inbN hb), clN hb, nI_1, f1]
/-- the numbering: the n-th of the tree's list is the n-th node -/
theorem nu_all {g : gN} {mo : MO} {L : List Nd} {m : Nat} (hg : mo.2.1 = g) (hO : One g 0 L 0 m) (hm : m ≤ 2001) (hn : q_nodes mo = 0) : ∃ ord num NS, f_Mo_numberAll mo = some (.inr (0, s_number (s_nodes (s_order mo ord) (nI L.length)) num)) ∧ NS.length = L.length ∧ NS.Nodup ∧ (∀ i, i ∈ NS → i < m) ∧ (∀ j i, NS[j]? = some i → ord j = nI i ∧ num i = nI j) ∧ ∃ q bd ns, Fo g q (nF g 0) bd ns ∧ L = hdN g 0 bd :: bd ∧ NS = 0 :: ns := by
  obtain ⟨h1, h2, k, bd, ns, h3, h4, h5, h6⟩ := hO
  have hlen := Fo_len h3
  have hL : L.length = ns.length + 1 := by rw [h6]; simp; omega
  have hll : ns.length + 1 ≤ m := by
    have hsub : (0 :: ns) ⊆ List.range m := fun i hi => List.mem_range.mpr (h5 i hi).2
    have := h4.length_le_of_subset hsub
    rw [List.length_range] at this
    exact this
  unfold f_Mo_numberAll
  rw [if_pos (show inb 0 2600 from inbN (n := 0) (by omega))]
  obtain ⟨ord, num, f1, f2⟩ := nu_9 (0 :: ns) 5000 [0] [] (s_number mo (upd (q_number mo) (0 : Int32).toNatClampNeg 0)) hg ⟨by omega, k, bd, ns, [], h3, by simp, rfl⟩ ⟨(by show upd (q_number mo) (nI 0).toNatClampNeg 0 0 = 0; rw [clN (by omega)]; exact up_eq), trivial⟩ hn (fun j x h => absurd h (by simp)) (by simp; omega) (by simp; omega)
  have e0 : (1 : Int32) = nI [0].length := rfl
  rw [e0, f1, bndM_some]
  have eL : (([] : List Nat) ++ 0 :: ns).length = L.length := by rw [hL]; rfl
  rw [eL]
  obtain ⟨num2, f3, f4⟩ := nu_124 L.length 5000 0 (0 :: ns) (s_number (s_nodes (s_order (s_number mo (upd (q_number mo) (0 : Int32).toNatClampNeg 0)) ord) (nI L.length)) num) h4 (fun i hi => by have := (h5 i hi).2; omega) (by simp; omega) (by rw [← eL]; rfl) f2 (by omega) (by simp; omega) (by omega) (fun j i hj => absurd hj (by omega))
  have z0 : (0 : Int32) = nI 0 := rfl
  rw [z0, f3, bndM_some]
  exact ⟨ord, num2, 0 :: ns, rfl, by rw [hL]; rfl, h4, fun i hi => (h5 i hi).2, fun j i hj => ⟨f2 j i hj, f4 j i hj⟩, k, bd, ns, h3, h6, rfl⟩
