/-! what both answer of a node -/
theorem Fo_at {g : gN} : ∀ {k : Nat} {c : Int32} {b : List Nd} {ns : List Nat}, Fo g k c b ns → ∀ p, p < b.length → ∃ q i bd n1 pre post npre npost, b = pre ++ hdN g i bd :: (bd ++ post) ∧ ns = npre ++ i :: (n1 ++ npost) ∧ pre.length = p ∧ npre.length = p ∧ Fo g q (nF g i) bd n1 ∧ i < 2600 := by
  intro k
  induction k with
  | zero => intro c b ns h; exact h.elim
  | succ k ih =>
    intro c b ns h p hp
    rcases h with ⟨rfl, rfl, rfl⟩ | ⟨i, bd, rs, n1, n2, h1, h2, rfl, rfl, h5, h6⟩
    · simp at hp
    · have l5 := Fo_len h5
      have l6 := Fo_len h6
      by_cases p0 : p = 0
      · subst p0
        exact ⟨k, i, bd, n1, [], rs, [], n2, rfl, rfl, rfl, rfl, h5, h2⟩
      · obtain ⟨p', rfl⟩ : ∃ z, p = z + 1 := ⟨p - 1, by omega⟩
        simp only [List.length_cons, List.length_append] at hp
        by_cases c1 : p' < bd.length
        · obtain ⟨q, i2, bd2, m1, pre, post, npre, npost, e1, e2, e3, e4, e5, e6⟩ := ih h5 p' c1
          refine ⟨q, i2, bd2, m1, hdN g i bd :: pre, post ++ rs, i :: npre, npost ++ n2, ?_, ?_, by simp [e3], by simp [e4], e5, e6⟩
          · conv => lhs; rw [show bd ++ rs = (pre ++ hdN g i2 bd2 :: (bd2 ++ post)) ++ rs by rw [← e1]]
            simp
          · rw [e2]; simp
        · obtain ⟨q, i2, bd2, m1, pre, post, npre, npost, e1, e2, e3, e4, e5, e6⟩ := ih h6 (p' - bd.length) (by omega)
          refine ⟨q, i2, bd2, m1, hdN g i bd :: (bd ++ pre), post, i :: (n1 ++ npre), npost, ?_, ?_, by simp [e3]; omega, by simp [e4]; omega, e5, e6⟩
          · rw [e1]; simp
          · rw [e2]; simp
theorem tr_behind {tr : TR} {pre rest : List Nd} {k v w : Int32} {n : Nat} (h : Tl tr (pre ++ (k, v, w, nI (n + 1)) :: rest)) (hb : (pre ++ (k, v, w, nI (n + 1)) :: rest).length < 4000) (hn : n < 4000) : f_Tr_behind tr (nI pre.length) = nI (pre.length + n + 1) := by
  have hl : (pre ++ (k, v, w, nI (n + 1)) :: rest).length = pre.length + rest.length + 1 := by simp; omega
  have hh := has1 (t := tr) (j := pre.length) (by rw [h.1]; omega) (by rw [h.1]; omega)
  have hs : trS tr pre.length = nI (n + 1) := congrArg (fun q : Nd => q.2.2.2) (Tl_at h)
  unfold f_Tr_behind
  rw [if_neg hh, nI_clamp (by omega), hs]
  by_cases c : n = 0
  · subst c
    rw [if_neg (by decide), nI_1]
  · rw [if_pos (show (1 : Int32) < nI (n + 1) from nI_lt (a := 1) (by omega) (by omega)), nI_add]; rfl
theorem tr_kids {g : gN} : ∀ {k : Nat} {c : Int32} {b : List Nd} {ns : List Nat}, Fo g k c b ns → ∃ ks : List Nat, Ch g c ks ∧ ks.length ≤ b.length ∧ ∀ (tr : TR) (pre post : List Nd) (npre : List Nat), Tl tr (pre ++ (b ++ post)) → (pre ++ (b ++ post)).length < 4000 → npre.length = pre.length →
    (∀ (kk : Int32) (fu n : Nat), ks.length < fu → n ≤ pre.length → f_Tr_children_L tr kk (nI (pre.length + b.length)) fu (nI pre.length) (nI n) (nI n) = some (nI (n + ks.length))) ∧
    (∀ (kk : Int32) (fu i n : Nat), ks.length < fu → n ≤ i → i < 2 ^ 31 → (∀ x, ks[i - n]? = some x → ∃ p, p < pre.length + b.length ∧ (npre ++ ns)[p]? = some x ∧ f_Tr_part_L tr kk (nI i) (nI (pre.length + b.length)) fu (nI pre.length) (nI n) = some (nI p)) ∧ (ks.length ≤ i - n → f_Tr_part_L tr kk (nI i) (nI (pre.length + b.length)) fu (nI pre.length) (nI n) = some (-1))) := by
  intro k
  induction k with
  | zero => intro c b ns h; exact h.elim
  | succ k ih =>
    intro c b ns h
    rcases h with ⟨rfl, rfl, rfl⟩ | ⟨i0, bd, rs, n1, n2, h1, h2, rfl, rfl, h5, h6⟩
    · refine ⟨[], rfl, Nat.le_refl _, fun tr pre post npre hT hb hn => ⟨fun kk fu n hf hnp => ?_, fun kk fu i n hf hni hi => ⟨fun x hx => absurd hx (by simp), fun _ => ?_⟩⟩⟩
      · obtain ⟨fu', rfl⟩ : ∃ z, fu = z + 1 := ⟨fu - 1, by simp at hf; omega⟩
        have hb' : pre.length < 4000 := by simp at hb; omega
        unfold f_Tr_children_L
        rw [if_pos (show nI (pre.length + ([] : List Nd).length) ≤ nI pre.length from nI_le (by simp) (by omega))]
        split <;> rfl
      · obtain ⟨fu', rfl⟩ : ∃ z, fu = z + 1 := ⟨fu - 1, by simp at hf; omega⟩
        have hb' : pre.length < 4000 := by simp at hb; omega
        have hle : nI (pre.length + ([] : List Nd).length) ≤ nI pre.length := nI_le (by simp) (by omega)
        unfold f_Tr_part_L
        rw [if_pos hle]
        split <;> rfl
    · obtain ⟨ks, k1, k2, k3⟩ := ih h6
      have l5 := Fo_len h5
      refine ⟨i0 :: ks, ⟨h1, h2, k1⟩, by simp; omega, fun tr pre post npre hT hb hn => ?_⟩
      have eL : pre ++ (hdN g i0 bd :: (bd ++ rs) ++ post) = pre ++ hdN g i0 bd :: (bd ++ (rs ++ post)) := by simp
      have eL2 : pre ++ (hdN g i0 bd :: (bd ++ rs) ++ post) = (pre ++ hdN g i0 bd :: bd) ++ (rs ++ post) := by simp
      have hlen : (pre ++ (hdN g i0 bd :: (bd ++ rs) ++ post)).length = pre.length + 1 + bd.length + rs.length + post.length := by simp; omega
      have hl2 : (pre ++ hdN g i0 bd :: bd).length = pre.length + bd.length + 1 := by simp; omega
      have hl3 : (hdN g i0 bd :: (bd ++ rs)).length = bd.length + rs.length + 1 := by simp
      have hbh := tr_behind (tr := tr) (pre := pre) (rest := bd ++ (rs ++ post)) (n := bd.length) (by rw [← eL]; exact hT) (by rw [← eL]; exact hb) (by omega)
      have htn : trn tr = pre.length + 1 + bd.length + rs.length + post.length := by rw [hT.1, hlen]
      obtain ⟨r1, r2⟩ := k3 tr (pre ++ hdN g i0 bd :: bd) post (npre ++ i0 :: n1) (by rw [← eL2]; exact hT) (by rw [← eL2]; exact hb) (by simp; omega)
      have ee : (pre ++ hdN g i0 bd :: bd).length + rs.length = pre.length + (hdN g i0 bd :: (bd ++ rs)).length := by rw [hl2, hl3]; omega
      rw [ee, hl2] at r1 r2
      have hlt : ¬ nI (pre.length + (hdN g i0 bd :: (bd ++ rs)).length) ≤ nI pre.length := nI_ge (by rw [hl3]; omega) (by rw [hl3]; omega)
      refine ⟨fun kk fu n hf hnp => ?_, fun kk fu i n hf hni hi => ?_⟩
      · obtain ⟨fu', rfl⟩ : ∃ z, fu = z + 1 := ⟨fu - 1, by simp at hf; omega⟩
        unfold f_Tr_children_L
        rw [if_neg (show ¬ nI (trn tr) ≤ nI n from nI_ge (by omega) (by omega)), if_neg hlt, hbh, nI_1, r1 kk fu' (n + 1) (by simp at hf; omega) (by omega)]
        have : n + 1 + ks.length = n + (i0 :: ks).length := by simp; omega
        rw [this]
      · obtain ⟨fu', rfl⟩ : ∃ z, fu = z + 1 := ⟨fu - 1, by simp at hf; omega⟩
        by_cases ci : i = n
        · subst ci
          refine ⟨fun x hx => ⟨pre.length, by rw [hl3]; omega, ?_, ?_⟩, fun h => absurd h (by simp)⟩
          · simp at hx
            rw [← hn]
            simp [hx]
          · unfold f_Tr_part_L
            rw [if_pos (nI_le (Nat.le_refl _) hi), if_neg hlt]
        · obtain ⟨s1, s2⟩ := r2 kk fu' i (n + 1) (by simp at hf; omega) (by omega) hi
          have es : f_Tr_part_L tr kk (nI i) (nI (pre.length + (hdN g i0 bd :: (bd ++ rs)).length)) (fu' + 1) (nI pre.length) (nI n) = f_Tr_part_L tr kk (nI i) (nI (pre.length + (hdN g i0 bd :: (bd ++ rs)).length)) fu' (nI (pre.length + bd.length + 1)) (nI (n + 1)) := by
            rw [f_Tr_part_L.eq_def]
            show (if nI i ≤ nI n then _ else _) = _
            rw [if_neg (nI_ge (by omega) hi), if_neg hlt, hbh, nI_1]
          have ei : i - n = (i - (n + 1)) + 1 := by omega
          refine ⟨fun x hx => ?_, fun h => ?_⟩
          · rw [ei] at hx
            obtain ⟨p, p1, p2, p3⟩ := s1 x (by simpa using hx)
            refine ⟨p, p1, ?_, by rw [es]; exact p3⟩
            rw [← p2]; simp
          · rw [es]
            exact s2 (by simp at h; omega)
theorem ch_71 {g : gN} {mo : MO} (hg : mo.2.1 = g) (kk : Int32) : ∀ (ks : List Nat) (c : Int32) (fu i n x : Nat), Ch g c ks → ks.length < fu → n ≤ i → i < 2 ^ 31 → ks[i - n]? = some x → f_Mo_child_L71 kk (nI i) fu c (nI n) mo = some (.inr (nI x, mo)) ∧ x < 2600 := by
  intro ks
  induction ks with
  | nil => intro c fu i n x _ _ _ _ h; exact absurd h (by simp)
  | cons i0 ks ih =>
    intro c fu i n x h hf hni hi hx
    obtain ⟨fu', rfl⟩ : ∃ z, fu = z + 1 := ⟨fu - 1, by simp at hf; omega⟩
    obtain ⟨rfl, h2, h3⟩ := h
    by_cases ci : i = n
    · subst ci
      simp at hx
      subst hx
      refine ⟨?_, h2⟩
      unfold f_Mo_child_L71
      rw [if_pos (nI_le (Nat.le_refl _) hi)]
    · have ei : i - n = (i - (n + 1)) + 1 := by omega
      rw [ei] at hx
      have hxx : q_next mo i0 = nX g i0 := by rw [← hg]
      obtain ⟨f1, f2⟩ := ih (nX g i0) fu' i (n + 1) x h3 (by simp at hf; omega) (by omega) hi (by simpa using hx)
      refine ⟨?_, f2⟩
      unfold f_Mo_child_L71
      rw [if_neg (nI_ge (by omega) hi), if_pos (inbN h2), clN h2, hxx, nI_1, f1]
/-- the class's tree and the reference's nodes -/
def TrR (tr : TR) (mo : MO) : Prop := ∃ (L : List Nd) (NS : List Nat) (q : Nat) (c : Int32), Tl tr L ∧ Fo mo.2.1 q c L NS ∧ q_nodes mo = nI L.length ∧ L.length ≤ 2001 ∧ ∀ j i, NS[j]? = some i → q_order mo j = nI i ∧ q_number mo i = nI j
theorem TrR_ch {tr : TR} {mo : MO} (h : TrR tr mo) (k : Int32) : ∃ v, f_Tr_children tr k = some v := by
  obtain ⟨L, NS, q, c, hT, hF, hn, hl, ho⟩ := h
  have htn : trn tr = L.length := hT.1
  unfold f_Tr_children
  have hz : (0 : Int32) = nI 0 := rfl
  rcases pk_ix k (n := L.length) (by omega) with hk | hk | ⟨j, hj, rfl⟩
  · -- before the first
    by_cases hm : k = -1
    · subst hm
      obtain ⟨ks, k1, k2, k3⟩ := tr_kids hF
      obtain ⟨r1, _⟩ := k3 tr [] [] [] (by simpa using hT) (by simp; omega) rfl
      have eb : f_Tr_behind tr (-1) = nI L.length := by
        unfold f_Tr_behind f_Tr_has
        rw [if_pos (show (-1 : Int32) < 0 by decide), if_pos rfl, htn]
      have h9 := r1 (-1) 5000 0 (by omega) (by simp)
      have e1 : nI (([] : List Nd).length + L.length) = nI L.length := by simp
      rw [e1] at h9
      have e2 : (-1 : Int32) + 1 = nI ([] : List Nd).length := by decide
      rw [eb, e2, hz]
      exact ⟨_, h9⟩
    · have hk1 : k + 1 < 0 := by
        have h1 : k.toInt < 0 := Int32.lt_iff_toInt_lt.mp hk
        have h2 : ¬ k.toInt = -1 := fun e => hm (Int32.toInt_inj.mp e)
        have h3 := Int32.le_toInt k
        have h4 : (k + 1).toInt = k.toInt + 1 := by
          rw [Int32.toInt_add]
          have : (1 : Int32).toInt = 1 := by decide
          rw [this, Int.bmod_eq_of_le (by omega) (by omega)]
        exact Int32.lt_iff_toInt_lt.mpr (by rw [h4]; show k.toInt + 1 < 0; omega)
      have eb : ∀ x : Int32, x < 0 → f_Tr_behind tr x = nI L.length := by
        intro x hx
        unfold f_Tr_behind f_Tr_has
        rw [if_pos hx, if_pos rfl, htn]
      rw [eb k hk]
      rw [f_Tr_children_L.eq_def]
      show ∃ v, (if nI (trn tr) ≤ 0 then _ else _) = some v
      split
      · exact ⟨_, rfl⟩
      · split
        · exact ⟨_, rfl⟩
        · rw [eb _ hk1, f_Tr_children_L.eq_def]
          show ∃ v, (if nI (trn tr) ≤ 0 + 1 then _ else if nI L.length ≤ nI L.length then _ else _) = some v
          rw [if_pos (nI_le (Nat.le_refl L.length) (by omega))]
          split <;> exact ⟨_, rfl⟩
  · -- behind the last
    have eb : ∀ x : Int32, x < 0 ∨ nI L.length ≤ x → f_Tr_behind tr x = nI L.length := by
      intro x hx
      unfold f_Tr_behind f_Tr_has
      rcases hx with hx | hx
      · rw [if_pos hx, if_pos rfl, htn]
      · rw [htn, if_pos hx]
        have h0 : (if x < 0 then (0 : Int32) else 0) = 0 := by split <;> rfl
        rw [if_pos h0]
    rw [eb k (Or.inr hk)]
    rw [f_Tr_children_L.eq_def]
    show ∃ v, (if nI (trn tr) ≤ 0 then _ else _) = some v
    split
    · exact ⟨_, rfl⟩
    · split
      · exact ⟨_, rfl⟩
      · rename_i h1 h2
        have hx : k + 1 < 0 ∨ nI L.length ≤ k + 1 := by
          rcases pk_ix (k + 1) (n := L.length) (by omega) with h | h | ⟨j, hj, h⟩
          · exact Or.inl h
          · exact Or.inr h
          · exact absurd (show nI L.length ≤ k + 1 from by
              exfalso
              have h5 : k = nI j - 1 := by rw [← h]; exact (Int32.add_sub_cancel k 1).symm
              cases j with
              | zero =>
                rw [h5] at hk
                have : ¬ nI L.length ≤ nI 0 - 1 := by
                  have e : nI 0 - 1 = -1 := by decide
                  rw [e]
                  intro h6
                  have h7 := Int32.le_iff_toInt_le.mp h6
                  rw [nI_toInt (by omega)] at h7
                  have h8 : (-1 : Int32).toInt = -1 := by decide
                  omega
                exact this hk
              | succ j =>
                rw [nI_pred] at h5
                rw [h5] at hk
                exact absurd hk (nI_ge (by omega) (by omega))) h2
        rw [eb _ hx, f_Tr_children_L.eq_def]
        show ∃ v, (if nI (trn tr) ≤ 0 + 1 then _ else if nI L.length ≤ nI L.length then _ else _) = some v
        rw [if_pos (nI_le (Nat.le_refl L.length) (by omega))]
        split <;> exact ⟨_, rfl⟩
  · obtain ⟨q2, i, bd, n1, pre, post, npre, npost, e1, e2, e3, e4, e5, e6⟩ := Fo_at hF j hj
    obtain ⟨ks, k1, k2, k3⟩ := tr_kids e5
    have hT2 : Tl tr (pre ++ hdN mo.2.1 i bd :: (bd ++ post)) := by rw [← e1]; exact hT
    have hb2 : (pre ++ hdN mo.2.1 i bd :: (bd ++ post)).length < 4000 := by rw [← e1]; omega
    have hll : (pre ++ hdN mo.2.1 i bd :: (bd ++ post)).length = pre.length + 1 + bd.length + post.length := by simp; omega
    have hbh := tr_behind hT2 hb2 (show bd.length < 4000 by omega)
    have ea : pre ++ hdN mo.2.1 i bd :: (bd ++ post) = (pre ++ [hdN mo.2.1 i bd]) ++ (bd ++ post) := by simp
    obtain ⟨r1, _⟩ := k3 tr (pre ++ [hdN mo.2.1 i bd]) post (npre ++ [i]) (by rw [← ea]; exact hT2) (by rw [← ea]; exact hb2) (by simp [e3, e4])
    have h9 := r1 (nI j) 5000 0 (by omega) (by simp)
    have ep : (pre ++ [hdN mo.2.1 i bd]).length = j + 1 := by simp [e3]
    rw [ep] at h9
    rw [e3] at hbh
    have e8 : j + 1 + bd.length = j + bd.length + 1 := by omega
    rw [e8] at h9
    rw [hbh, nI_1, hz]
    exact ⟨_, h9⟩
/-- of a node: both refuse, or both answer alike -/
theorem q_node {tr : TR} {mo : MO} (h : TrR tr mo) (k what v : Int32) (hv : f_Tr_children tr k = some v) :
    ((what < 0 ∨ 3 < what) ∧ f_Mo_node mo k what = some (.inr (0, s_thrown mo 1))) ∨ (¬ what < 0 ∧ ¬ 3 < what ∧ f_Tr_has tr k = 0 ∧ f_Mo_node mo k what = some (.inr (0, s_thrown mo 2))) ∨
    (¬ what < 0 ∧ ¬ 3 < what ∧ ¬ f_Tr_has tr k = 0 ∧ f_Mo_node mo k what = some (.inr ((if what = 0 then f_Tr_kind tr k else if what = 1 then v else if what = 2 then f_Tr_value tr k else f_Tr_where tr k), s_thrown mo 0))) := by
  have t1 : f_Mo_throwing mo 1 0 = some (.inr (1, s_thrown mo 1)) := rfl
  have t2 : f_Mo_throwing mo 0 1 = some (.inr (1, s_thrown mo 2)) := rfl
  have t0 : f_Mo_throwing mo 0 0 = some (.inr (0, s_thrown mo 0)) := rfl
  obtain ⟨L, NS, q, c, hT, hF, hn, hl, ho⟩ := h
  have htn : trn tr = L.length := hT.1
  unfold f_Mo_node
  rw [t1, t2, t0, bndM_some, bndM_some, bndM_some, if_neg n10, if_neg n10, if_pos rfl]
  by_cases w0 : what < 0
  · left
    refine ⟨Or.inl w0, ?_⟩
    rw [if_pos w0]
  · rw [if_neg w0]
    by_cases w3 : what ≤ 3
    · have w3' : ¬ 3 < what := fun h => absurd w3 (Int32.not_le.mpr h)
      rw [if_pos w3, hn]
      rcases pk_ix k (n := L.length) (by omega) with hk | hk | ⟨j, hj, rfl⟩
      · right; left
        refine ⟨w0, w3', ?_, ?_⟩
        · unfold f_Tr_has; rw [if_pos hk]
        · rw [if_pos hk]
      · right; left
        have hk0 : ¬ k < 0 := fun h => by
          have h1 := Int32.lt_iff_toInt_lt.mp h
          have h2 := Int32.le_iff_toInt_le.mp hk
          rw [nI_toInt (by omega)] at h2
          have h3 : (0 : Int32).toInt = 0 := by decide
          omega
        refine ⟨w0, w3', ?_, ?_⟩
        · unfold f_Tr_has; rw [if_neg hk0, htn, if_pos hk]
        · rw [if_neg hk0, if_neg (Int32.not_lt.mpr hk)]
      · right; right
        have hh : ¬ f_Tr_has tr (nI j) = 0 := has1 (by rw [htn]; exact hj) (by rw [htn]; omega)
        refine ⟨w0, w3', hh, ?_⟩
        obtain ⟨q2, i, bd, n1, pre, post, npre, npost, e1, e2, e3, e4, e5, e6⟩ := Fo_at hF j hj
        obtain ⟨ks, k1, k2, k3⟩ := tr_kids e5
        have hT2 : Tl tr (pre ++ hdN mo.2.1 i bd :: (bd ++ post)) := by rw [← e1]; exact hT
        have hb2 : (pre ++ hdN mo.2.1 i bd :: (bd ++ post)).length < 4000 := by rw [← e1]; omega
        have hll : (pre ++ hdN mo.2.1 i bd :: (bd ++ post)).length = pre.length + 1 + bd.length + post.length := by simp; omega
        have hbh := tr_behind hT2 hb2 (show bd.length < 4000 by omega)
        have ea : pre ++ hdN mo.2.1 i bd :: (bd ++ post) = (pre ++ [hdN mo.2.1 i bd]) ++ (bd ++ post) := by simp
        obtain ⟨r1, _⟩ := k3 tr (pre ++ [hdN mo.2.1 i bd]) post (npre ++ [i]) (by rw [← ea]; exact hT2) (by rw [← ea]; exact hb2) (by simp [e3, e4])
        have h9 := r1 (nI j) 5000 0 (by omega) (by simp)
        have ep : (pre ++ [hdN mo.2.1 i bd]).length = j + 1 := by simp [e3]
        rw [ep] at h9
        rw [e3] at hbh
        have e8 : j + 1 + bd.length = j + bd.length + 1 := by omega
        rw [e8, Nat.zero_add] at h9
        have hv2 : v = nI ks.length := by
          unfold f_Tr_children at hv
          rw [hbh, nI_1] at hv
          exact Option.some.inj (hv.symm.trans h9)
        have hx := Tl_at hT2
        rw [e3] at hx
        have x1 : trK tr j = nK mo.2.1 i := congrArg (fun q : Nd => q.1) hx
        have x2 : trV tr j = nV mo.2.1 i := congrArg (fun q : Nd => q.2.1) hx
        have x3 : trW tr j = nS mo.2.1 i := congrArg (fun q : Nd => q.2.2.1) hx
        have y1 : f_Tr_kind tr (nI j) = nK mo.2.1 i := by unfold f_Tr_kind; rw [if_neg (nI_pos (by omega)), htn, if_neg (nI_ge hj (by omega)), nI_clamp (by omega), x1]
        have y2 : f_Tr_value tr (nI j) = nV mo.2.1 i := by unfold f_Tr_value; rw [if_neg (nI_pos (by omega)), htn, if_neg (nI_ge hj (by omega)), nI_clamp (by omega), x2]
        have y3 : f_Tr_where tr (nI j) = nS mo.2.1 i := by unfold f_Tr_where; rw [if_neg (nI_pos (by omega)), htn, if_neg (nI_ge hj (by omega)), nI_clamp (by omega), x3]
        have hNS : NS[j]? = some i := by rw [e2, ← e4]; simp
        have eo : q_order mo j = nI i := (ho j i hNS).1
        have eo2 : q_order (s_thrown mo 0) (nI j).toNatClampNeg = nI i := by rw [nI_clamp (by omega)]; exact eo
        have ec : f_Mo_childrenOf (s_thrown mo 0) (nI i) = some (.inr (nI ks.length, s_thrown mo 0)) := by
          unfold f_Mo_childrenOf
          rw [if_pos (inbN e6), clN e6]
          have ef : q_first (s_thrown mo 0) i = nF mo.2.1 i := rfl
          have h8 : f_Mo_childrenOf_L9 (nI i) 5000 0 (nF mo.2.1 i) (s_thrown mo 0) = some (.inr (nI (0 + ks.length), s_thrown mo 0)) := co_9 (g := mo.2.1) (mo := s_thrown mo 0) rfl (nI i) ks (nF mo.2.1 i) 5000 0 k1 (by omega)
          rw [Nat.zero_add] at h8
          rw [ef, h8, bndM_some]
        rw [if_neg (nI_pos (by omega)), if_pos (nI_lt hj (by omega)), if_pos (inbN (show j < 2600 by omega)), eo2, ec, bndM_some, y1, y2, y3, hv2]
        have z1 : q_kind (s_thrown mo 0) (nI i).toNatClampNeg = nK mo.2.1 i := by rw [clN e6]
        have z2 : q_value (s_thrown mo 0) (nI i).toNatClampNeg = nV mo.2.1 i := by rw [clN e6]
        have z3 : q_spot (s_thrown mo 0) (nI i).toNatClampNeg = nS mo.2.1 i := by rw [clN e6]
        by_cases a0 : what = 0
        · rw [if_pos a0, if_pos a0, if_pos (inbN e6), z1]
        · rw [if_neg a0, if_neg a0]
          by_cases a1 : what = 1
          · rw [if_pos a1, if_pos a1]
          · rw [if_neg a1, if_neg a1]
            by_cases a2 : what = 2
            · rw [if_pos a2, if_pos a2, if_pos (inbN e6), z2]
            · rw [if_neg a2, if_neg a2, if_pos (inbN e6), z3]
    · left
      refine ⟨Or.inr (Int32.not_le.mp w3), ?_⟩
      rw [if_neg w3]
/-- of a child -/
theorem q_child {tr : TR} {mo : MO} (h : TrR tr mo) (k i : Int32) : (f_Tr_part tr k i = some (-1) ∧ f_Mo_child mo k i = some (.inr (0, s_thrown mo 1))) ∨ ∃ v, ¬ v = -1 ∧ f_Tr_part tr k i = some v ∧ f_Mo_child mo k i = some (.inr (v, s_thrown mo 0)) := by
  have t1 : ∀ m : MO, f_Mo_throwing m 1 0 = some (.inr (1, s_thrown m 1)) := fun _ => rfl
  have t0 : ∀ m : MO, f_Mo_throwing m 0 0 = some (.inr (0, s_thrown m 0)) := fun _ => rfl
  obtain ⟨L, NS, q, c, hT, hF, hn, hl, ho⟩ := h
  have htn : trn tr = L.length := hT.1
  unfold f_Mo_child f_Tr_part
  rw [t1, bndM_some, if_neg n10, hn]
  rcases pk_ix k (n := L.length) (by omega) with hk | hk | ⟨j, hj, rfl⟩
  · left
    have hh : f_Tr_has tr k = 0 := by unfold f_Tr_has; rw [if_pos hk]
    rw [if_pos hk, if_pos hh]
    exact ⟨rfl, rfl⟩
  · left
    have hk0 : ¬ k < 0 := fun h => by
      have h1 := Int32.lt_iff_toInt_lt.mp h
      have h2 := Int32.le_iff_toInt_le.mp hk
      rw [nI_toInt (by omega)] at h2
      have h3 : (0 : Int32).toInt = 0 := by decide
      omega
    have hh : f_Tr_has tr k = 0 := by unfold f_Tr_has; rw [if_neg hk0, htn, if_pos hk]
    rw [if_neg hk0, if_pos hk, if_pos hh]
    exact ⟨rfl, rfl⟩
  · have hh : ¬ f_Tr_has tr (nI j) = 0 := has1 (by rw [htn]; exact hj) (by rw [htn]; omega)
    rw [if_neg hh, if_neg (nI_pos (by omega)), if_neg (nI_ge hj (by omega))]
    by_cases hi0 : 0 ≤ i
    · obtain ⟨i', hi', rfl⟩ := nI_of (fun h => absurd hi0 (Int32.not_le.mpr h))
      rw [if_pos hi0, if_pos hi0, if_pos (inbN (show j < 2600 by omega))]
      obtain ⟨q2, nd, bd, n1, pre, post, npre, npost, e1, e2, e3, e4, e5, e6⟩ := Fo_at hF j hj
      obtain ⟨ks, k1, k2, k3⟩ := tr_kids e5
      have hT2 : Tl tr (pre ++ hdN mo.2.1 nd bd :: (bd ++ post)) := by rw [← e1]; exact hT
      have hb2 : (pre ++ hdN mo.2.1 nd bd :: (bd ++ post)).length < 4000 := by rw [← e1]; omega
      have hll : (pre ++ hdN mo.2.1 nd bd :: (bd ++ post)).length = pre.length + 1 + bd.length + post.length := by simp; omega
      have hL9 : L.length = pre.length + 1 + bd.length + post.length := by rw [e1]; exact hll
      have hbh := tr_behind hT2 hb2 (show bd.length < 4000 by omega)
      have ea : pre ++ hdN mo.2.1 nd bd :: (bd ++ post) = (pre ++ [hdN mo.2.1 nd bd]) ++ (bd ++ post) := by simp
      obtain ⟨_, r2⟩ := k3 tr (pre ++ [hdN mo.2.1 nd bd]) post (npre ++ [nd]) (by rw [← ea]; exact hT2) (by rw [← ea]; exact hb2) (by simp [e3, e4])
      obtain ⟨s1, s2⟩ := r2 (nI j) 5000 i' 0 (by omega) (Nat.zero_le _) hi'
      have ep : (pre ++ [hdN mo.2.1 nd bd]).length = j + 1 := by simp [e3]
      rw [ep] at s1 s2
      rw [e3] at hbh
      have e8 : j + 1 + bd.length = j + bd.length + 1 := by omega
      rw [e8, Nat.sub_zero] at s1 s2
      have hNS : NS[j]? = some nd := by rw [e2, ← e4]; simp
      have eo : q_order mo (nI j).toNatClampNeg = nI nd := by rw [nI_clamp (by omega)]; exact (ho j nd hNS).1
      have ec : f_Mo_childrenOf mo (nI nd) = some (.inr (nI ks.length, mo)) := by
        unfold f_Mo_childrenOf
        rw [if_pos (inbN e6), clN e6]
        have ef : q_first mo nd = nF mo.2.1 nd := rfl
        have h8 : f_Mo_childrenOf_L9 (nI nd) 5000 0 (nF mo.2.1 nd) mo = some (.inr (nI (0 + ks.length), mo)) := co_9 (g := mo.2.1) (mo := mo) rfl (nI nd) ks (nF mo.2.1 nd) 5000 0 k1 (by omega)
        rw [Nat.zero_add] at h8
        rw [ef, h8, bndM_some]
      rw [eo, ec, bndM_some, hbh, nI_1]
      by_cases ci : i' < ks.length
      · right
        rw [if_pos (nI_lt ci (by omega)), t0, bndM_some, if_pos rfl]
        have hx : ks[i']? = some ks[i'] := List.getElem?_eq_getElem ci
        obtain ⟨p, p1, p2, p3⟩ := s1 _ hx
        have eo2 : q_order (s_thrown mo 0) (nI j).toNatClampNeg = nI nd := eo
        obtain ⟨f1', f2⟩ := ch_71 (g := mo.2.1) (mo := s_thrown mo 0) rfl (nI j) ks (nF mo.2.1 nd) 5000 i' 0 ks[i'] k1 (by omega) (Nat.zero_le _) hi' (by rw [Nat.sub_zero]; exact hx)
        have f1 : f_Mo_child_L71 (nI j) (nI i') 5000 (nF mo.2.1 nd) 0 (s_thrown mo 0) = some (.inr (nI ks[i'], s_thrown mo 0)) := f1'
        have ef : q_first (s_thrown mo 0) nd = nF mo.2.1 nd := rfl
        have hp : NS[p]? = some ks[i'] := by
          rw [← p2, e2]
          have : npre ++ nd :: (n1 ++ npost) = (npre ++ [nd] ++ n1) ++ npost := by simp
          rw [this, List.getElem?_append_left]
          have := Fo_len e5
          simp [e4]; omega
        have en : q_number (s_thrown mo 0) ks[i'] = nI p := (ho p _ hp).2
        refine ⟨nI p, m1_ne p (by omega), by rw [show (0 : Int32) = nI 0 from rfl]; exact p3, ?_⟩
        rw [eo2, if_pos (inbN e6), clN e6, ef, f1, bndM_some, if_pos (inbN f2), clN f2, en]
      · left
        rw [if_neg (nI_nlt (by omega) (by omega)), t1, bndM_some, if_neg n10]
        exact ⟨by rw [show (0 : Int32) = nI 0 from rfl]; exact s2 (by omega), rfl⟩
    · left
      rw [if_neg hi0, if_neg hi0]
      exact ⟨rfl, rfl⟩
