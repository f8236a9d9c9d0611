/-! tokens are known to both alike -/
def iN (x lo hi : Int32) : Int32 := if x < lo then 0 else if hi < x then 0 else 1
def sgN (s : Int32) : Int32 := if iN s 1 13 = 0 then (if iN s 16 23 = 0 then (if s = 30 then 1 else (if iN s 33 35 = 0 then (if iN s 46 53 = 0 then (if iN s 60 74 = 0 then 0 else 1) else 1) else 1)) else 1) else 1
def wdN (w : Int32) : Int32 := if iN w (-1) 44 = 0 then (if iN w 100 144 = 0 then 0 else 1) else 1
theorem big_lt {x : Int32} {n : Nat} (hn : n < 2 ^ 31) (h : nI n ≤ x) (j : Nat) (hj : j < n) : ¬ x < nI j ∧ nI j < x ∧ ¬ x = nI j ∧ ¬ x ≤ nI j := by
  have h1 := Int32.le_iff_toInt_le.mp h
  rw [nI_toInt hn] at h1
  have h2 : (nI j).toInt = (j : Int) := nI_toInt (by omega)
  refine ⟨fun e => ?_, Int32.lt_iff_toInt_lt.mpr (by omega), fun e => ?_, fun e => ?_⟩
  · have := Int32.lt_iff_toInt_lt.mp e; omega
  · rw [e] at h1; omega
  · have := Int32.le_iff_toInt_le.mp e; omega
theorem neg_lt {x : Int32} (h : x < 0) (j : Nat) (hj : j < 2 ^ 31) : x < nI j ∧ ¬ nI j < x ∧ ¬ x = nI j ∧ x ≤ nI j := by
  have h1 := Int32.lt_iff_toInt_lt.mp h
  have h0 : (0 : Int32).toInt = 0 := by decide
  have h2 : (nI j).toInt = (j : Int) := nI_toInt hj
  refine ⟨Int32.lt_iff_toInt_lt.mpr (by omega), fun e => ?_, fun e => ?_, Int32.le_iff_toInt_le.mpr (by omega)⟩
  · have := Int32.lt_iff_toInt_lt.mp e; omega
  · rw [e] at h1; omega
theorem sg_fin : ∀ j, j < 75 → f_Tk_knownSign (nI j) = sgN (nI j) := by decide +kernel
theorem wd_fin : ∀ j, j < 145 → f_Tk_knownWord (nI j) = wdN (nI j) := by decide +kernel
theorem sg_eq (s : Int32) : f_Tk_knownSign s = sgN s := by
  rcases pk_ix s (n := 75) (by omega) with h | h | ⟨j, hj, rfl⟩
  · have a := fun j hj => (neg_lt h j hj).1
    have b := fun j hj => (neg_lt h j hj).2.2.1
    have a1 : s < 1 := a 1 (by omega)
    have a2 : s < 16 := a 16 (by omega)
    have a3 : s < 33 := a 33 (by omega)
    have a4 : s < 46 := a 46 (by omega)
    have a5 : s < 60 := a 60 (by omega)
    have a6 : ¬ s = 30 := b 30 (by omega)
    unfold f_Tk_knownSign sgN iN
    simp only [a1, a2, a3, a4, a5, a6, if_true, if_false]
  · have a := fun j hj => (big_lt (by omega) h j hj).1
    have b := fun j hj => (big_lt (by omega) h j hj).2.1
    have c := fun j hj => (big_lt (by omega) h j hj).2.2.1
    have d := fun j hj => (big_lt (by omega) h j hj).2.2.2
    have a1 : ¬ s < 1 := a 1 (by omega)
    have a2 : ¬ s < 16 := a 16 (by omega)
    have a3 : ¬ s < 33 := a 33 (by omega)
    have a4 : ¬ s < 46 := a 46 (by omega)
    have a5 : ¬ s < 60 := a 60 (by omega)
    have a6 : ¬ s = 30 := c 30 (by omega)
    have b1 : (13 : Int32) < s := b 13 (by omega)
    have b2 : (23 : Int32) < s := b 23 (by omega)
    have b3 : (35 : Int32) < s := b 35 (by omega)
    have b4 : (53 : Int32) < s := b 53 (by omega)
    have b5 : (74 : Int32) < s := b 74 (by omega)
    have d1 : ¬ s ≤ 13 := d 13 (by omega)
    have d2 : ¬ s ≤ 23 := d 23 (by omega)
    have d3 : ¬ s ≤ 35 := d 35 (by omega)
    have d4 : ¬ s ≤ 53 := d 53 (by omega)
    unfold f_Tk_knownSign sgN iN
    simp only [a1, a2, a3, a4, a5, a6, b1, b2, b3, b4, b5, d1, d2, d3, d4, if_true, if_false]
  · exact sg_fin j hj
theorem wd_eq (w : Int32) : f_Tk_knownWord w = wdN w := by
  rcases pk_ix w (n := 145) (by omega) with h | h | ⟨j, hj, rfl⟩
  · have a := fun j hj => (neg_lt h j hj)
    have a1 : w < 100 := (a 100 (by omega)).1
    have a2 : w ≤ 44 := (a 44 (by omega)).2.2.2
    have a3 : ¬ 44 < w := (a 44 (by omega)).2.1
    unfold f_Tk_knownWord wdN iN
    simp only [a1, a2, a3, if_true, if_false]
    by_cases c : w < -1
    · simp only [c, if_true]
    · simp only [c, if_false, i10]
  · have a := fun j hj => (big_lt (by omega) h j hj)
    have a1 : ¬ w < 100 := (a 100 (by omega)).1
    have a2 : ¬ w ≤ 44 := (a 44 (by omega)).2.2.2
    have a3 : 44 < w := (a 44 (by omega)).2.1
    have a4 : 144 < w := (a 144 (by omega)).2.1
    unfold f_Tk_knownWord wdN iN
    simp only [a1, a2, a3, a4, if_true, if_false]
    by_cases c : w < -1
    · simp only [c, if_true]
    · simp only [c, if_false, if_true]
  · exact wd_fin j hj
theorem iN_01 (x lo hi : Int32) : iN x lo hi = 0 ∨ iN x lo hi = 1 := by
  unfold iN
  split
  · exact Or.inl rfl
  · split
    · exact Or.inl rfl
    · exact Or.inr rfl
theorem rs_isIn (m0 : MO) (x lo hi : Int32) : f_Mo_isIn m0 x lo hi = some (.inr (iN x lo hi, m0)) := f_isIn m0 x lo hi
theorem rs_sgn (mo : MO) (s : Int32) : f_Mo_isSignNumber mo s = some (.inr (sgN s, mo)) := by
  unfold f_Mo_isSignNumber sgN
  simp only [rs_isIn, bndM_some]
  by_cases c1 : iN s 1 13 = 0
  · simp only [c1, if_true]
    by_cases c2 : iN s 16 23 = 0
    · simp only [c2, if_true]
      by_cases c3 : s = 30
      · simp only [c3, if_true]
      · simp only [c3, if_false]
        by_cases c4 : iN s 33 35 = 0
        · simp only [c4, if_true]
          by_cases c5 : iN s 46 53 = 0
          · simp only [c5, if_true]
            by_cases c6 : iN s 60 74 = 0
            · simp only [c6, if_true]
            · simp only [c6, if_false]
          · simp only [c5, if_false]
        · simp only [c4, if_false]
    · simp only [c2, if_false]
  · simp only [c1, if_false]
theorem iN_15 (k : Int32) (h1 : ¬ k = 1) (h2 : ¬ k = 2) (h3 : ¬ k = 3) (h4 : ¬ k = 4) (h5 : ¬ k = 5) : iN k 1 5 = 0 := by
  rcases pk_ix k (n := 6) (by omega) with h | h | ⟨j, hj, rfl⟩
  · unfold iN
    rw [if_pos (show k < 1 from (neg_lt h 1 (by omega)).1)]
  · unfold iN
    rw [if_neg (show ¬ k < 1 from (big_lt (by omega) h 1 (by omega)).1), if_pos (show 5 < k from (big_lt (by omega) h 5 (by omega)).2.1)]
  · have : j = 0 ∨ j = 1 ∨ j = 2 ∨ j = 3 ∨ j = 4 ∨ j = 5 := by omega
    rcases this with rfl | rfl | rfl | rfl | rfl | rfl
    · decide
    · exact absurd rfl h1
    · exact absurd rfl h2
    · exact absurd rfl h3
    · exact absurd rfl h4
    · exact absurd rfl h5
theorem iN_text (w : Int32) : (iN w 0 1 = 0) ↔ (¬ w = 0 ∧ ¬ w = 1) := by
  rcases pk_ix w (n := 2) (by omega) with h | h | ⟨j, hj, rfl⟩
  · have : iN w 0 1 = 0 := by unfold iN; rw [if_pos h]
    exact ⟨fun _ => ⟨(neg_lt h 0 (by omega)).2.2.1, (neg_lt h 1 (by omega)).2.2.1⟩, fun _ => this⟩
  · have : iN w 0 1 = 0 := by unfold iN; rw [if_neg (show ¬ w < 0 from (big_lt (by omega) h 0 (by omega)).1), if_pos (show 1 < w from (big_lt (by omega) h 1 (by omega)).2.1)]
    exact ⟨fun _ => ⟨(big_lt (by omega) h 0 (by omega)).2.2.1, (big_lt (by omega) h 1 (by omega)).2.2.1⟩, fun _ => this⟩
  · have : j = 0 ∨ j = 1 := by omega
    rcases this with rfl | rfl <;> decide
theorem nm_eq (n : Int32) : f_Tk_knownName n = iN n 0 999 := rfl
theorem tok_eq (mo : MO) (k w n b : Int32) : f_Mo_token mo k w n b = f_Mo_token_J104 k w n b (f_Tk_known k w n) mo := by
  have nm := iN_01 n 0 999
  unfold f_Mo_token f_Mo_token_J42 f_Mo_token_J53 f_Mo_token_J66 f_Tk_known
  simp only [rs_isIn, rs_sgn, bndM_some, nm_eq, wd_eq, sg_eq]
  by_cases k1 : k = 1
  · subst k1
    simp only [show ¬ (1 : Int32) = 4 by decide, show ¬ (1 : Int32) = 3 by decide, if_true, if_false, i10]
    unfold wdN
    by_cases c1 : iN w (-1) 44 = 0
    · simp only [c1, if_true]
      by_cases c2 : iN w 100 144 = 0
      · simp only [c2, if_true]
      · simp only [c2, if_false, i10]
        by_cases c3 : iN n 0 999 = 0
        · simp only [c3, if_true]
        · simp only [c3, if_false]
    · simp only [c1, if_false, i10]
      by_cases c3 : iN n 0 999 = 0
      · simp only [c3, if_true]
      · simp only [c3, if_false]
  · simp only [k1, if_false]
    by_cases k4 : k = 4
    · subst k4
      simp only [show ¬ (4 : Int32) = 2 by decide, show ¬ (4 : Int32) = 3 by decide, if_true, if_false]
    · simp only [k4, if_false]
      by_cases k3 : k = 3
      · subst k3
        simp only [show ¬ (3 : Int32) = 2 by decide, if_true, if_false]
        by_cases c : iN w 0 1 = 0
        · obtain ⟨d1, d2⟩ := (iN_text w).mp c
          simp only [c, d1, d2, if_true, if_false]
        · have hw : w = 0 ∨ w = 1 := by
            by_cases w0 : w = 0
            · exact Or.inl w0
            · by_cases w1 : w = 1
              · exact Or.inr w1
              · exact absurd ((iN_text w).mpr ⟨w0, w1⟩) c
          simp only [c, if_false]
          by_cases c3 : iN n 0 999 = 0
          · simp only [c3, if_true]
            rcases hw with rfl | rfl
            · simp only [if_true]
            · simp only [i10, if_true, if_false]
          · simp only [c3, if_false]
            rcases hw with rfl | rfl
            · simp only [if_true]
            · simp only [i10, if_true, if_false]
      · simp only [k3, if_false]
        by_cases k2 : k = 2
        · subst k2
          have h25 : ¬ iN 2 1 5 = 0 := by decide
          simp only [h25, if_true, if_false]
          rcases nm with h | h
          · simp only [h, if_true]
          · simp only [h, i10, if_false]
        · simp only [k2, if_false]
          by_cases k5 : k = 5
          · subst k5
            simp only [if_true]
            rfl
          · simp only [k5, if_false]
            rw [iN_15 k k1 k2 k3 k4 k5]
theorem kn_01 (k w n : Int32) : f_Tk_known k w n = 0 ∨ f_Tk_known k w n = 1 := by
  have h1 : f_Tk_knownName n = 0 ∨ f_Tk_knownName n = 1 := iN_01 n 0 999
  have h2 : f_Tk_knownSign w = 0 ∨ f_Tk_knownSign w = 1 := by
    rw [sg_eq]; unfold sgN
    repeat' split
    all_goals first | exact Or.inl rfl | exact Or.inr rfl
  unfold f_Tk_known
  repeat' split
  all_goals first | exact Or.inl rfl | exact Or.inr rfl | exact h1 | exact h2
theorem k_room_i {t : TK} (h : tkn t ≤ tkc t) {i : Nat} (hi : i < tkn t) : tkK (k_room t) i = tkK t i ∧ tkW (k_room t) i = tkW t i ∧ tkN (k_room t) i = tkN t i ∧ tkL (k_room t) i = tkL t i := by
  have hc : ∀ f : Nat → Int32, cpn f (tkc t) i = f i := by
    intro f
    show (if 0 ≤ i ∧ i < 0 + tkc t then f (0 + (i - 0)) else 0) = f i
    rw [if_pos ⟨Nat.zero_le _, by omega⟩]
    congr 1
    omega
  unfold k_room
  split
  · exact ⟨hc _, hc _, hc _, hc _⟩
  · exact ⟨rfl, rfl, rfl, rfl⟩
/-- the token's call -/
theorem q_token {tk : TK} {mo : MO} (hk : tkn tk ≤ tkc tk) (hR : TkR tk mo.1) (k w n b : Int32) (hb : b = 0 ∨ b = 1) :
    (f_Tk_known k w n = 0 ∧ f_Mo_token mo k w n b = some (.inr (0, s_thrown mo 1))) ∨ (¬ f_Tk_known k w n = 0 ∧ tkn tk = 1000 ∧ f_Mo_token mo k w n b = some (.inr (0, s_thrown mo 2))) ∨
    (¬ f_Tk_known k w n = 0 ∧ tkn tk < 1000 ∧ ∃ gt, f_Mo_token mo k w n b = some (.inr (nI (tkn tk + 1), (gt, (s_thrown mo 0).2))) ∧ TkR (k_add tk k w n b) gt) := by
  have t1 : f_Mo_throwing mo 1 0 = some (.inr (1, s_thrown mo 1)) := rfl
  have t2 : f_Mo_throwing mo 0 1 = some (.inr (1, s_thrown mo 2)) := rfl
  have t0 : f_Mo_throwing mo 0 0 = some (.inr (0, s_thrown mo 0)) := rfl
  rw [tok_eq]
  have ec : q_count mo = nI (tkn tk) := hR.2.1
  have hT := hR.1
  unfold f_Mo_token_J104
  rw [t1, t2, t0, bndM_some, bndM_some, bndM_some, ec]
  have e1000 : (nI (tkn tk) = 1000) = (tkn tk = 1000) := propext (nI_eq (a := tkn tk) (b := 1000) (by omega) (by omega))
  rcases kn_01 k w n with h | h
  · left
    rw [h, if_pos rfl, if_neg n10]
    exact ⟨rfl, rfl⟩
  · right
    simp only [h, i10, if_false, if_true]
    by_cases c : tkn tk = 1000
    · left
      rw [if_pos (e1000.mpr c)]
      exact ⟨not_false, c, rfl⟩
    · right
      rw [if_neg (fun e => c (e1000.mp e))]
      refine ⟨not_false, by omega, ?_⟩
      unfold f_Mo_token_J143
      have ec0 : q_count (s_thrown mo 0) = nI (tkn tk) := ec
      have eb : b &&& 1 = b := by rcases hb with rfl | rfl <;> decide
      rw [ec0, if_pos (nI_in (by omega) (by decide)), nI_clamp (by omega), nI_1, eb]
      refine ⟨_, rfl, ?_⟩
      have eb2 : (if b = 0 then (0 : Int32) else 1) = b := by rcases hb with rfl | rfl <;> decide
      refine ⟨show tkn tk + 1 ≤ 1000 by omega, rfl, fun i hi => ?_⟩
      have hi' : i < tkn tk + 1 := hi
      show upd (q_kinds mo) (tkn tk) k i = upd (tkK (k_room tk)) (tkn tk) k i ∧ upd (q_words mo) (tkn tk) w i = upd (tkW (k_room tk)) (tkn tk) w i ∧ upd (q_names mo) (tkn tk) n i = upd (tkN (k_room tk)) (tkn tk) n i ∧ upd (q_lines mo) (tkn tk) b i = upd (tkL (k_room tk)) (tkn tk) (if b = 0 then 0 else 1) i ∧ (upd (tkL (k_room tk)) (tkn tk) (if b = 0 then 0 else 1) i = 0 ∨ upd (tkL (k_room tk)) (tkn tk) (if b = 0 then 0 else 1) i = 1) ∧ f_Tk_known (upd (tkK (k_room tk)) (tkn tk) k i) (upd (tkW (k_room tk)) (tkn tk) w i) (upd (tkN (k_room tk)) (tkn tk) n i) = 1
      rw [eb2]
      by_cases ci : i = tkn tk
      · subst ci
        simp only [up_eq]
        exact ⟨trivial, trivial, trivial, trivial, hb, h⟩
      · simp only [up_ne ci]
        obtain ⟨r1, r2, r3, r4⟩ := k_room_i hk (show i < tkn tk by omega)
        rw [r1, r2, r3, r4]
        exact hR.2.2 i (by omega)
