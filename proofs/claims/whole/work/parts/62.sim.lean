/-! the pure level: the two models side by side -/
abbrev Nd : Type := Int32 × Int32 × Int32 × Int32
/-- both refuse at one place, or both answer, and what they leave is as Q says -/
def Sim (x : Rz) (y : Rm) (Q : Int32 → ST → Int32 → MO → Prop) : Prop :=
  (∃ p c s mo, x = some (.inl (p, c, s)) ∧ y = some (.inl mo) ∧ q_place mo = p ∧ ¬ p = -1) ∨ ∃ r st n mo, x = some (.inr (r, st)) ∧ y = some (.inr (n, mo)) ∧ Q r st n mo
theorem n10 : ¬ (1 : Int32) = 0 := by decide
theorem bnd_some (r : Int32) (s : ST) (k : Int32 → ST → Rz) : bnd (some (.inr (r, s))) k = k r s := rfl
theorem bndM_some (r : Int32) (s : MO) (k : Int32 → MO → Rm) : bndM (some (.inr (r, s))) k = k r s := rfl
theorem t01 {c : Prop} [Decidable c] : ((if c then (1 : Int32) else 0) = 0) = ¬ c := by
  by_cases h : c
  · rw [if_pos h]; simp [h]
  · rw [if_neg h]; simp [h]
theorem Sim_ret {r n : Int32} {st : ST} {mo : MO} {Q : Int32 → ST → Int32 → MO → Prop} (h : Q r st n mo) : Sim (some (.inr (r, st))) (some (.inr (n, mo))) Q := Or.inr ⟨r, st, n, mo, rfl, rfl, h⟩
theorem Sim_mono {x : Rz} {y : Rm} {Q Q' : Int32 → ST → Int32 → MO → Prop} (h : Sim x y Q) (hk : ∀ r st n mo, Q r st n mo → Q' r st n mo) : Sim x y Q' := by
  rcases h with h | ⟨r, st, n, mo, h1, h2, h3⟩
  · exact Or.inl h
  · exact Or.inr ⟨r, st, n, mo, h1, h2, hk r st n mo h3⟩
theorem Sim_bind {x : Rz} {y : Rm} {Q Q' : Int32 → ST → Int32 → MO → Prop} {k : Int32 → ST → Rz} {k' : Int32 → MO → Rm} (h : Sim x y Q) (hk : ∀ r st n mo, Q r st n mo → Sim (k r st) (k' n mo) Q') : Sim (bnd x k) (bndM y k') Q' := by
  rcases h with ⟨p, c, s, mo, rfl, rfl, hp, hn⟩ | ⟨r, st, n, mo, rfl, rfl, hq⟩
  · exact Or.inl ⟨p, c, s, mo, rfl, rfl, hp, hn⟩
  · exact hk r st n mo hq
theorem Sim_bindC {x : Rz} {y : Rm} {Q Q' : Int32 → ST → Int32 → MO → Prop} {k : Int32 → ST → Rz} (h : Sim x y Q) (hk : ∀ r st n mo, Q r st n mo → Sim (k r st) (some (.inr (n, mo))) Q') : Sim (bnd x k) y Q' := by
  rcases h with ⟨p, c, s, mo, rfl, rfl, hp, hn⟩ | ⟨r, st, n, mo, rfl, rfl, hq⟩
  · exact Or.inl ⟨p, c, s, mo, rfl, rfl, hp, hn⟩
  · exact hk r st n mo hq
theorem Sim_bindM {x : Rz} {y : Rm} {Q Q' : Int32 → ST → Int32 → MO → Prop} {k' : Int32 → MO → Rm} (h : Sim x y Q) (hk : ∀ r st n mo, Q r st n mo → Sim (some (.inr (r, st))) (k' n mo) Q') : Sim x (bndM y k') Q' := by
  rcases h with ⟨p, c, s, mo, rfl, rfl, hp, hn⟩ | ⟨r, st, n, mo, rfl, rfl, hq⟩
  · exact Or.inl ⟨p, c, s, mo, rfl, rfl, hp, hn⟩
  · exact hk r st n mo hq
theorem Sim_c {x : Rz} {y : Rm} {r : Int32} {st : ST} {Q : Int32 → ST → Int32 → MO → Prop} {k : Int32 → ST → Rz} (h : x = some (.inr (r, st))) (hk : Sim (k r st) y Q) : Sim (bnd x k) y Q := by
  subst h; exact hk
theorem Sim_m {x : Rz} {y : Rm} {n : Int32} {mo : MO} {Q : Int32 → ST → Int32 → MO → Prop} {k : Int32 → MO → Rm} (h : y = some (.inr (n, mo))) (hk : Sim x (k n mo) Q) : Sim x (bndM y k) Q := by
  subst h; exact hk
theorem Sim_ref {st : ST} {mo : MO} {p p' : Int32} {Q : Int32 → ST → Int32 → MO → Prop} {k : Int32 → ST → Rz} {k' : Int32 → MO → Rm} (hc : 1 ≤ bC st) (hs : 6 ≤ bS st) (hp : ¬ p = -1) (he : p' = p) : Sim (bnd (f_Cu_refuse st p) k) (bndM (f_Mo_refuse mo p') k') Q := by
  subst he
  have e : f_Cu_refuse st p' = some (.inl (p', bC st - 1, bS st - 6)) := by
    unfold f_Cu_refuse
    exact if_neg (by omega)
  rw [e]
  exact Or.inl ⟨p', bC st - 1, bS st - 6, s_place mo p', rfl, rfl, rfl, hp⟩
/-! the class's tree as a list -/
def Tl (t : TR) (L : List Nd) : Prop := trn t = L.length ∧ ∀ i, i < L.length → L[i]? = some (trK t i, trV t i, trW t i, trS t i)
theorem t_room_i {t : TR} {i : Nat} (hi : i < trn t) (hc : trn t ≤ trc t) : (trK (t_room t) i, trV (t_room t) i, trW (t_room t) i, trS (t_room t) i) = (trK t i, trV t i, trW t i, trS t i) := by
  have h : ∀ f : Nat → Int32, cpn f (trc t) i = f i := by
    intro f
    show (if 0 ≤ i ∧ i < 0 + trc t then f (0 + (i - 0)) else 0) = f i
    rw [if_pos ⟨Nat.zero_le _, by omega⟩]
    congr 1
    omega
  unfold t_room
  split
  · show (cpn (trK t) (trc t) i, cpn (trV t) (trc t) i, cpn (trW t) (trc t) i, cpn (trS t) (trc t) i) = _
    rw [h, h, h, h]
  · rfl
theorem Tl_open {t : TR} {L : List Nd} (h : Tl t L) (hc : trn t ≤ trc t) (k v w : Int32) : Tl (t_open t k v w) (L ++ [(k, v, w, 1)]) := by
  obtain ⟨h1, h2⟩ := h
  have hr := t_room_n t
  refine ⟨?_, ?_⟩
  · show trn (t_room t) + 1 = _
    rw [hr, h1, List.length_append]; rfl
  · intro i hi
    have hi' : i < L.length + 1 := by rw [List.length_append] at hi; exact hi
    show (L ++ [(k, v, w, (1 : Int32))])[i]? = some (upd (trK (t_room t)) (trn t) k i, upd (trV (t_room t)) (trn t) v i, upd (trW (t_room t)) (trn t) w i, upd (trS (t_room t)) (trn t) 1 i)
    by_cases e : i = L.length
    · subst e
      rw [List.getElem?_append_right (Nat.le_refl _), Nat.sub_self, h1]
      simp [upd]
    · have hl : i < L.length := by omega
      have hne : ¬ i = trn t := by omega
      have h3 := t_room_i (t := t) (i := i) (by omega) hc
      rw [List.getElem?_append_left hl, h2 i hl, ← h3]
      simp only [upd, hne, if_false]
theorem Tl_at {t : TR} {pre bd : List Nd} {x : Nd} (h : Tl t (pre ++ x :: bd)) : (trK t pre.length, trV t pre.length, trW t pre.length, trS t pre.length) = x := by
  have h1 := h.2 pre.length (by simp)
  have h2 : (pre ++ x :: bd)[pre.length]? = some x := by simp
  rw [h2] at h1
  exact (Option.some.inj h1).symm
theorem Tl_upd {t t' : TR} {pre bd : List Nd} {x y : Nd} (h : Tl t (pre ++ x :: bd)) (hn : trn t' = trn t) (hy : (trK t' pre.length, trV t' pre.length, trW t' pre.length, trS t' pre.length) = y)
    (ho : ∀ i, ¬ i = pre.length → (trK t' i, trV t' i, trW t' i, trS t' i) = (trK t i, trV t i, trW t i, trS t i)) : Tl t' (pre ++ y :: bd) := by
  have hl : (pre ++ y :: bd).length = (pre ++ x :: bd).length := by simp
  refine ⟨by rw [hn, h.1, hl], fun i hi => ?_⟩
  by_cases c : i = pre.length
  · subst c
    rw [hy]
    simp
  · rw [ho i c, ← h.2 i (by rw [← hl]; exact hi)]
    by_cases c1 : i < pre.length
    · rw [List.getElem?_append_left c1, List.getElem?_append_left c1]
    · rw [List.getElem?_append_right (by omega), List.getElem?_append_right (by omega)]
      obtain ⟨q, hq⟩ : ∃ q, i - pre.length = q + 1 := ⟨i - pre.length - 1, by omega⟩
      rw [hq]
      rfl
theorem has1 {t : TR} {j : Nat} (hj : j < trn t) (hb : trn t < 2 ^ 31) : ¬ f_Tr_has t (nI j) = 0 := by
  unfold f_Tr_has
  rw [if_neg (nI_pos (by omega)), if_neg (nI_ge hj hb)]
  decide
theorem Tl_close {t : TR} {pre bd : List Nd} {k v w z : Int32} (h : Tl t (pre ++ (k, v, w, z) :: bd)) (hb : trn t < 2 ^ 31) : Tl (t_close t (nI pre.length)) (pre ++ (k, v, w, nI (bd.length + 1)) :: bd) := by
  have hn : trn t = pre.length + (bd.length + 1) := by rw [h.1]; simp
  have hx := Tl_at h
  have e : t_close t (nI pre.length) = (trK t, trV t, trW t, upd (trS t) pre.length (nI (bd.length + 1)), trn t, trc t) := by
    unfold t_close
    have hsub : trn t - pre.length = bd.length + 1 := by omega
    rw [if_neg (has1 (by omega) hb), nI_clamp (by omega), pk_sub (by omega), hsub]
  rw [e]
  refine Tl_upd h rfl ?_ ?_
  · show (trK t pre.length, trV t pre.length, trW t pre.length, upd (trS t) pre.length (nI (bd.length + 1)) pre.length) = _
    have h1 : trK t pre.length = k := congrArg (fun q : Nd => q.1) hx
    have h2 : trV t pre.length = v := congrArg (fun q : Nd => q.2.1) hx
    have h3 : trW t pre.length = w := congrArg (fun q : Nd => q.2.2.1) hx
    rw [h1, h2, h3]
    simp [upd]
  · intro i hi
    show (trK t i, trV t i, trW t i, upd (trS t) pre.length (nI (bd.length + 1)) i) = _
    simp only [upd, hi, if_false]
theorem Tl_setV {t : TR} {pre bd : List Nd} {k v w z : Int32} (x : Int32) (h : Tl t (pre ++ (k, v, w, z) :: bd)) (hb : trn t < 2 ^ 31) : Tl (t_setValue t (nI pre.length) x) (pre ++ (k, x, w, z) :: bd) := by
  have hn : trn t = pre.length + (bd.length + 1) := by rw [h.1]; simp
  have hx := Tl_at h
  have e : t_setValue t (nI pre.length) x = (trK t, upd (trV t) pre.length x, trW t, trS t, trn t, trc t) := by
    unfold t_setValue
    rw [if_neg (has1 (by omega) hb), nI_clamp (by omega)]
  rw [e]
  refine Tl_upd h rfl ?_ ?_
  · show (trK t pre.length, upd (trV t) pre.length x pre.length, trW t pre.length, trS t pre.length) = _
    have h1 : trK t pre.length = k := congrArg (fun q : Nd => q.1) hx
    have h3 : trW t pre.length = w := congrArg (fun q : Nd => q.2.2.1) hx
    have h4 : trS t pre.length = z := congrArg (fun q : Nd => q.2.2.2) hx
    rw [h1, h3, h4]
    simp [upd]
  · intro i hi
    show (trK t i, upd (trV t) pre.length x i, trW t i, trS t i) = _
    simp only [upd, hi, if_false]
theorem Tl_setK {t : TR} {pre bd : List Nd} {k v w z : Int32} (x : Int32) (h : Tl t (pre ++ (k, v, w, z) :: bd)) (hb : trn t < 2 ^ 31) : Tl (t_setKind t (nI pre.length) x) (pre ++ (x, v, w, z) :: bd) := by
  have hn : trn t = pre.length + (bd.length + 1) := by rw [h.1]; simp
  have hx := Tl_at h
  have e : t_setKind t (nI pre.length) x = (upd (trK t) pre.length x, trV t, trW t, trS t, trn t, trc t) := by
    unfold t_setKind
    rw [if_neg (has1 (by omega) hb), nI_clamp (by omega)]
  rw [e]
  refine Tl_upd h rfl ?_ ?_
  · show (upd (trK t) pre.length x pre.length, trV t pre.length, trW t pre.length, trS t pre.length) = _
    have h2 : trV t pre.length = v := congrArg (fun q : Nd => q.2.1) hx
    have h3 : trW t pre.length = w := congrArg (fun q : Nd => q.2.2.1) hx
    have h4 : trS t pre.length = z := congrArg (fun q : Nd => q.2.2.2) hx
    rw [h2, h3, h4]
    simp [upd]
  · intro i hi
    show (upd (trK t) pre.length x i, trV t i, trW t i, trS t i) = _
    simp only [upd, hi, if_false]
theorem Tl_wrap {t : TR} {pre sg : List Nd} (k v w : Int32) (h : Tl t (pre ++ sg)) (hs : 0 < sg.length) (hc : trn t ≤ trc t) (hb : trn t < 2 ^ 30) : Tl (t_wrap t (nI pre.length) k v w) (pre ++ (k, v, w, nI (sg.length + 1)) :: sg) := by
  have hn : trn t = pre.length + sg.length := by rw [h.1]; simp
  have hr := t_room_n t
  have e : t_wrap t (nI pre.length) k v w = t_inc (t_put (t_shift (t_room t) pre.length) pre.length k v w (nI (sg.length + 1))) := by
    unfold t_wrap
    rw [if_neg (has1 (by omega) (by omega)), nI_clamp (by omega), pk_sub (by omega), nI_1]
    congr 3
    omega
  rw [e]
  refine ⟨?_, fun i hi => ?_⟩
  · show trn (t_room t) + 1 = _
    rw [hr, hn]; simp; omega
  · have hi' : i < pre.length + (sg.length + 1) := by simpa using hi
    have hsh : ∀ f : Nat → Int32, va_cpy f f pre.length (pre.length + 1) (trn (t_room t) - pre.length) i = if pre.length < i then f (i - 1) else f i := by
      intro f
      show (if pre.length + 1 ≤ i ∧ i < pre.length + 1 + (trn (t_room t) - pre.length) then f (pre.length + (i - (pre.length + 1))) else f i) = _
      by_cases c : pre.length < i
      · rw [if_pos c, if_pos ⟨by omega, by omega⟩]
        congr 1
        omega
      · rw [if_neg c, if_neg (by omega)]
    show _ = some (upd (va_cpy (trK (t_room t)) (trK (t_room t)) pre.length (pre.length + 1) (trn (t_room t) - pre.length)) pre.length k i, upd (va_cpy (trV (t_room t)) (trV (t_room t)) pre.length (pre.length + 1) (trn (t_room t) - pre.length)) pre.length v i, upd (va_cpy (trW (t_room t)) (trW (t_room t)) pre.length (pre.length + 1) (trn (t_room t) - pre.length)) pre.length w i, upd (va_cpy (trS (t_room t)) (trS (t_room t)) pre.length (pre.length + 1) (trn (t_room t) - pre.length)) pre.length (nI (sg.length + 1)) i)
    by_cases c : i = pre.length
    · subst c
      simp [upd]
    · simp only [upd, c, if_false, hsh]
      by_cases c1 : i < pre.length
      · have c2 : ¬ pre.length < i := by omega
        simp only [c2, if_false]
        rw [t_room_i (by omega) hc, List.getElem?_append_left c1, ← h.2 i (by simp; omega), List.getElem?_append_left c1]
      · have c2 : pre.length < i := by omega
        simp only [c2, if_true]
        rw [t_room_i (by omega) hc, ← h.2 (i - 1) (by simp; omega), List.getElem?_append_right (by omega), List.getElem?_append_right (by omega)]
        obtain ⟨q, hq⟩ : ∃ q, i - pre.length = q + 1 := ⟨i - pre.length - 1, by omega⟩
        have hq2 : i - 1 - pre.length = q := by omega
        rw [hq, hq2]
        rfl
/-! the class's state, told by what it holds -/
def gC (tk : TK) (lb : LB) (co : CO) (a : Nat) (li : Int32) (L : List Nd) (st : ST) : Prop :=
  ∃ (tr : TR) (ra : Int32) (bc bs : Nat), st = (tk, tr, lb, co, nI a, ra, li, bc, bs) ∧ Tl tr L ∧ trn tr ≤ trc tr ∧ 64 ≤ trc tr ∧ (2 * tkn tk + 8 - trc tr) + (tkn tk - a) + 1 ≤ bc ∧ 8 * (2 * (2 * tkn tk + 8) - trc tr) + 5 * (tkn tk - a) + 6 ≤ bs
section PUC
variable {tk : TK} {lb : LB} {co : CO} {a : Nat} {li : Int32} {L : List Nd} {st : ST}
theorem gC_tk (h : gC tk lb co a li L st) : sTk st = tk := by obtain ⟨tr, ra, bc, bs, rfl, _⟩ := h; rfl
theorem gC_lb (h : gC tk lb co a li L st) : sLb st = lb := by obtain ⟨tr, ra, bc, bs, rfl, _⟩ := h; rfl
theorem gC_co (h : gC tk lb co a li L st) : sCo st = co := by obtain ⟨tr, ra, bc, bs, rfl, _⟩ := h; rfl
theorem gC_at (h : gC tk lb co a li L st) : sAt st = nI a := by obtain ⟨tr, ra, bc, bs, rfl, _⟩ := h; rfl
theorem gC_li (h : gC tk lb co a li L st) : sLi st = li := by obtain ⟨tr, ra, bc, bs, rfl, _⟩ := h; rfl
theorem gC_tr (h : gC tk lb co a li L st) : Tl (sTr st) L := by obtain ⟨tr, ra, bc, bs, rfl, hL, _⟩ := h; exact hL
theorem gC_bC (h : gC tk lb co a li L st) : 1 ≤ bC st := by obtain ⟨tr, ra, bc, bs, rfl, hL, h1, h2, h3, h4⟩ := h; show 1 ≤ bc; omega
theorem gC_bS (h : gC tk lb co a li L st) : 6 ≤ bS st := by obtain ⟨tr, ra, bc, bs, rfl, hL, h1, h2, h3, h4⟩ := h; show 6 ≤ bs; omega
theorem gC_at' (h : gC tk lb co a li L st) {a' : Nat} (ha : a ≤ a') {v : Int32} (hv : v = nI a') : gC tk lb co a' li L (setAt st v) := by
  obtain ⟨tr, ra, bc, bs, rfl, hL, h1, h2, h3, h4⟩ := h
  subst hv
  exact ⟨tr, ra, bc, bs, rfl, hL, h1, h2, by omega, by omega⟩
theorem gC_inc (h : gC tk lb co a li L st) : gC tk lb co (a + 1) li L (setAt st (sAt st + 1)) := gC_at' h (Nat.le_succ a) (by rw [gC_at h, nI_1])
theorem gC_setLi (h : gC tk lb co a li L st) (v : Int32) : gC tk lb co a v L (setLi st v) := by
  obtain ⟨tr, ra, bc, bs, rfl, hL, h1⟩ := h
  exact ⟨tr, ra, bc, bs, rfl, hL, h1⟩
theorem gC_setCo (h : gC tk lb co a li L st) (v : CO) : gC tk lb v a li L (setCo st v) := by
  obtain ⟨tr, ra, bc, bs, rfl, hL, h1⟩ := h
  exact ⟨tr, ra, bc, bs, rfl, hL, h1⟩
theorem gC_setLb (h : gC tk lb co a li L st) (v : LB) : gC tk v co a li L (setLb st v) := by
  obtain ⟨tr, ra, bc, bs, rfl, hL, h1⟩ := h
  exact ⟨tr, ra, bc, bs, rfl, hL, h1⟩
theorem gC_refuse (h : gC tk lb co a li L st) {mo : MO} {p p' : Int32} {Q : Int32 → ST → Int32 → MO → Prop} {k : Int32 → ST → Rz} {k' : Int32 → MO → Rm} (hp : ¬ p = -1) (he : p' = p) : Sim (bnd (f_Cu_refuse st p) k) (bndM (f_Mo_refuse mo p') k') Q := Sim_ref (gC_bC h) (gC_bS h) hp he
theorem cs_open (h : gC tk lb co a li L st) (hl : L.length ≤ 2 * tkn tk + 3) (hT : tkn tk ≤ 1000) (k v w : Int32) : ∃ st', p_open st k v w = some (.inr (nI L.length, st')) ∧ gC tk lb co a li (L ++ [(k, v, w, 1)]) st' := by
  obtain ⟨tr, ra, bc, bs, rfl, hL, h1, h2, h3, h4⟩ := h
  have hn : trn tr = L.length := hL.1
  have hr := t_room_n tr
  have hc : rcT tr ≤ bc ∧ rsT tr ≤ bs ∧ (2 * tkn tk + 8 - trc (t_room tr)) + (tkn tk - a) + 1 ≤ bc - rcT tr ∧ 8 * (2 * (2 * tkn tk + 8) - trc (t_room tr)) + 5 * (tkn tk - a) + 6 ≤ bs - rsT tr ∧ trn tr + 1 ≤ trc (t_room tr) ∧ 64 ≤ trc (t_room tr) := by
    by_cases e : trn tr = trc tr
    · have r1 : rcT tr = 4 := if_pos e
      have r2 : rsT tr = 8 * trn tr := if_pos e
      have r3 : trc (t_room tr) = 2 * trn tr := by unfold t_room; rw [if_pos e]
      omega
    · have r1 : rcT tr = 0 := if_neg e
      have r2 : rsT tr = 0 := if_neg e
      have r3 : trc (t_room tr) = trc tr := by unfold t_room; rw [if_neg e]
      omega
  refine ⟨(tk, t_open tr k v w, lb, co, nI a, ra, li, bc - rcT tr, bs - rsT tr), ?_, t_open tr k v w, ra, bc - rcT tr, bs - rsT tr, rfl, Tl_open hL h1 k v w, ?_, hc.2.2.2.2.2, hc.2.2.1, hc.2.2.2.1⟩
  · rw [← hn]
    exact if_pos ⟨by show trn tr < 2 ^ 20; omega, by show 0 < trc tr; omega, hc.1, hc.2.1⟩
  · show trn (t_room tr) + 1 ≤ trc (t_room tr)
    omega
theorem cs_close {pre bd : List Nd} {k v w z : Int32} {i : Int32} (h : gC tk lb co a li L st) (e : L = pre ++ (k, v, w, z) :: bd) (hb : L.length < 2 ^ 20) (hi : i = nI pre.length) : ∃ st', p_close st i = some (.inr (0, st')) ∧ gC tk lb co a li (pre ++ (k, v, w, nI (bd.length + 1)) :: bd) st' := by
  subst hi; subst e
  obtain ⟨tr, ra, bc, bs, rfl, hL, h1, h2, h3, h4⟩ := h
  have hn : trn tr < 2 ^ 31 := by rw [hL.1]; omega
  have e1 : trn (t_close tr (nI pre.length)) = trn tr := by unfold t_close; split <;> rfl
  have e2 : trc (t_close tr (nI pre.length)) = trc tr := by unfold t_close; split <;> rfl
  exact ⟨_, rfl, t_close tr (nI pre.length), ra, bc, bs, rfl, Tl_close hL hn, by omega, by omega, by omega, by omega⟩
theorem cs_setV {pre bd : List Nd} {k v w z : Int32} {i x : Int32} (h : gC tk lb co a li L st) (e : L = pre ++ (k, v, w, z) :: bd) (hb : L.length < 2 ^ 20) (hi : i = nI pre.length) : ∃ st', p_setValue st i x = some (.inr (0, st')) ∧ gC tk lb co a li (pre ++ (k, x, w, z) :: bd) st' := by
  subst hi; subst e
  obtain ⟨tr, ra, bc, bs, rfl, hL, h1, h2, h3, h4⟩ := h
  have hn : trn tr < 2 ^ 31 := by rw [hL.1]; omega
  have e1 : trn (t_setValue tr (nI pre.length) x) = trn tr := by unfold t_setValue; split <;> rfl
  have e2 : trc (t_setValue tr (nI pre.length) x) = trc tr := by unfold t_setValue; split <;> rfl
  exact ⟨_, rfl, t_setValue tr (nI pre.length) x, ra, bc, bs, rfl, Tl_setV x hL hn, by omega, by omega, by omega, by omega⟩
theorem cs_setK {pre bd : List Nd} {k v w z : Int32} {i x : Int32} (h : gC tk lb co a li L st) (e : L = pre ++ (k, v, w, z) :: bd) (hb : L.length < 2 ^ 20) (hi : i = nI pre.length) : ∃ st', p_setKind st i x = some (.inr (0, st')) ∧ gC tk lb co a li (pre ++ (x, v, w, z) :: bd) st' := by
  subst hi; subst e
  obtain ⟨tr, ra, bc, bs, rfl, hL, h1, h2, h3, h4⟩ := h
  have hn : trn tr < 2 ^ 31 := by rw [hL.1]; omega
  have e1 : trn (t_setKind tr (nI pre.length) x) = trn tr := by unfold t_setKind; split <;> rfl
  have e2 : trc (t_setKind tr (nI pre.length) x) = trc tr := by unfold t_setKind; split <;> rfl
  exact ⟨_, rfl, t_setKind tr (nI pre.length) x, ra, bc, bs, rfl, Tl_setK x hL hn, by omega, by omega, by omega, by omega⟩
theorem cs_wrap {pre sg : List Nd} {i : Int32} (h : gC tk lb co a li L st) (e : L = pre ++ sg) (hs : 0 < sg.length) (hl : L.length ≤ 2 * tkn tk + 3) (hT : tkn tk ≤ 1000) (k v w : Int32) (hi : i = nI pre.length) : ∃ st', p_wrap st i k v w = some (.inr (0, st')) ∧ gC tk lb co a li (pre ++ (k, v, w, nI (sg.length + 1)) :: sg) st' := by
  subst hi; subst e
  obtain ⟨tr, ra, bc, bs, rfl, hL, h1, h2, h3, h4⟩ := h
  have hn : trn tr = (pre ++ sg).length := hL.1
  have hn2 : (pre ++ sg).length = pre.length + sg.length := by simp
  have hr := t_room_n tr
  have hh : ¬ f_Tr_has tr (nI pre.length) = 0 := has1 (by omega) (by omega)
  have w1 : wcT tr (nI pre.length) = rcT tr := if_neg hh
  have w2 : wsT tr (nI pre.length) = rsT tr := if_neg hh
  have hc : rcT tr ≤ bc ∧ rsT tr ≤ bs ∧ (2 * tkn tk + 8 - trc (t_room tr)) + (tkn tk - a) + 1 ≤ bc - rcT tr ∧ 8 * (2 * (2 * tkn tk + 8) - trc (t_room tr)) + 5 * (tkn tk - a) + 6 ≤ bs - rsT tr ∧ trn tr + 1 ≤ trc (t_room tr) ∧ 64 ≤ trc (t_room tr) := by
    by_cases e : trn tr = trc tr
    · have r1 : rcT tr = 4 := if_pos e
      have r2 : rsT tr = 8 * trn tr := if_pos e
      have r3 : trc (t_room tr) = 2 * trn tr := by unfold t_room; rw [if_pos e]
      omega
    · have r1 : rcT tr = 0 := if_neg e
      have r2 : rsT tr = 0 := if_neg e
      have r3 : trc (t_room tr) = trc tr := by unfold t_room; rw [if_neg e]
      omega
  have e1 : trn (t_wrap tr (nI pre.length) k v w) = trn (t_room tr) + 1 := by unfold t_wrap; rw [if_neg hh]; rfl
  have e2 : trc (t_wrap tr (nI pre.length) k v w) = trc (t_room tr) := by unfold t_wrap; rw [if_neg hh]; rfl
  refine ⟨(tk, t_wrap tr (nI pre.length) k v w, lb, co, nI a, ra, li, bc - rcT tr, bs - rsT tr), ?_, t_wrap tr (nI pre.length) k v w, ra, bc - rcT tr, bs - rsT tr, rfl, Tl_wrap k v w hL hs h1 (by omega), by omega, by omega, by omega, by omega⟩
  rw [← w1, ← w2]
  exact if_pos ⟨by show trn tr < 2 ^ 20; omega, by show 0 < trc tr; omega, by show wcT tr (nI pre.length) ≤ bc; omega, by show wsT tr (nI pre.length) ≤ bs; omega⟩
end PUC
