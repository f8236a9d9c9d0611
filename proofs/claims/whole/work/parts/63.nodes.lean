/-! the reference's nodes: a forest of first and next -/
abbrev nK (g : gN) : Nat → Int32 := g.1
abbrev nV (g : gN) : Nat → Int32 := g.2.1
abbrev nS (g : gN) : Nat → Int32 := g.2.2.1
abbrev nF (g : gN) : Nat → Int32 := g.2.2.2.1
abbrev nL (g : gN) : Nat → Int32 := g.2.2.2.2.1
abbrev nX (g : gN) : Nat → Int32 := g.2.2.2.2.2.1
abbrev nM (g : gN) : Int32 := g.2.2.2.2.2.2
theorem up_ne {f : Nat → Int32} {k i : Nat} {x : Int32} (h : ¬ i = k) : upd f k x i = f i := if_neg h
theorem up_eq {f : Nat → Int32} {k : Nat} {x : Int32} : upd f k x k = x := if_pos rfl
def mkN (g : gN) (m : Nat) (k v w : Int32) : gN := (upd (nK g) m k, upd (nV g) m v, upd (nS g) m w, upd (nF g) m (-1), upd (nL g) m (-1), upd (nX g) m (-1), nI (m + 1))
def hgN (g : gN) (p : Nat) (n : Int32) : gN := if 0 ≤ nF g p then (nK g, nV g, nS g, nF g, upd (nL g) p n, upd (nX g) (nL g p).toNatClampNeg n, nM g) else (nK g, nV g, nS g, upd (nF g) p n, upd (nL g) p n, nX g, nM g)
def svN (g : gN) (p : Nat) (v : Int32) : gN := (nK g, upd (nV g) p v, nS g, nF g, nL g, nX g, nM g)
def skN (g : gN) (p : Nat) (v : Int32) : gN := (upd (nK g) p v, nV g, nS g, nF g, nL g, nX g, nM g)
abbrev hdN (g : gN) (i : Nat) (bd : List Nd) : Nd := (nK g i, nV g i, nS g i, nI (bd.length + 1))
/-- from c on, along next, stand the trees that b lists in preorder, their nodes being ns -/
def Fo (g : gN) : Nat → Int32 → List Nd → List Nat → Prop
  | 0, _, _, _ => False
  | k + 1, c, b, ns => (c = -1 ∧ b = [] ∧ ns = []) ∨ ∃ i bd rs n1 n2, c = nI i ∧ i < 2600 ∧ b = hdN g i bd :: (bd ++ rs) ∧ ns = i :: (n1 ++ n2) ∧ Fo g k (nF g i) bd n1 ∧ Fo g k (nX g i) rs n2
/-- the same, and l is the last of them -/
def Fl (g : gN) (l : Nat) : Nat → Int32 → List Nd → List Nat → Prop
  | 0, _, _, _ => False
  | k + 1, c, b, ns => ∃ i bd rs n1 n2, c = nI i ∧ i < 2600 ∧ b = hdN g i bd :: (bd ++ rs) ∧ ns = i :: (n1 ++ n2) ∧ Fo g k (nF g i) bd n1 ∧ ((i = l ∧ nX g i = -1 ∧ rs = [] ∧ n2 = []) ∨ Fl g l k (nX g i) rs n2)
theorem m1_ne (i : Nat) (h : i < 2600) : ¬ nI i = -1 := by
  intro e
  have h1 : (nI i).toInt = (i : Int) := nI_toInt (by omega)
  rw [e] at h1
  have h2 : (-1 : Int32).toInt = -1 := by decide
  omega
theorem Fo_up {g : gN} : ∀ {k : Nat} {c : Int32} {b : List Nd} {ns : List Nat}, Fo g k c b ns → ∀ k', k ≤ k' → Fo g k' c b ns := by
  intro k
  induction k with
  | zero => intro c b ns h; exact h.elim
  | succ k ih =>
    intro c b ns h k' hk
    obtain ⟨q, rfl⟩ : ∃ q, k' = q + 1 := ⟨k' - 1, by omega⟩
    rcases h with h | ⟨i, bd, rs, n1, n2, h1, h2, h3, h4, h5, h6⟩
    · exact Or.inl h
    · exact Or.inr ⟨i, bd, rs, n1, n2, h1, h2, h3, h4, ih h5 q (by omega), ih h6 q (by omega)⟩
theorem Fl_up {g : gN} {l : Nat} : ∀ {k : Nat} {c : Int32} {b : List Nd} {ns : List Nat}, Fl g l k c b ns → ∀ k', k ≤ k' → Fl g l k' c b ns := by
  intro k
  induction k with
  | zero => intro c b ns h; exact h.elim
  | succ k ih =>
    intro c b ns h k' hk
    obtain ⟨q, rfl⟩ : ∃ q, k' = q + 1 := ⟨k' - 1, by omega⟩
    obtain ⟨i, bd, rs, n1, n2, h1, h2, h3, h4, h5, h6⟩ := h
    refine ⟨i, bd, rs, n1, n2, h1, h2, h3, h4, Fo_up h5 q (by omega), ?_⟩
    rcases h6 with h6 | h6
    · exact Or.inl h6
    · exact Or.inr (ih h6 q (by omega))
theorem Fo_len {g : gN} : ∀ {k : Nat} {c : Int32} {b : List Nd} {ns : List Nat}, Fo g k c b ns → ns.length = b.length := by
  intro k
  induction k with
  | zero => intro c b ns h; exact h.elim
  | succ k ih =>
    intro c b ns h
    rcases h with ⟨_, rfl, rfl⟩ | ⟨i, bd, rs, n1, n2, h1, h2, rfl, rfl, h5, h6⟩
    · rfl
    · have e1 := ih h5
      have e2 := ih h6
      simp only [List.length_cons, List.length_append]
      omega
/-- two stores agree at a node -/
def Ag (g g' : gN) (i : Nat) : Prop := nK g' i = nK g i ∧ nV g' i = nV g i ∧ nS g' i = nS g i ∧ nF g' i = nF g i ∧ nX g' i = nX g i
theorem Fo_ag {g g' : gN} : ∀ {k : Nat} {c : Int32} {b : List Nd} {ns : List Nat}, Fo g k c b ns → (∀ i, i ∈ ns → Ag g g' i) → Fo g' k c b ns := by
  intro k
  induction k with
  | zero => intro c b ns h; exact h.elim
  | succ k ih =>
    intro c b ns h ha
    rcases h with h | ⟨i, bd, rs, n1, n2, h1, h2, h3, h4, h5, h6⟩
    · exact Or.inl h
    · subst h4
      obtain ⟨a1, a2, a3, a4, a5⟩ := ha i (by simp)
      refine Or.inr ⟨i, bd, rs, n1, n2, h1, h2, ?_, rfl, ?_, ?_⟩
      · rw [h3]; unfold hdN; rw [a1, a2, a3]
      · rw [a4]; exact ih h5 (fun j hj => ha j (by simp [hj]))
      · rw [a5]; exact ih h6 (fun j hj => ha j (by simp [hj]))
theorem Fl_ag {g g' : gN} {l : Nat} : ∀ {k : Nat} {c : Int32} {b : List Nd} {ns : List Nat}, Fl g l k c b ns → (∀ i, i ∈ ns → Ag g g' i) → Fl g' l k c b ns := by
  intro k
  induction k with
  | zero => intro c b ns h; exact h.elim
  | succ k ih =>
    intro c b ns h ha
    obtain ⟨i, bd, rs, n1, n2, h1, h2, h3, h4, h5, h6⟩ := h
    subst h4
    obtain ⟨a1, a2, a3, a4, a5⟩ := ha i (by simp)
    refine ⟨i, bd, rs, n1, n2, h1, h2, ?_, rfl, ?_, ?_⟩
    · rw [h3]; unfold hdN; rw [a1, a2, a3]
    · rw [a4]; exact Fo_ag h5 (fun j hj => ha j (by simp [hj]))
    · rw [a5]
      rcases h6 with h6 | h6
      · exact Or.inl h6
      · exact Or.inr (ih h6 (fun j hj => ha j (by simp [hj])))
theorem Fl_Fo {g : gN} {l : Nat} : ∀ {k : Nat} {c : Int32} {b : List Nd} {ns : List Nat}, Fl g l k c b ns → Fo g (k + 1) c b ns := by
  intro k
  induction k with
  | zero => intro c b ns h; exact h.elim
  | succ k ih =>
    intro c b ns h
    obtain ⟨i, bd, rs, n1, n2, h1, h2, h3, h4, h5, h6⟩ := h
    refine Or.inr ⟨i, bd, rs, n1, n2, h1, h2, h3, h4, Fo_up h5 (k + 1) (by omega), ?_⟩
    rcases h6 with ⟨_, h7, h8, h9⟩ | h6
    · exact Or.inl ⟨h7, h8, h9⟩
    · exact ih h6
theorem Fl_mem {g : gN} {l : Nat} : ∀ {k : Nat} {c : Int32} {b : List Nd} {ns : List Nat}, Fl g l k c b ns → l ∈ ns := by
  intro k
  induction k with
  | zero => intro c b ns h; exact h.elim
  | succ k ih =>
    intro c b ns h
    obtain ⟨i, bd, rs, n1, n2, h1, h2, h3, h4, h5, h6⟩ := h
    subst h4
    rcases h6 with ⟨h6, _⟩ | h6
    · subst h6; simp
    · have := ih h6; simp [this]
/-- one more tree behind the last -/
theorem Fl_app {g g' : gN} {l n : Nat} {bn : List Nd} {nn : List Nat} {kn : Nat} (hn : n < 2600) (h1 : Fo g' kn (nF g' n) bn nn) (hx : nX g' n = -1) (hl : nX g' l = nI n) :
    ∀ {k : Nat} {c : Int32} {b : List Nd} {ns : List Nat}, Fl g l k c b ns → ns.Nodup → (∀ i, i ∈ ns → ¬ i = l → Ag g g' i) → (nK g' l = nK g l ∧ nV g' l = nV g l ∧ nS g' l = nS g l ∧ nF g' l = nF g l) →
      Fl g' n (k + kn + 1) c (b ++ hdN g' n bn :: bn) (ns ++ n :: nn) := by
  intro k
  induction k with
  | zero => intro c b ns h; exact h.elim
  | succ k ih =>
    intro c b ns h hd ha hla
    obtain ⟨i, bd, rs, n1, n2, e1, e2, e3, e4, h5, h6⟩ := h
    subst e4; subst e3
    have hd1 : i ∉ n1 ++ n2 := (List.nodup_cons.mp hd).1
    have hd2 : (n1 ++ n2).Nodup := (List.nodup_cons.mp hd).2
    obtain ⟨hd3, hd4, hd5⟩ := List.nodup_append.mp hd2
    rw [show k + 1 + kn + 1 = (k + kn + 1) + 1 by omega]
    have fin : ∀ hl1 : l ∉ n1, Fo g' (k + kn + 1) (nF g i) bd n1 := by
      intro hl1
      refine Fo_up (Fo_ag h5 (fun j hj => ha j (by simp [hj]) ?_)) _ (by omega)
      intro e; subst e; exact hl1 hj
    rcases h6 with ⟨e6, e7, e8, e9⟩ | h6
    · subst e6; subst e8; subst e9
      have hi1 : i ∉ n1 := fun h => hd1 (by simp [h])
      obtain ⟨a1, a2, a3, a4⟩ := hla
      refine ⟨i, bd, hdN g' n bn :: bn, n1, n :: nn, e1, e2, ?_, by simp, ?_, Or.inr ?_⟩
      · unfold hdN; rw [a1, a2, a3]; simp
      · rw [a4]; exact fin hi1
      · rw [hl]
        rw [show k + kn + 1 = (k + kn) + 1 by omega]
        exact ⟨n, bn, [], nn, [], rfl, hn, by simp, by simp, Fo_up h1 _ (by omega), Or.inl ⟨rfl, hx, rfl, rfl⟩⟩
    · have hlm := Fl_mem h6
      have hil : ¬ i = l := by intro e; subst e; exact hd1 (by simp [hlm])
      have hl1 : l ∉ n1 := fun h => hd5 l h l hlm rfl
      obtain ⟨a1, a2, a3, a4, a5⟩ := ha i (by simp) hil
      refine ⟨i, bd, rs ++ hdN g' n bn :: bn, n1, n2 ++ n :: nn, e1, e2, ?_, by simp, ?_, Or.inr ?_⟩
      · unfold hdN; rw [a1, a2, a3]; simp
      · rw [a4]; exact fin hl1
      · rw [a5]; exact ih h6 hd4 (fun j hj => ha j (by simp [hj])) hla
/-- a finished tree with root n, its nodes between lo and hi -/
def One (g : gN) (n : Nat) (sg : List Nd) (lo hi : Nat) : Prop :=
  n < 2600 ∧ nX g n = -1 ∧ ∃ k bd ns, Fo g k (nF g n) bd ns ∧ (n :: ns).Nodup ∧ (∀ i, i ∈ n :: ns → lo ≤ i ∧ i < hi) ∧ sg = hdN g n bd :: bd
/-- what hangs at p so far -/
def Hg (g : gN) (p : Nat) (bd : List Nd) (lo hi : Nat) : Prop :=
  (bd = [] ∧ nF g p = -1) ∨ ∃ k ns l, l < 2600 ∧ nL g p = nI l ∧ Fl g l k (nF g p) bd ns ∧ ns.Nodup ∧ ¬ p ∈ ns ∧ ∀ i, i ∈ ns → lo ≤ i ∧ i < hi
/-- all below m is as it was -/
def FrN (g g' : gN) (m : Nat) : Prop := ∀ i, i < m → Ag g g' i ∧ nL g' i = nL g i
theorem FrN_refl (g : gN) (m : Nat) : FrN g g m := fun _ _ => ⟨⟨rfl, rfl, rfl, rfl, rfl⟩, rfl⟩
theorem FrN_trans {g1 g2 g3 : gN} {m m' : Nat} (h1 : FrN g1 g2 m) (h2 : FrN g2 g3 m') (hm : m ≤ m') : FrN g1 g3 m := by
  intro i hi
  obtain ⟨⟨a1, a2, a3, a4, a5⟩, a6⟩ := h1 i hi
  obtain ⟨⟨b1, b2, b3, b4, b5⟩, b6⟩ := h2 i (by omega)
  exact ⟨⟨b1.trans a1, b2.trans a2, b3.trans a3, b4.trans a4, b5.trans a5⟩, b6.trans a6⟩
theorem FrN_less {g g' : gN} {m z : Nat} (h : FrN g g' m) (hz : z ≤ m) : FrN g g' z := fun i hi => h i (by omega)
theorem FrN_mk (g : gN) (m : Nat) (k v w : Int32) {z : Nat} (hz : z ≤ m) : FrN g (mkN g m k v w) z := by
  intro i hi
  have h : ¬ i = m := by omega
  exact ⟨⟨up_ne h, up_ne h, up_ne h, up_ne h, up_ne h⟩, up_ne h⟩
theorem FrN_sv (g : gN) (p : Nat) (v : Int32) {z : Nat} (hz : z ≤ p) : FrN g (svN g p v) z := by
  intro i hi
  have h : ¬ i = p := by omega
  refine ⟨⟨rfl, ?_, rfl, rfl, rfl⟩, rfl⟩
  exact up_ne h
theorem FrN_sk (g : gN) (p : Nat) (v : Int32) {z : Nat} (hz : z ≤ p) : FrN g (skN g p v) z := by
  intro i hi
  have h : ¬ i = p := by omega
  refine ⟨⟨?_, rfl, rfl, rfl, rfl⟩, rfl⟩
  exact up_ne h
theorem One_fr {g g' : gN} {n lo hi m : Nat} {sg : List Nd} (h : One g n sg lo hi) (hf : FrN g g' m) (hm : hi ≤ m) : One g' n sg lo hi := by
  obtain ⟨h1, h2, k, bd, ns, h3, h4, h5, h6⟩ := h
  have ag : ∀ i, i ∈ n :: ns → Ag g g' i := fun i hi2 => (hf i (by have := (h5 i hi2).2; omega)).1
  obtain ⟨a1, a2, a3, a4, a5⟩ := ag n (by simp)
  refine ⟨h1, by rw [a5, h2], k, bd, ns, ?_, h4, h5, ?_⟩
  · rw [a4]; exact Fo_ag h3 (fun i hi2 => ag i (by simp [hi2]))
  · rw [h6]; unfold hdN; rw [a1, a2, a3]
theorem One_wd {g : gN} {n lo hi lo' hi' : Nat} {sg : List Nd} (h : One g n sg lo hi) (h1 : lo' ≤ lo) (h2 : hi ≤ hi') : One g n sg lo' hi' := by
  obtain ⟨e1, e2, k, bd, ns, e3, e4, e5, e6⟩ := h
  exact ⟨e1, e2, k, bd, ns, e3, e4, fun i hi2 => ⟨by have := (e5 i hi2).1; omega, by have := (e5 i hi2).2; omega⟩, e6⟩
theorem One_in {g : gN} {n lo hi : Nat} {sg : List Nd} (h : One g n sg lo hi) : lo ≤ n ∧ n < hi := by
  obtain ⟨e1, e2, k, bd, ns, e3, e4, e5, e6⟩ := h
  exact e5 n (by simp)
theorem One_pos {g : gN} {n lo hi : Nat} {sg : List Nd} (h : One g n sg lo hi) : 0 < sg.length := by
  obtain ⟨e1, e2, k, bd, ns, e3, e4, e5, e6⟩ := h
  rw [e6]; simp
theorem Hg_nil (g : gN) (p lo hi : Nat) (h : nF g p = -1) : Hg g p [] lo hi := Or.inl ⟨rfl, h⟩
theorem Hg_wd {g : gN} {p lo hi lo' hi' : Nat} {bd : List Nd} (h : Hg g p bd lo hi) (h1 : lo' ≤ lo) (h2 : hi ≤ hi') : Hg g p bd lo' hi' := by
  rcases h with h | ⟨k, ns, l, e1, e2, e3, e4, e5, e6⟩
  · exact Or.inl h
  · exact Or.inr ⟨k, ns, l, e1, e2, e3, e4, e5, fun i hi2 => ⟨by have := (e6 i hi2).1; omega, by have := (e6 i hi2).2; omega⟩⟩
theorem Hg_fr {g g' : gN} {p lo hi m : Nat} {bd : List Nd} (h : Hg g p bd lo hi) (hf : FrN g g' m) (hm : hi ≤ m) (hp : p < m) : Hg g' p bd lo hi := by
  obtain ⟨⟨a1, a2, a3, a4, a5⟩, a6⟩ := hf p hp
  rcases h with ⟨h1, h2⟩ | ⟨k, ns, l, e1, e2, e3, e4, e5, e6⟩
  · exact Or.inl ⟨h1, by rw [a4, h2]⟩
  · refine Or.inr ⟨k, ns, l, e1, by rw [a6, e2], ?_, e4, e5, e6⟩
    rw [a4]
    exact Fl_ag e3 (fun i hi2 => (hf i (by have := (e6 i hi2).2; omega)).1)
/-- a node's own kind or value may change while things hang at it -/
theorem Hg_sv {g : gN} {p lo hi : Nat} {bd : List Nd} (v : Int32) (h : Hg g p bd lo hi) : Hg (svN g p v) p bd lo hi := by
  rcases h with h | ⟨k, ns, l, e1, e2, e3, e4, e5, e6⟩
  · exact Or.inl h
  · refine Or.inr ⟨k, ns, l, e1, e2, ?_, e4, e5, e6⟩
    refine Fl_ag e3 (fun i hi2 => ?_)
    have hne : ¬ i = p := by intro e; subst e; exact e5 hi2
    refine ⟨rfl, ?_, rfl, rfl, rfl⟩
    exact up_ne hne
theorem Hg_sk {g : gN} {p lo hi : Nat} {bd : List Nd} (v : Int32) (h : Hg g p bd lo hi) : Hg (skN g p v) p bd lo hi := by
  rcases h with h | ⟨k, ns, l, e1, e2, e3, e4, e5, e6⟩
  · exact Or.inl h
  · refine Or.inr ⟨k, ns, l, e1, e2, ?_, e4, e5, e6⟩
    refine Fl_ag e3 (fun i hi2 => ?_)
    have hne : ¬ i = p := by intro e; subst e; exact e5 hi2
    refine ⟨?_, rfl, rfl, rfl, rfl⟩
    exact up_ne hne
/-- the node is finished -/
theorem Hg_one {g : gN} {p lo hi lo' hi' : Nat} {bd : List Nd} (h : Hg g p bd lo hi) (hp : p < 2600) (hx : nX g p = -1) (h1 : lo' ≤ lo) (h2 : hi ≤ hi') (h3 : lo' ≤ p) (h4 : p < hi') : One g p (hdN g p bd :: bd) lo' hi' := by
  rcases h with ⟨e1, e2⟩ | ⟨k, ns, l, e1, e2, e3, e4, e5, e6⟩
  · subst e1
    exact ⟨hp, hx, 1, [], [], Or.inl ⟨e2, rfl, rfl⟩, by simp, by intro i hi2; simp at hi2; omega, rfl⟩
  · refine ⟨hp, hx, k + 1, bd, ns, Fl_Fo e3, List.nodup_cons.mpr ⟨e5, e4⟩, ?_, rfl⟩
    intro i hi2
    rcases List.mem_cons.mp hi2 with e | e
    · subst e; exact ⟨h3, h4⟩
    · have := e6 i e; omega
theorem hgN_nil {g : gN} {p : Nat} {n : Int32} (h : nF g p = -1) : hgN g p n = (nK g, nV g, nS g, upd (nF g) p n, upd (nL g) p n, nX g, nM g) := by
  unfold hgN
  rw [h, if_neg (by decide)]
theorem hgN_cons {g : gN} {p f l : Nat} {n : Int32} (h : nF g p = nI f) (hf : f < 2600) (h2 : nL g p = nI l) (hl : l < 2600) : hgN g p n = (nK g, nV g, nS g, nF g, upd (nL g) p n, upd (nX g) l n, nM g) := by
  unfold hgN
  rw [h, if_pos (nI_pos' (by omega)), h2, nI_clamp (by omega)]
theorem Hg_hang {g : gN} {p n lo mid mid' hi : Nat} {bd sg : List Nd} (h : Hg g p bd lo mid) (ho : One g n sg mid' hi) (hm : mid ≤ mid') (hlm : lo ≤ mid') (hp : p < mid' ∨ hi ≤ p) :
    Hg (hgN g p (nI n)) p (bd ++ sg) lo hi ∧ (∀ z, z ≤ lo → z ≤ p → FrN g (hgN g p (nI n)) z) ∧ (nK (hgN g p (nI n)) = nK g ∧ nV (hgN g p (nI n)) = nV g ∧ nS (hgN g p (nI n)) = nS g ∧ nM (hgN g p (nI n)) = nM g ∧ nX (hgN g p (nI n)) p = nX g p) := by
  obtain ⟨o1, o2, k2, bd2, ns2, o3, o4, o5, o6⟩ := ho
  have hpn : ¬ p ∈ n :: ns2 := by intro e; have := o5 p e; omega
  have hpn1 : ¬ p = n := by intro e; exact hpn (by simp [e])
  rcases h with ⟨e1, e2⟩ | ⟨k, ns, l, e1, e2, e3, e4, e5, e6⟩
  · subst e1
    have hg := hgN_nil (n := nI n) e2
    have ag : ∀ i, ¬ i = p → Ag g (hgN g p (nI n)) i := by
      intro i hi2
      rw [hg]
      refine ⟨rfl, rfl, rfl, ?_, rfl⟩
      exact up_ne hi2
    have hFp : nF (hgN g p (nI n)) p = nI n := by rw [hg]; exact up_eq
    have hLp : nL (hgN g p (nI n)) p = nI n := by rw [hg]; exact up_eq
    have hXn : nX (hgN g p (nI n)) n = -1 := by rw [hg]; exact o2
    refine ⟨Or.inr ⟨k2 + 1, n :: ns2, n, o1, hLp, ?_, o4, hpn, fun i hi2 => ?_⟩, ?_, ?_⟩
    · rw [hFp]
      obtain ⟨a1, a2, a3, a4, a5⟩ := ag n (fun e => hpn1 e.symm)
      refine ⟨n, bd2, [], ns2, [], rfl, o1, ?_, by simp, ?_, Or.inl ⟨rfl, hXn, rfl, rfl⟩⟩
      · rw [o6]; unfold hdN; rw [a1, a2, a3]; simp
      · rw [a4]; exact Fo_ag o3 (fun i hi2 => ag i (fun e => hpn (by subst e; simp [hi2])))
    · have := o5 i hi2; omega
    · intro z hz1 hz2 i hi2
      refine ⟨ag i (by omega), ?_⟩
      rw [hg]
      have : ¬ i = p := by omega
      exact up_ne this
    · rw [hg]; exact ⟨rfl, rfl, rfl, rfl, rfl⟩
  · have hf : ∃ f, nF g p = nI f ∧ f < 2600 := by
      cases k with
      | zero => exact e3.elim
      | succ k => obtain ⟨i, bd9, rs, n1, n2, h1, h2, _⟩ := e3; exact ⟨i, h1, h2⟩
    obtain ⟨f, hf1, hf2⟩ := hf
    have hg := hgN_cons (n := nI n) hf1 hf2 e2 e1
    have hlm' := Fl_mem e3
    have hpl : ¬ p = l := by intro e; subst e; exact e5 hlm'
    have ag : ∀ i, ¬ i = l → Ag g (hgN g p (nI n)) i := by
      intro i hi2
      rw [hg]
      refine ⟨rfl, rfl, rfl, rfl, ?_⟩
      exact up_ne hi2
    have hln : ∀ i, i ∈ n :: ns2 → ¬ i = l := by intro i hi2 e; subst e; have := o5 i hi2; have := e6 i hlm'; omega
    have hFp : nF (hgN g p (nI n)) p = nF g p := by rw [hg]
    have hLp : nL (hgN g p (nI n)) p = nI n := by rw [hg]; exact up_eq
    obtain ⟨a1, a2, a3, a4, a5⟩ := ag n (hln n (by simp))
    refine ⟨Or.inr ⟨k + k2 + 1, ns ++ n :: ns2, n, o1, hLp, ?_, ?_, ?_, ?_⟩, ?_, ?_⟩
    · rw [hFp]
      have h1 : Fo (hgN g p (nI n)) k2 (nF (hgN g p (nI n)) n) bd2 ns2 := by
        rw [a4]; exact Fo_ag o3 (fun i hi2 => ag i (hln i (by simp [hi2])))
      have h2 := Fl_app (g := g) (g' := hgN g p (nI n)) (l := l) o1 h1 (by rw [a5]; exact o2) (by rw [hg]; exact up_eq) e3 e4 (fun i _ hi2 => ag i hi2) (by rw [hg]; exact ⟨rfl, rfl, rfl, rfl⟩)
      rw [o6]
      have e9 : hdN g n bd2 = hdN (hgN g p (nI n)) n bd2 := by unfold hdN; rw [a1, a2, a3]
      rw [e9]
      exact h2
    · refine List.nodup_append.mpr ⟨e4, o4, ?_⟩
      intro x hx y hy e
      subst e
      have := e6 x hx
      have := o5 x hy
      omega
    · intro e
      rcases List.mem_append.mp e with e | e
      · exact e5 e
      · exact hpn e
    · intro i hi2
      rcases List.mem_append.mp hi2 with e | e
      · have := e6 i e
        have := One_in (g := g) (n := n) (sg := sg) (lo := mid') (hi := hi) ⟨o1, o2, k2, bd2, ns2, o3, o4, o5, o6⟩
        omega
      · have := o5 i e
        omega
    · intro z hz1 hz2 i hi2
      have hil : ¬ i = l := by intro e; subst e; have := e6 i hlm'; omega
      refine ⟨ag i hil, ?_⟩
      rw [hg]
      have : ¬ i = p := by omega
      exact up_ne this
    · rw [hg]
      refine ⟨rfl, rfl, rfl, rfl, ?_⟩
      exact up_ne hpl
