/-! an unfinished node -/
def Opn (g : gN) (p : Nat) (k v w : Int32) (bd : List Nd) (lo hi : Nat) : Prop := Hg g p bd lo hi ∧ nK g p = k ∧ nV g p = v ∧ nS g p = w ∧ nX g p = -1 ∧ p < 2600
theorem Opn_mk (g : gN) {m : Nat} (k v w : Int32) (hm : m < 2600) (lo hi : Nat) : Opn (mkN g m k v w) m k v w [] lo hi := by
  exact ⟨Hg_nil _ _ _ _ up_eq, up_eq, up_eq, up_eq, up_eq, hm⟩
theorem Opn_fr {g g' : gN} {p lo hi z : Nat} {k v w : Int32} {bd : List Nd} (h : Opn g p k v w bd lo hi) (hf : FrN g g' z) (h1 : hi ≤ z) (h2 : p < z) : Opn g' p k v w bd lo hi := by
  obtain ⟨e1, e2, e3, e4, e5, e6⟩ := h
  obtain ⟨⟨a1, a2, a3, a4, a5⟩, a6⟩ := hf p h2
  exact ⟨Hg_fr e1 hf h1 h2, a1.trans e2, a2.trans e3, a3.trans e4, a5.trans e5, e6⟩
theorem Opn_wd {g : gN} {p lo hi lo' hi' : Nat} {k v w : Int32} {bd : List Nd} (h : Opn g p k v w bd lo hi) (h1 : lo' ≤ lo) (h2 : hi ≤ hi') : Opn g p k v w bd lo' hi' := ⟨Hg_wd h.1 h1 h2, h.2⟩
theorem Opn_hang {g : gN} {p n lo mid mid' hi : Nat} {k v w : Int32} {bd sg : List Nd} (h : Opn g p k v w bd lo mid) (ho : One g n sg mid' hi) (hm : mid ≤ mid') (hlm : lo ≤ mid') (hp : p < mid' ∨ hi ≤ p) :
    Opn (hgN g p (nI n)) p k v w (bd ++ sg) lo hi ∧ (∀ z, z ≤ lo → z ≤ p → FrN g (hgN g p (nI n)) z) ∧ nM (hgN g p (nI n)) = nM g := by
  obtain ⟨e1, e2, e3, e4, e5, e6⟩ := h
  obtain ⟨f1, f2, f3, f4, f5, f6, f7⟩ := Hg_hang e1 ho hm hlm hp
  exact ⟨⟨f1, by rw [f3, e2], by rw [f4, e3], by rw [f5, e4], by rw [f7, e5], e6⟩, f2, f6⟩
theorem Opn_one {g : gN} {p lo hi lo' hi' : Nat} {k v w : Int32} {bd : List Nd} (h : Opn g p k v w bd lo hi) (h1 : lo' ≤ lo) (h2 : hi ≤ hi') (h3 : lo' ≤ p) (h4 : p < hi') : One g p ((k, v, w, nI (bd.length + 1)) :: bd) lo' hi' := by
  obtain ⟨e1, e2, e3, e4, e5, e6⟩ := h
  have := Hg_one e1 e6 e5 h1 h2 h3 h4
  unfold hdN at this
  rw [e2, e3, e4] at this
  exact this
theorem Opn_sv {g : gN} {p lo hi : Nat} {k v w : Int32} {bd : List Nd} (x : Int32) (h : Opn g p k v w bd lo hi) : Opn (svN g p x) p k x w bd lo hi := by
  obtain ⟨e1, e2, e3, e4, e5, e6⟩ := h
  exact ⟨Hg_sv x e1, e2, up_eq, e4, e5, e6⟩
theorem Opn_sk {g : gN} {p lo hi : Nat} {k v w : Int32} {bd : List Nd} (x : Int32) (h : Opn g p k v w bd lo hi) : Opn (skN g p x) p x v w bd lo hi := by
  obtain ⟨e1, e2, e3, e4, e5, e6⟩ := h
  exact ⟨Hg_sk x e1, up_eq, e3, e4, e5, e6⟩
/-- the root's kind and value stand at the head of the list -/
theorem One_hd {g : gN} {n lo hi : Nat} {sg : List Nd} (h : One g n sg lo hi) : ∃ z t, sg = (nK g n, nV g n, nS g n, z) :: t := by
  obtain ⟨e1, e2, k, bd, ns, e3, e4, e5, e6⟩ := h
  exact ⟨_, _, e6⟩
section PUH
variable {gt : gT} {ge : gE} {gp : gP} {gq : gQ} {a : Nat} {li : Int32} {g : gN} {mo : MO} {p n lo mid mid' hi m : Nat} {k v w : Int32} {bd sg : List Nd}
theorem rs_hang' (h : gM gt ge gp gq a li g mo) (hO : Opn g p k v w bd lo mid) (ho : One g n sg mid' hi) (hm : mid ≤ mid') (hlm : lo ≤ mid') (hp : p < mid' ∨ hi ≤ p) :
    ∃ mo' g', f_Mo_hang mo (nI p) (nI n) = some (.inr (0, mo')) ∧ gM gt ge gp gq a li g' mo' ∧ Opn g' p k v w (bd ++ sg) lo hi ∧ (∀ z, z ≤ lo → z ≤ p → FrN g g' z) ∧ nM g' = nM g := by
  obtain ⟨mo', h1, h2⟩ := rs_hang (n := n) h hO.2.2.2.2.2 hO.1 (nI n)
  obtain ⟨h3, h4, h5⟩ := Opn_hang hO ho hm hlm hp
  exact ⟨mo', _, h1, h2, h3, h4, h5⟩
theorem rs_make' (h : gM gt ge gp gq a li g mo) (hm : nM g = nI m) (hb : m < 2600) (k v w : Int32) : ∃ mo' g', f_Mo_make mo k v w = some (.inr (nI m, mo')) ∧ gM gt ge gp gq a li g' mo' ∧ (∀ lo hi, Opn g' m k v w [] lo hi) ∧ (∀ z, z ≤ m → FrN g g' z) ∧ nM g' = nI (m + 1) := by
  obtain ⟨mo', h1, h2⟩ := rs_make h hm hb k v w
  exact ⟨mo', _, h1, h2, fun lo hi => Opn_mk g k v w hb lo hi, fun z hz => FrN_mk g m k v w hz, rfl⟩
theorem rs_plain (h : gM gt ge gp gq a li g mo) (hm : nM g = nI m) (hb : m < 2600) (k : Int32) : ∃ mo' g', f_Mo_plain mo k = some (.inr (nI m, mo')) ∧ gM gt ge gp gq (a + 1) li g' mo' ∧ (∀ lo hi, Opn g' m k 0 (nI a) [] lo hi) ∧ (∀ z, z ≤ m → FrN g g' z) ∧ nM g' = nI (m + 1) := by
  obtain ⟨mo', g', h1, h2, h3, h4, h5⟩ := rs_make' (gM_inc h) hm hb k 0 (nI a)
  refine ⟨mo', g', ?_, h2, h3, h4, h5⟩
  unfold f_Mo_plain
  have e : q_at mo + 1 - 1 = nI a := by rw [gM_at h, nI_1, nI_pred]
  rw [e, h1]
  rfl
theorem rs_literal (h : gM gt ge gp gq a li g mo) (hm : nM g = nI m) (hb : m < 2600) (k : Int32) : ∃ mo' g', f_Mo_literal mo k = some (.inr (nI m, mo')) ∧ gM gt ge gp gq (a + 1) (li + 1) g' mo' ∧ (∀ lo hi, Opn g' m k li (nI a) [] lo hi) ∧ (∀ z, z ≤ m → FrN g g' z) ∧ nM g' = nI (m + 1) := by
  obtain ⟨mo', g', h1, h2, h3, h4, h5⟩ := rs_make' h hm hb k li (nI a)
  refine ⟨s_literals (s_at mo' (q_at mo' + 1)) (q_literals mo' + 1), g', ?_, ?_, h3, h4, h5⟩
  · unfold f_Mo_literal
    rw [gM_li h, gM_at h, h1]
    rfl
  · have h6 := gM_setLi (gM_inc h2) (q_literals mo' + 1)
    rw [gM_li h2] at h6 ⊢
    exact h6
end PUH
