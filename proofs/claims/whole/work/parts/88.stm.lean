/-! statements: a node whose parts are read one behind the other -/
theorem XS_of {tk : TK} {a a' : Nat} {sg : List Nd} (h : ¬ f_Tk_kind tk (nI a) = 3) : XS tk a a' sg := fun h2 => absurd h2 h
theorem PX_less {sl nf nf' : Nat} {X : Nat → List Nd → Prop} {tk : TK} {gt : gT} {co : CO} {lb : LB} {ge : gE} {gp : gP} {gq : gQ} {a : Nat} {g : gN} {m : Nat} {L : List Nd} {r n : Int32} {st : ST} {mo : MO} (h : PX sl nf X tk gt co lb ge gp gq a g m L r st n mo) (hn : nf' ≤ nf) : PX sl nf' X tk gt co lb ge gp gq a g m L r st n mo := by
  obtain ⟨lb', ge', gp', a', li', g', m', sg, n', h1, h2, h3, h4, h5, h6, h7, h8, h9⟩ := h
  exact ⟨lb', ge', gp', a', li', g', m', sg, n', h1, h2, Fr_less h3 hn, h4, h5, h6, h7, h8, h9⟩
/-- the node m0 of a statement that began at aS stands open with the parts bd -/
def SN (tk : TK) (gt : gT) (co : CO) (lb0 : LB) (ge0 : gE) (gp0 : gP) (gq : gQ) (aS : Nat) (L0 : List Nd) (g0 : gN) (m0 : Nat) (k v : Int32) (bd : List Nd) (lb : LB) (ge : gE) (gp : gP) (a : Nat) (li : Int32) (g : gN) (m : Nat) (st : ST) (mo : MO) : Prop :=
  RR tk gt co lb ge gp gq a li g m (L0 ++ (k, v, nI aS, 1) :: bd) st mo ∧ Fr (lbn lb0) lb0 lb ge0 ge gp0 gp ∧ FrN g0 g m0 ∧ Opn g m0 k v (nI aS) bd (m0 + 1) m ∧ m0 < m ∧ aS < a ∧ bd.length + 1 ≤ 2 * (a - aS) ∧ m ≤ m0 + 2 * (a - aS) ∧ L0.length ≤ 2 * aS + 2 ∧ m0 ≤ 2 * aS + 2 ∧ (L0.length + bd.length + 1 ≤ 2 * a + 1 ∧ m ≤ 2 * a + 1)
/-- the same, and a part sg that does not hang yet -/
def PD (tk : TK) (gt : gT) (co : CO) (lb0 : LB) (ge0 : gE) (gp0 : gP) (gq : gQ) (aS : Nat) (L0 : List Nd) (g0 : gN) (m0 : Nat) (k v : Int32) (bd sg : List Nd) (n : Nat) (lb : LB) (ge : gE) (gp : gP) (a : Nat) (li : Int32) (g : gN) (m : Nat) (st : ST) (mo : MO) : Prop :=
  RR tk gt co lb ge gp gq a li g m (L0 ++ (k, v, nI aS, 1) :: (bd ++ sg)) st mo ∧ Fr (lbn lb0) lb0 lb ge0 ge gp0 gp ∧ FrN g0 g m0 ∧ (∃ mid, Opn g m0 k v (nI aS) bd (m0 + 1) mid ∧ One g n sg mid m ∧ m0 < mid) ∧ aS < a ∧ bd.length + sg.length + 1 ≤ 2 * (a - aS) ∧ m ≤ m0 + 2 * (a - aS) ∧ L0.length ≤ 2 * aS + 2 ∧ m0 ≤ 2 * aS + 2 ∧ (L0.length + bd.length + sg.length + 1 ≤ 2 * a + 1 ∧ m ≤ 2 * a + 1)
section PWS
variable {tk : TK} {lb lb0 : LB} {co : CO} {L0 : List Nd} {st : ST} {gt : gT} {ge ge0 : gE} {gp gp0 : gP} {gq : gQ} {a aS : Nat} {li : Int32} {g g0 : gN} {mo : MO} {m m0 e n : Nat} {k v : Int32} {bd sg : List Nd} {inn : Int32}
variable {E : Int32 → Int32 → Int32 → ST → Rz} {S : Int32 → Int32 → ST → Rz} {F : Int32 → Int32 → ST → Rz} {K : Nat → List Int32 → MO → Rm}
theorem la_c (hc : gC tk lb co a li L0 st) : f_La_count (sLb st) = nI (lbn lb) := by unfold f_La_count; rw [gC_lb hc]
theorem ql_c (hw : Wf tk gt co lb ge gp a) (hq : gM gt ge gp gq a li g mo) : q_labels mo = nI (lbn lb) := by
  show mo.2.2.2.1.2.2.2.1 = _
  rw [gM_ge hq]; exact hw.2.2.2.2.2.1.1
theorem SN_at (h : SN tk gt co lb0 ge0 gp0 gq aS L0 g0 m0 k v bd lb ge gp a li g m st mo) {a' : Nat} (h1 : a ≤ a') (h2 : a' ≤ tkn tk) {st' : ST} {mo' : MO} (hc : gC tk lb co a' li (L0 ++ (k, v, nI aS, 1) :: bd) st') (hq : gM gt ge gp gq a' li g mo') : SN tk gt co lb0 ge0 gp0 gq aS L0 g0 m0 k v bd lb ge gp a' li g m st' mo' := by
  obtain ⟨⟨w, _, _, d⟩, b2, b3, b4, b5, b6, b7, b8, b9, b10, b11⟩ := h
  exact ⟨⟨Wf_up w h1 h2, hc, hq, d⟩, b2, b3, b4, b5, by omega, by omega, by omega, b9, b10, by omega⟩
theorem PD_at (h : PD tk gt co lb0 ge0 gp0 gq aS L0 g0 m0 k v bd sg n lb ge gp a li g m st mo) {a' : Nat} (h1 : a ≤ a') (h2 : a' ≤ tkn tk) {st' : ST} {mo' : MO} (hc : gC tk lb co a' li (L0 ++ (k, v, nI aS, 1) :: (bd ++ sg)) st') (hq : gM gt ge gp gq a' li g mo') : PD tk gt co lb0 ge0 gp0 gq aS L0 g0 m0 k v bd sg n lb ge gp a' li g m st' mo' := by
  obtain ⟨⟨w, _, _, d⟩, b2, b3, b4, b6, b7, b8, b9, b10, b11⟩ := h
  exact ⟨⟨Wf_up w h1 h2, hc, hq, d⟩, b2, b3, b4, by omega, by omega, by omega, b9, b10, by omega⟩
theorem PD_hang (h : PD tk gt co lb0 ge0 gp0 gq aS L0 g0 m0 k v bd sg n lb ge gp a li g m st mo) : ∃ mo' g', f_Mo_hang mo (nI m0) (nI n) = some (.inr (0, mo')) ∧ SN tk gt co lb0 ge0 gp0 gq aS L0 g0 m0 k v (bd ++ sg) lb ge gp a li g' m st mo' := by
  obtain ⟨⟨w, c, q, d⟩, b2, b3, ⟨mid, o1, o2, o3⟩, b6, b7, b8, b9, b10, b11⟩ := h
  have hon := One_in o2
  obtain ⟨mo', g', e1, q1, o4, f1, d1⟩ := rs_hang' q o1 o2 (Nat.le_refl _) (by omega) (Or.inl o3)
  exact ⟨mo', g', e1, ⟨w, c, q1, d1.trans d⟩, b2, FrN_trans b3 (f1 m0 (by omega) (Nat.le_refl _)) (Nat.le_refl _), o4, by omega, b6, by rw [List.length_append]; omega, b8, b9, b10, by rw [List.length_append]; omega⟩
/-- a part that a call made -/
theorem SN_px {sl nf : Nat} {X : Nat → List Nd → Prop} {r n0 : Int32} {st1 : ST} {mo1 : MO} (h : SN tk gt co lb0 ge0 gp0 gq aS L0 g0 m0 k v bd lb ge gp a li g m st mo) (hnf : lbn lb0 ≤ nf) (hp : PX sl nf X tk gt co lb ge gp gq a g m (L0 ++ (k, v, nI aS, 1) :: bd) r st1 n0 mo1) :
    ∃ lb1 ge1 gp1 a1 li1 g1 m1 sg n', n0 = nI n' ∧ PD tk gt co lb0 ge0 gp0 gq aS L0 g0 m0 k v bd sg n' lb1 ge1 gp1 a1 li1 g1 m1 st1 mo1 ∧ X a1 sg ∧ a < a1 ∧ sg.length + sl ≤ 2 * (a1 - a) := by
  obtain ⟨⟨w, c, q, d⟩, b2, b3, b4, b5, b6, b7, b8, b9, b10, b11⟩ := h
  obtain ⟨lb1, ge1, gp1, a1, li1, g1, m1, sg, n1, rfl, w1, c1, q1, d1, f1, fn1, o1, l1, l2, l3, l4, l5, l6, l7, hX⟩ := PX_le hp
  refine ⟨lb1, ge1, gp1, a1, li1, g1, m1, sg, n1, rfl, ⟨⟨w1, ?_, q1, d1⟩, Fr_trans b2 f1 hnf, FrN_trans b3 fn1 (by omega), ⟨m, Opn_fr b4 fn1 (Nat.le_refl _) b5, o1, b5⟩, by omega, by omega, by omega, b9, b10, by omega⟩, hX, l1, l4⟩
  rw [List.append_assoc] at c1
  exact c1
/-- the end of the statement -/
theorem SN_close {X : Nat → List Nd → Prop} (h : SN tk gt co lb0 ge0 gp0 gq aS L0 g0 m0 k v bd lb ge gp a li g m st mo) (hX : X a ((k, v, nI aS, nI (bd.length + 1)) :: bd)) : ∃ st', p_close st (nI L0.length) = some (.inr (0, st')) ∧ ∀ r, PX 0 (lbn lb0) X tk gt co lb0 ge0 gp0 gq aS g0 m0 L0 r st' (nI m0) mo := by
  obtain ⟨⟨w, c, q, d⟩, b2, b3, b4, b5, b6, b7, b8, b9, b10, b11⟩ := h
  have hT := w.1.1
  have ha := w.2.1
  have hll : (L0 ++ (k, v, nI aS, 1) :: bd).length = L0.length + 1 + bd.length := by simp; omega
  obtain ⟨st', e1, c1⟩ := cs_close (pre := L0) (k := k) (v := v) (w := nI aS) (z := 1) (bd := bd) c rfl (by omega) rfl
  refine ⟨st', e1, fun r => ⟨lb, ge, gp, a, li, g, m, _, m0, rfl, ⟨w, c1, q, d⟩, b2, b3, Opn_one b4 (by omega) (Nat.le_refl _) (Nat.le_refl _) (by omega), b6, by simp; omega, by omega, hX⟩⟩
/-- a statement of one node that is never closed: it has no parts -/
theorem SN_leaf {X : Nat → List Nd → Prop} (h : SN tk gt co lb0 ge0 gp0 gq aS L0 g0 m0 k v [] lb ge gp a li g m st mo) (hX : X a [(k, v, nI aS, 1)]) (r : Int32) : PX 0 (lbn lb0) X tk gt co lb0 ge0 gp0 gq aS g0 m0 L0 r st (nI m0) mo := by
  obtain ⟨⟨w, c, q, d⟩, b2, b3, b4, b5, b6, b7, b8, b9, b10, b11⟩ := h
  exact ⟨lb, ge, gp, a, li, g, m, [(k, v, nI aS, 1)], m0, rfl, ⟨w, c, q, d⟩, b2, b3, Opn_one b4 (by omega) (Nat.le_refl _) (Nat.le_refl _) (by omega), b6, by simp; omega, by omega, hX⟩
/-- the node is made and its first token taken -/
theorem SN_0 (hR : RR tk gt co lb ge gp gq a li g m L0 st mo) (hl : a < tkn tk) (hL : L0.length ≤ 2 * a + 2) (hm : m ≤ 2 * a + 2) (hb : L0.length ≤ 2 * a + 2 ∧ m ≤ 2 * a + 2) (k : Int32) :
    ∃ st1 mo1 g1, p_open st k 0 (nI a) = some (.inr (nI L0.length, st1)) ∧ f_Mo_plain mo k = some (.inr (nI m, mo1)) ∧ gC tk lb co a li (L0 ++ [(k, 0, nI a, 1)]) st1 ∧ gM gt ge gp gq (a + 1) li g1 mo1 ∧ SN tk gt co lb ge gp gq a L0 g m k 0 [] lb ge gp (a + 1) li g1 (m + 1) (setAt st1 (sAt st1 + 1)) mo1 := by
  obtain ⟨w, c, q, d⟩ := hR
  have hT := w.1.1
  obtain ⟨st1, e1, c1⟩ := cs_open c (by omega) hT k 0 (nI a)
  obtain ⟨mo1, g1, e2, q1, o1, f1, d1⟩ := rs_plain q d (show m < 2600 by omega) k
  exact ⟨st1, mo1, g1, e1, e2, c1, q1, ⟨Wf_up w (by omega) (by omega), gC_inc c1, q1, d1⟩, Fr_refl _ _ _ _, f1 m (Nat.le_refl _), o1 _ _, by omega, by omega, by simp, by omega, hL, hm, by simp; omega⟩
/-- the calls -/
theorem SN_E (he : HC 1 2 XL (E (-1) (nI (e + 1)) inn) (K 0 [nI (e + 1), inn]) (e + 1)) (h : SN tk gt co lb0 ge0 gp0 gq aS L0 g0 m0 k v bd lb ge gp a li g m st mo) (hlb : lbn lb0 < e + 1) :
    Sim (E (-1) (nI (e + 1)) inn st) (K 0 [nI (e + 1), inn] mo) (fun _ st1 n0 mo1 => ∃ lb1 ge1 gp1 a1 li1 g1 m1 sg n', n0 = nI n' ∧ PD tk gt co lb0 ge0 gp0 gq aS L0 g0 m0 k v bd sg n' lb1 ge1 gp1 a1 li1 g1 m1 st1 mo1 ∧ XL (tk, co) a a1 sg ∧ a < a1 ∧ sg.length + 1 ≤ 2 * (a1 - a)) := by
  have h' := h
  obtain ⟨hR, b2, b3, b4, b5, b6, b7, b8, b9, b10, b11⟩ := h
  refine Sim_mono (he tk gt co lb ge gp gq a li g m _ st mo hR (by rw [b2.1]; exact hlb) (by simp; omega) (by omega)) ?_
  intro r st1 n0 mo1 hp
  exact SN_px h' (by rw [b2.1]; exact Nat.le_refl _) hp
theorem SN_A (he : HC 1 2 XA (E 0 (nI (e + 1)) inn) (K 1 [nI (e + 1), inn]) (e + 1)) (h : SN tk gt co lb0 ge0 gp0 gq aS L0 g0 m0 k v bd lb ge gp a li g m st mo) (hlb : lbn lb0 < e + 1) :
    Sim (E 0 (nI (e + 1)) inn st) (K 1 [nI (e + 1), inn] mo) (fun _ st1 n0 mo1 => ∃ lb1 ge1 gp1 a1 li1 g1 m1 sg n', n0 = nI n' ∧ PD tk gt co lb0 ge0 gp0 gq aS L0 g0 m0 k v bd sg n' lb1 ge1 gp1 a1 li1 g1 m1 st1 mo1 ∧ XA (tk, co) a a1 sg ∧ a < a1 ∧ sg.length + 1 ≤ 2 * (a1 - a)) := by
  have h' := h
  obtain ⟨hR, b2, b3, b4, b5, b6, b7, b8, b9, b10, b11⟩ := h
  refine Sim_mono (he tk gt co lb ge gp gq a li g m _ st mo hR (by rw [b2.1]; exact hlb) (by simp; omega) (by omega)) ?_
  intro r st1 n0 mo1 hp
  exact SN_px h' (by rw [b2.1]; exact Nat.le_refl _) hp
theorem SN_S (hs : HSt (fun o st => S (nI (e + 1)) o st) (fun o mo => K 5 [nI (e + 1), o] mo) (e + 1)) (h : SN tk gt co lb0 ge0 gp0 gq aS L0 g0 m0 k v bd lb ge gp a li g m st mo) (hlab : LabR co lb ge) (hlb : lbn lb0 < e + 1) :
    Sim (S (nI (e + 1)) (f_La_count (sLb st)) st) (K 5 [nI (e + 1), q_labels mo] mo) (fun _ st1 n0 mo1 => ∃ lb1 ge1 gp1 a1 li1 g1 m1 sg n', n0 = nI n' ∧ PD tk gt co lb0 ge0 gp0 gq aS L0 g0 m0 k v bd sg n' lb1 ge1 gp1 a1 li1 g1 m1 st1 mo1 ∧ XS tk a a1 sg ∧ a < a1 ∧ sg.length + 0 ≤ 2 * (a1 - a)) := by
  have h' := h
  obtain ⟨⟨w, c, q, d⟩, b2, b3, b4, b5, b6, b7, b8, b9, b10, b11⟩ := h
  rw [la_c c, ql_c w q]
  refine Sim_mono (hs tk gt co lb ge gp gq a li g m _ st mo (lbn lb) ⟨w, c, q, d⟩ hlab (Nat.le_refl _) (by rw [b2.1]; exact hlb) (by simp; omega) (by omega)) ?_
  intro r st1 n0 mo1 hp
  exact SN_px h' (by rw [b2.1]; exact Nat.le_refl _) hp
end PWS
