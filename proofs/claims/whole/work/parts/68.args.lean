/-! lists of children -/
theorem bnd_ite {c : Prop} [Decidable c] (x y : Rz) (k : Int32 → ST → Rz) : bnd (if c then x else y) k = if c then bnd x k else bnd y k := by split <;> rfl
theorem bndM_ite {c : Prop} [Decidable c] (x y : Rm) (k : Int32 → MO → Rm) : bndM (if c then x else y) k = if c then bndM x k else bndM y k := by split <;> rfl
/-- what a part of a method leaves that hangs more at node p -/
def PO (z nf : Nat) (X : Nat → List Nd → Prop) (p : Nat) (k v w : Int32) (bd : List Nd) (lo : Nat) (tk : TK) (gt : gT) (co : CO) (lb : LB) (ge : gE) (gp : gP) (gq : gQ) (a : Nat) (g : gN) (m : Nat) (L : List Nd) : Int32 → ST → Int32 → MO → Prop := fun _ st _ mo =>
  ∃ lb' ge' gp' a' li' g' m' sg, RR tk gt co lb' ge' gp' gq a' li' g' m' (L ++ sg) st mo ∧ Fr nf lb lb' ge ge' gp gp' ∧ FrN g g' z ∧ Opn g' p k v w (bd ++ sg) lo m' ∧ a ≤ a' ∧ sg.length ≤ 2 * (a' - a) ∧ m' ≤ m + 2 * (a' - a) ∧ m ≤ m' ∧ X a' sg
theorem PX_le {sl nf : Nat} {X : Nat → List Nd → Prop} {tk : TK} {gt : gT} {co : CO} {lb : LB} {ge : gE} {gp : gP} {gq : gQ} {a : Nat} {g : gN} {m : Nat} {L : List Nd} {r n : Int32} {st : ST} {mo : MO} (h : PX sl nf X tk gt co lb ge gp gq a g m L r st n mo) :
    ∃ lb' ge' gp' a' li' g' m' sg n', n = nI n' ∧ Wf tk gt co lb' ge' gp' a' ∧ gC tk lb' co a' li' (L ++ sg) st ∧ gM gt ge' gp' gq a' li' g' mo ∧ nM g' = nI m' ∧ Fr nf lb lb' ge ge' gp gp' ∧ FrN g g' m ∧ One g' n' sg m m' ∧ a < a' ∧ a' ≤ tkn tk ∧ lbn lb' = lbn lb ∧ sg.length + sl ≤ 2 * (a' - a) ∧ m' + sl ≤ m + 2 * (a' - a) ∧ m ≤ m' ∧ (L ++ sg).length = L.length + sg.length ∧ X a' sg := by
  obtain ⟨lb', ge', gp', a', li', g', m', sg, n', h1, ⟨h2, h2b, h2c, h2d⟩, h3, h4, h5, h6, h7, h8, h9⟩ := h
  have := One_in h5
  exact ⟨lb', ge', gp', a', li', g', m', sg, n', h1, h2, h2b, h2c, h2d, h3, h4, h5, h6, h2.2.1, h3.1, h7, h8, by omega, by simp, h9⟩
theorem x_le {x a T : Nat} (h : x ≤ a) (ha : a ≤ T) (hT : T ≤ 1000) : ¬ (1000 : Int32) < nI x := nI_nlt (a := 1000) (b := x) (by omega) (by decide)
theorem bnd_as (x : Rz) (k k2 : Int32 → ST → Rz) : bnd (bnd x k) k2 = bnd x (fun r s => bnd (k r s) k2) := by
  rcases x with _ | q | q <;> rfl
theorem bndM_as (x : Rm) (k k2 : Int32 → MO → Rm) : bndM (bndM x k) k2 = bndM x (fun r s => bndM (k r s) k2) := by
  rcases x with _ | q | q <;> rfl
theorem sm_args1 {E : Int32 → Int32 → Int32 → ST → Rz} {S : Int32 → Int32 → ST → Rz} {F : Int32 → Int32 → ST → Rz} {K : Nat → List Int32 → MO → Rm} {e : Nat} (he : HC 1 2 XA (E 0 (nI (e + 1)) 1) (K 1 [nI (e + 1), 1]) (e + 1)) :
    ∀ (fu fm x z p lo : Nat) (k v w : Int32) (bd : List Nd) (tk : TK) (gt : gT) (co : CO) (lb : LB) (ge : gE) (gp : gP) (gq : gQ) (a : Nat) (li : Int32) (g : gN) (m : Nat) (L : List Nd) (st : ST) (mo : MO),
      RR tk gt co lb ge gp gq a li g m L st mo → lbn lb < e + 1 → L.length ≤ 2 * a + 2 → m ≤ 2 * a + 2 → tkn tk - a < fu → tkn tk - a < fm → x ≤ a → Opn g p k v w bd lo m → z ≤ lo → z ≤ p → p < m → lo ≤ m →
      Sim (bnd (E 0 (nI e + 1) 1 st) (fun _ s => f_Pa_construction_L46 E S F (nI e) fu (nI x + 1) s)) (bndM (f_Mo_arguments_L25 K (nI p) (nI e) (fm + 1) 1 mo) (fun _ se => bndM (f_Mo_expect se 61) (fun _ mo5 => some (.inr (0, mo5))))) (PO z (lbn lb) (fun _ _ => True) p k v w bd lo tk gt co lb ge gp gq a g m L) := by
  intro fu
  induction fu with
  | zero => intro fm x z p lo k v w bd tk gt co lb ge gp gq a li g m L st mo _ _ _ _ h; omega
  | succ fu ih =>
    intro fm x z p lo k v w bd tk gt co lb ge gp gq a li g m L st mo hR hlb hL hm hfu hfm hx hO hz1 hz2 hpm hlm
    have hT := hR.1.1.1
    unfold f_Mo_arguments_L25
    rw [if_neg (by decide), nI_1, nI_1]
    simp only [bndM_as]
    refine Sim_bind (he tk gt co lb ge gp gq a li g m L st mo hR hlb hL hm) ?_
    intro r st1 n mo1 h1
    obtain ⟨lb1, ge1, gp1, a1, li1, g1, m1, sg, n1, rfl, w1, c1, q1, d1, f1, fn1, o1, l1, l2, l3, l4, l5, l6, l7, _⟩ := PX_le h1
    have hO1 := Opn_fr hO fn1 (Nat.le_refl _) hpm
    obtain ⟨mo2, g2, e2, q2, hO2, fn2, d2⟩ := rs_hang' q1 hO1 o1 (Nat.le_refl _) hlm (Or.inl hpm)
    refine Sim_m e2 ?_
    rw [d1] at d2
    have fz : FrN g g2 z := FrN_trans (FrN_less fn1 (by omega)) (fn2 z hz1 hz2) (Nat.le_refl _)
    have hm2 : m1 < 2600 := by omega
    rw [rs_sign w1.1 q2 l2 (s := 68) (by decide)]
    unfold f_Pa_construction_L46
    rw [if_neg (x_le (x := x + 1) (by omega) l2 hT)]
    by_cases c : f_Tk_sign tk (nI a1) = 68
    · -- one more
      obtain ⟨st3, e3, c3⟩ := cs_acc c1 c
      have hl := lt_of_sign hT (by omega) c (by decide)
      have en : f_Cu_nextArgument st1 (nI (x + 1)) = some (.inr (1, st3)) := by
        unfold f_Cu_nextArgument
        rw [if_neg (nI_ne0 (by omega) (by omega)), e3]
        first | rw [bndM_some, if_neg (by decide)] | rw [bnd_some, if_neg (by decide)]
      rw [if_pos c]
      refine Sim_c en ?_
      rw [if_neg (by decide)]
      rw [bndM_some]
      rw [if_neg (by decide)]
      have q3 := gM_inc q2
      obtain ⟨fm', rfl⟩ : ∃ q, fm = q + 1 := ⟨fm - 1, by omega⟩
      have hr := ih fm' (x + 1) z p lo k v w (bd ++ sg) tk gt co lb1 ge1 gp1 gq (a1 + 1) li1 g2 m1 (L ++ sg) st3 _ ⟨Wf_up w1 (by omega) (by omega), c3, q3, d2⟩ (by rw [l3]; exact hlb) (by omega) (by omega) (by omega) (by omega) (by omega) hO2 hz1 hz2 (by omega) (by omega)
      rw [nI_1] at hr
      rw [nI_1]
      refine Sim_mono hr ?_
      intro r9 st9 n9 mo9 h9
      obtain ⟨lb', ge', gp', a', li', g', m', sg', b1, b2, b3, b4, b5, b6, b7, b8, _⟩ := h9
      refine ⟨lb', ge', gp', a', li', g', m', sg ++ sg', by rw [← List.append_assoc]; exact b1, Fr_trans f1 b2 (by rw [l3]; exact Nat.le_refl _), FrN_trans fz b3 (Nat.le_refl _), by rw [← List.append_assoc]; exact b4, by omega, by rw [List.length_append]; omega, by omega, by omega, trivial⟩
    · rw [if_neg c]
      have en : f_Cu_nextArgument st1 (nI (x + 1)) = bnd (f_Cu_expect st1 61) (fun _ st_4 => (some (.inr (0, st_4)))) := by
        unfold f_Cu_nextArgument
        rw [if_neg (nI_ne0 (by omega) (by omega)), cs_nacc c1 c]
        first | rw [bndM_some, if_pos rfl] | rw [bnd_some, if_pos rfl]
      rw [en]
      rw [bndM_some]
      rw [if_pos rfl]
      obtain ⟨fm', rfl⟩ : ∃ q, fm = q + 1 := ⟨fm - 1, by omega⟩
      unfold f_Mo_arguments_L25
      rw [if_pos rfl, bndM_some, bnd_as]
      refine sm_expect w1.1 l2 c1 q2 (by decide) ?_
      intro hl hsg st3 mo3 c3 q3
      refine Sim_c rfl ?_
      rw [if_pos rfl]
      exact Sim_ret ⟨lb1, ge1, gp1, a1 + 1, li1, g2, m1, sg, ⟨Wf_up w1 (by omega) (by omega), c3, q3, d2⟩, f1, fz, hO2, by omega, by omega, by omega, by omega, trivial⟩
theorem sm_args2 {E : Int32 → Int32 → Int32 → ST → Rz} {S : Int32 → Int32 → ST → Rz} {F : Int32 → Int32 → ST → Rz} {K : Nat → List Int32 → MO → Rm} {e : Nat} (he : HC 1 2 XA (E 0 (nI (e + 1)) 1) (K 1 [nI (e + 1), 1]) (e + 1)) {start calls : Int32} :
    ∀ (fu fm x z p lo : Nat) (k v w : Int32) (bd : List Nd) (tk : TK) (gt : gT) (co : CO) (lb : LB) (ge : gE) (gp : gP) (gq : gQ) (a : Nat) (li : Int32) (g : gN) (m : Nat) (L : List Nd) (st : ST) (mo : MO),
      RR tk gt co lb ge gp gq a li g m L st mo → lbn lb < e + 1 → L.length ≤ 2 * a + 2 → m ≤ 2 * a + 2 → tkn tk - a < fu → tkn tk - a < fm → x ≤ a → Opn g p k v w bd lo m → z ≤ lo → z ≤ p → p < m → lo ≤ m →
      Sim (bnd (E 0 (nI e + 1) 1 st) (fun _ s => f_Pa_tails_L100 E S F start (nI e) calls fu (nI x + 1) s)) (bndM (f_Mo_arguments_L25 K (nI p) (nI e) (fm + 1) 1 mo) (fun _ se => bndM (f_Mo_expect se 61) (fun _ mo5 => some (.inr (0, mo5))))) (PO z (lbn lb) (fun _ _ => True) p k v w bd lo tk gt co lb ge gp gq a g m L) := by
  intro fu
  induction fu with
  | zero => intro fm x z p lo k v w bd tk gt co lb ge gp gq a li g m L st mo _ _ _ _ h; omega
  | succ fu ih =>
    intro fm x z p lo k v w bd tk gt co lb ge gp gq a li g m L st mo hR hlb hL hm hfu hfm hx hO hz1 hz2 hpm hlm
    have hT := hR.1.1.1
    unfold f_Mo_arguments_L25
    rw [if_neg (by decide), nI_1, nI_1]
    simp only [bndM_as]
    refine Sim_bind (he tk gt co lb ge gp gq a li g m L st mo hR hlb hL hm) ?_
    intro r st1 n mo1 h1
    obtain ⟨lb1, ge1, gp1, a1, li1, g1, m1, sg, n1, rfl, w1, c1, q1, d1, f1, fn1, o1, l1, l2, l3, l4, l5, l6, l7, _⟩ := PX_le h1
    have hO1 := Opn_fr hO fn1 (Nat.le_refl _) hpm
    obtain ⟨mo2, g2, e2, q2, hO2, fn2, d2⟩ := rs_hang' q1 hO1 o1 (Nat.le_refl _) hlm (Or.inl hpm)
    refine Sim_m e2 ?_
    rw [d1] at d2
    have fz : FrN g g2 z := FrN_trans (FrN_less fn1 (by omega)) (fn2 z hz1 hz2) (Nat.le_refl _)
    have hm2 : m1 < 2600 := by omega
    rw [rs_sign w1.1 q2 l2 (s := 68) (by decide)]
    unfold f_Pa_tails_L100
    rw [if_neg (x_le (x := x + 1) (by omega) l2 hT)]
    by_cases c : f_Tk_sign tk (nI a1) = 68
    · -- one more
      obtain ⟨st3, e3, c3⟩ := cs_acc c1 c
      have hl := lt_of_sign hT (by omega) c (by decide)
      have en : f_Cu_nextArgument st1 (nI (x + 1)) = some (.inr (1, st3)) := by
        unfold f_Cu_nextArgument
        rw [if_neg (nI_ne0 (by omega) (by omega)), e3]
        first | rw [bndM_some, if_neg (by decide)] | rw [bnd_some, if_neg (by decide)]
      rw [if_pos c]
      refine Sim_c en ?_
      rw [if_neg (by decide)]
      rw [bndM_some]
      rw [if_neg (by decide)]
      have q3 := gM_inc q2
      obtain ⟨fm', rfl⟩ : ∃ q, fm = q + 1 := ⟨fm - 1, by omega⟩
      have hr := ih fm' (x + 1) z p lo k v w (bd ++ sg) tk gt co lb1 ge1 gp1 gq (a1 + 1) li1 g2 m1 (L ++ sg) st3 _ ⟨Wf_up w1 (by omega) (by omega), c3, q3, d2⟩ (by rw [l3]; exact hlb) (by omega) (by omega) (by omega) (by omega) (by omega) hO2 hz1 hz2 (by omega) (by omega)
      rw [nI_1] at hr
      rw [nI_1]
      refine Sim_mono hr ?_
      intro r9 st9 n9 mo9 h9
      obtain ⟨lb', ge', gp', a', li', g', m', sg', b1, b2, b3, b4, b5, b6, b7, b8, _⟩ := h9
      refine ⟨lb', ge', gp', a', li', g', m', sg ++ sg', by rw [← List.append_assoc]; exact b1, Fr_trans f1 b2 (by rw [l3]; exact Nat.le_refl _), FrN_trans fz b3 (Nat.le_refl _), by rw [← List.append_assoc]; exact b4, by omega, by rw [List.length_append]; omega, by omega, by omega, trivial⟩
    · rw [if_neg c]
      have en : f_Cu_nextArgument st1 (nI (x + 1)) = bnd (f_Cu_expect st1 61) (fun _ st_4 => (some (.inr (0, st_4)))) := by
        unfold f_Cu_nextArgument
        rw [if_neg (nI_ne0 (by omega) (by omega)), cs_nacc c1 c]
        first | rw [bndM_some, if_pos rfl] | rw [bnd_some, if_pos rfl]
      rw [en]
      rw [bndM_some]
      rw [if_pos rfl]
      obtain ⟨fm', rfl⟩ : ∃ q, fm = q + 1 := ⟨fm - 1, by omega⟩
      unfold f_Mo_arguments_L25
      rw [if_pos rfl, bndM_some, bnd_as]
      refine sm_expect w1.1 l2 c1 q2 (by decide) ?_
      intro hl hsg st3 mo3 c3 q3
      refine Sim_c rfl ?_
      rw [if_pos rfl]
      exact Sim_ret ⟨lb1, ge1, gp1, a1 + 1, li1, g2, m1, sg, ⟨Wf_up w1 (by omega) (by omega), c3, q3, d2⟩, f1, fz, hO2, by omega, by omega, by omega, by omega, trivial⟩
