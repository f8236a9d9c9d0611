/-! labels -/
theorem sub1 (j : Nat) : nI j + (-1) = nI j - 1 := by
  cases j with
  | zero => decide
  | succ j => rw [pk_m1, nI_pred]
theorem cs_findL (lb : LB) (f : Nat) (nm : Int32) : ∀ (j fu : Nat), j ≤ 100 → f ≤ j → j < fu →
    (∃ i, f ≤ i ∧ i < j ∧ lbN lb i = nm ∧ f_La_find_L lb (nI f) nm fu (nI j - 1) = some (nI i)) ∨ ((∀ i, f ≤ i → i < j → ¬ lbN lb i = nm) ∧ f_La_find_L lb (nI f) nm fu (nI j - 1) = some (-1)) := by
  intro j
  have hmax : f ≤ 100 → (if 0 < nI f then nI f else (0 : Int32)) = nI f := by
    intro hf
    by_cases c : f = 0
    · subst c; decide
    · rw [if_pos (show (0 : Int32) < nI f from nI_lt (a := 0) (b := f) (by omega) (by omega))]
  induction j with
  | zero =>
    intro fu h1 h2 h3
    obtain ⟨fu', rfl⟩ : ∃ q, fu = q + 1 := ⟨fu - 1, by omega⟩
    right
    refine ⟨fun i _ h => absurd h (by omega), ?_⟩
    have hf : f = 0 := by omega
    subst hf
    unfold f_La_find_L
    rw [hmax (by omega)]
    exact if_pos (by decide)
  | succ j ih =>
    intro fu h1 h2 h3
    obtain ⟨fu', rfl⟩ : ∃ q, fu = q + 1 := ⟨fu - 1, by omega⟩
    by_cases c : f = j + 1
    · right
      refine ⟨fun i h4 h5 => absurd h4 (by omega), ?_⟩
      unfold f_La_find_L
      rw [hmax (by omega), nI_pred]
      exact if_pos (nI_lt (by omega) (by omega))
    · have e : f_La_find_L lb (nI f) nm (fu' + 1) (nI (j + 1) - 1) = (if lbN lb j = nm then some (nI j) else f_La_find_L lb (nI f) nm fu' (nI j - 1)) := by
        rw [f_La_find_L.eq_def]
        show (if nI (j + 1) - 1 < (if 0 < nI f then nI f else 0) then _ else _) = _
        rw [hmax (by omega), nI_pred, if_neg (nI_nlt (by omega) (by omega)), if_pos ⟨nI_pos (by omega), nI_ge (a := j) (b := 100) (by omega) (by decide)⟩, nI_clamp (by omega), sub1]
      rw [e]
      by_cases cn : lbN lb j = nm
      · left
        exact ⟨j, by omega, by omega, cn, by rw [if_pos cn]⟩
      · rw [if_neg cn]
        rcases ih fu' (by omega) (by omega) (by omega) with ⟨i, h4, h5, h6, h7⟩ | ⟨h4, h5⟩
        · left; exact ⟨i, h4, by omega, h6, h7⟩
        · right
          refine ⟨fun i h6 h7 => ?_, h5⟩
          by_cases ci : i = j
          · subst ci; exact cn
          · exact h4 i h6 (by omega)
theorem cs_find (lb : LB) {f : Nat} (nm : Int32) (h1 : lbn lb ≤ 100) (h2 : f ≤ lbn lb) : (∃ i, f ≤ i ∧ i < lbn lb ∧ lbN lb i = nm ∧ f_La_find lb (nI f) nm = some (nI i)) ∨ ((∀ i, f ≤ i → i < lbn lb → ¬ lbN lb i = nm) ∧ f_La_find lb (nI f) nm = some (-1)) := by
  unfold f_La_find
  exact cs_findL lb f nm (lbn lb) 5000 h1 h2 (by omega)
theorem cs_markL : ∀ (q fu j : Nat) (b : LB), lbn b ≤ 100 → j ≤ lbn b → lbn b - j = q → q < fu → ∃ L', l_mark b fu (nI j) = some (lbN b, L', lbn b) ∧ ∀ i, L' i = if j ≤ i ∧ i < lbn b then 1 else lbL b i := by
  intro q
  induction q with
  | zero =>
    intro fu j b h1 h2 h3 h4
    obtain ⟨fu', rfl⟩ : ∃ z, fu = z + 1 := ⟨fu - 1, by omega⟩
    refine ⟨lbL b, ?_, fun i => ?_⟩
    · unfold l_mark
      rw [if_pos (nI_le (by omega) (by omega))]
    · rw [if_neg (by omega)]
  | succ q ih =>
    intro fu j b h1 h2 h3 h4
    obtain ⟨fu', rfl⟩ : ∃ z, fu = z + 1 := ⟨fu - 1, by omega⟩
    obtain ⟨L', e1, e2⟩ := ih fu' (j + 1) (lbN b, upd (lbL b) j 1, lbn b) h1 (show j + 1 ≤ lbn b by omega) (show lbn b - (j + 1) = q by omega) (by omega)
    refine ⟨L', ?_, fun i => ?_⟩
    · unfold l_mark
      rw [if_neg (nI_ge (by omega) (by omega)), if_pos ⟨nI_pos (by omega), nI_ge (a := j) (b := 100) (by omega) (by decide)⟩, nI_clamp (by omega), nI_1]
      exact e1
    · rw [e2 i]
      show (if j + 1 ≤ i ∧ i < lbn b then (1 : Int32) else upd (lbL b) j 1 i) = _
      by_cases c : i = j
      · subst c
        rw [if_neg (by omega), up_eq, if_pos ⟨Nat.le_refl _, by omega⟩]
      · rw [up_ne c]
        by_cases c2 : j + 1 ≤ i ∧ i < lbn b
        · rw [if_pos c2, if_pos ⟨by omega, c2.2⟩]
        · rw [if_neg c2, if_neg (by omega)]
theorem cs_mark (b : LB) {o : Nat} (h1 : lbn b ≤ 100) (h2 : o ≤ lbn b) : ∃ L', l_markAsLoops b (nI o) = some (lbN b, L', lbn b) ∧ ∀ i, L' i = if o ≤ i ∧ i < lbn b then 1 else lbL b i := by
  unfold l_markAsLoops
  have e : (if 0 < nI o then nI o else (0 : Int32)) = nI o := by
    by_cases c : o = 0
    · subst c; decide
    · rw [if_pos (show (0 : Int32) < nI o from nI_lt (a := 0) (b := o) (by omega) (by omega))]
  rw [e]
  exact cs_markL _ 5000 o b h1 h2 rfl (by omega)
section PWV
variable {tk : TK} {lb : LB} {co : CO} {L : List Nd} {st : ST} {gt : gT} {ge : gE} {gp : gP} {gq : gQ} {a : Nat} {li : Int32} {g : gN} {mo : MO} {e : Nat}
variable {K : Nat → List Int32 → MO → Rm}
theorem rs_mark {nl : Nat} (hnl : nl ≤ 100) (d own : Int32) : ∀ (q fu j : Nat) (ge : gE) (mo : MO), gM gt ge gp gq a li g mo → ge.2.2.2.1 = nI nl → j ≤ nl → nl - j = q → q < fu → ∃ mo' L', f_Mo_body_L2 K d own fu (nI j) mo = some (.inr (0, mo')) ∧ gM gt (ge.1, ge.2.1, ge.2.2.1, ge.2.2.2.1, ge.2.2.2.2.1, ge.2.2.2.2.2.1, ge.2.2.2.2.2.2.1, ge.2.2.2.2.2.2.2.1, L') gp gq a li g mo' ∧ ∀ i, L' i = if j ≤ i ∧ i < nl then 1 else ge.2.2.2.2.2.2.2.2 i := by
  intro q
  induction q with
  | zero =>
    intro fu j ge mo hq hl h2 h3 h4
    obtain ⟨fu', rfl⟩ : ∃ z, fu = z + 1 := ⟨fu - 1, by omega⟩
    have e1 : q_labels mo = nI nl := by show mo.2.2.2.1.2.2.2.1 = _; rw [gM_ge hq]; exact hl
    refine ⟨mo, ge.2.2.2.2.2.2.2.2, ?_, hq, fun i => ?_⟩
    · unfold f_Mo_body_L2
      rw [e1, if_pos (nI_le (by omega) (by omega))]
    · rw [if_neg (by omega)]
  | succ q ih =>
    intro fu j ge mo hq hl h2 h3 h4
    obtain ⟨fu', rfl⟩ : ∃ z, fu = z + 1 := ⟨fu - 1, by omega⟩
    have e1 : q_labels mo = nI nl := by show mo.2.2.2.1.2.2.2.1 = _; rw [gM_ge hq]; exact hl
    have e2 : q_loopLabel mo = ge.2.2.2.2.2.2.2.2 := by show mo.2.2.2.1.2.2.2.2.2.2.2.2 = _; rw [gM_ge hq]
    have q2 : gM gt (ge.1, ge.2.1, ge.2.2.1, ge.2.2.2.1, ge.2.2.2.2.1, ge.2.2.2.2.2.1, ge.2.2.2.2.2.2.1, ge.2.2.2.2.2.2.2.1, upd ge.2.2.2.2.2.2.2.2 j 1) gp gq a li g (s_loopLabel mo (upd ge.2.2.2.2.2.2.2.2 j 1)) := by obtain ⟨th, rfl⟩ := hq; exact ⟨th, rfl⟩
    obtain ⟨mo', L', f1, f2, f3⟩ := ih fu' (j + 1) _ _ q2 hl (by omega) (by omega) (by omega)
    refine ⟨mo', L', ?_, f2, fun i => ?_⟩
    · unfold f_Mo_body_L2
      rw [e1, if_neg (nI_ge (by omega) (by omega)), if_pos (nI_in (by omega) (by decide)), nI_clamp (by omega), nI_1, e2]
      exact f1
    · rw [f3 i]
      show (if j + 1 ≤ i ∧ i < nl then (1 : Int32) else upd ge.2.2.2.2.2.2.2.2 j 1 i) = _
      by_cases c : i = j
      · subst c
        rw [if_neg (by omega), up_eq, if_pos ⟨Nat.le_refl _, by omega⟩]
      · rw [up_ne c]
        by_cases c2 : j + 1 ≤ i ∧ i < nl
        · rw [if_pos c2, if_pos ⟨by omega, c2.2⟩]
        · rw [if_neg c2, if_neg (by omega)]
theorem rs_lab14 {nl : Nat} (hnl : nl ≤ 100) (hq : gM gt ge gp gq a li g mo) (hl : ge.2.2.2.1 = nI nl) (d own tok nm : Int32) : ∀ (q fu j : Nat), j ≤ nl → nl - j = q → q < fu →
    ((∃ i, j ≤ i ∧ i < nl ∧ ge.2.2.2.2.2.2.2.1 i = nm) → RefM (f_Mo_labelled_L14 K d own tok nm fu (nI j) mo) tok) ∧ ((∀ i, j ≤ i → i < nl → ¬ ge.2.2.2.2.2.2.2.1 i = nm) → f_Mo_labelled_L14 K d own tok nm fu (nI j) mo = some (.inr (0, mo))) := by
  have e1 : q_labels mo = nI nl := by show mo.2.2.2.1.2.2.2.1 = _; rw [gM_ge hq]; exact hl
  have e2 : q_label mo = ge.2.2.2.2.2.2.2.1 := by show mo.2.2.2.1.2.2.2.2.2.2.2.1 = _; rw [gM_ge hq]
  intro q
  induction q with
  | zero =>
    intro fu j h2 h3 h4
    obtain ⟨fu', rfl⟩ : ∃ z, fu = z + 1 := ⟨fu - 1, by omega⟩
    constructor
    · rintro ⟨i, h5, h6, _⟩; omega
    · intro _
      unfold f_Mo_labelled_L14
      rw [e1, if_pos (nI_le (by omega) (by omega))]
  | succ q ih =>
    intro fu j h2 h3 h4
    obtain ⟨fu', rfl⟩ : ∃ z, fu = z + 1 := ⟨fu - 1, by omega⟩
    obtain ⟨i1, i2⟩ := ih fu' (j + 1) (by omega) (by omega) (by omega)
    unfold f_Mo_labelled_L14
    rw [e1, if_neg (nI_ge (by omega) (by omega)), if_pos (nI_in (by omega) (by decide)), nI_clamp (by omega), nI_1, e2]
    by_cases c : ge.2.2.2.2.2.2.2.1 j = nm
    · rw [if_pos c]
      exact ⟨fun _ => RefM_bnd (RefM_refuse _ _), fun h => absurd c (h j (Nat.le_refl _) (by omega))⟩
    · rw [if_neg c]
      constructor
      · rintro ⟨i, h5, h6, h7⟩
        refine i1 ⟨i, ?_, h6, h7⟩
        by_cases ci : i = j
        · subst ci; exact absurd h7 c
        · omega
      · intro h; exact i2 (fun i h5 h6 => h i (by omega) h6)
theorem rs_leaveL {nl : Nat} (hnl : nl ≤ 100) (hR : TkR tk gt) (hq : gM gt ge gp gq a li g mo) (ha : a < tkn tk) (hl : ge.2.2.2.1 = nI nl) (k : Int32) : ∀ (q fu j : Nat), j ≤ nl → nl - j = q → q < fu →
    (f_Mo_leave_L45 k fu 1 (nI j) mo = some (.inr (1, mo))) ∧ (∃ r, f_Mo_leave_L45 k fu 0 (nI j) mo = some (.inr (r, mo)) ∧ (r = 0 ∨ r = 1) ∧ (r = 1 ↔ ∃ i, j ≤ i ∧ i < nl ∧ ge.2.2.2.2.2.2.2.1 i = f_Tk_name tk (nI a) ∧ (k = 12 ∨ ¬ ge.2.2.2.2.2.2.2.2 i = 0))) := by
  have hT := hR.1
  have e1 : q_labels mo = nI nl := by show mo.2.2.2.1.2.2.2.1 = _; rw [gM_ge hq]; exact hl
  have e2 : q_label mo = ge.2.2.2.2.2.2.2.1 := by show mo.2.2.2.1.2.2.2.2.2.2.2.1 = _; rw [gM_ge hq]
  have e3 : q_loopLabel mo = ge.2.2.2.2.2.2.2.2 := by show mo.2.2.2.1.2.2.2.2.2.2.2.2 = _; rw [gM_ge hq]
  have e4 : q_names mo (q_at mo).toNatClampNeg = f_Tk_name tk (nI a) := by rw [(gM_word hR hq ha).2.1, (tk_in hT ha).2.1]
  intro q
  induction q with
  | zero =>
    intro fu j h2 h3 h4
    obtain ⟨fu', rfl⟩ : ∃ z, fu = z + 1 := ⟨fu - 1, by omega⟩
    constructor
    · unfold f_Mo_leave_L45
      rw [e1, if_pos (nI_le (by omega) (by omega))]
    · refine ⟨0, ?_, Or.inl rfl, ⟨fun h => absurd h (by decide), fun ⟨i, h5, h6, _⟩ => absurd h6 (by omega)⟩⟩
      unfold f_Mo_leave_L45
      rw [e1, if_pos (nI_le (by omega) (by omega))]
  | succ q ih =>
    intro fu j h2 h3 h4
    obtain ⟨fu', rfl⟩ : ∃ z, fu = z + 1 := ⟨fu - 1, by omega⟩
    have hjn : j < nl := by omega
    have hj1 : j < 1000 := by omega
    have hj2 : j < 2 ^ 31 := by omega
    have hn2 : nl < 2 ^ 31 := by omega
    have ha1 : a ≤ 1000 := by omega
    obtain ⟨i1, r, i2, i3, i4⟩ := ih fu' (j + 1) (by omega) (by omega) (by omega)
    constructor
    · unfold f_Mo_leave_L45
      rw [e1, if_neg (nI_ge hjn hn2), if_neg n10, nI_1]
      exact i1
    · have yes : (ge.2.2.2.2.2.2.2.1 j = f_Tk_name tk (nI a) ∧ (k = 12 ∨ ¬ ge.2.2.2.2.2.2.2.2 j = 0)) → f_Mo_leave_L45 k (fu' + 1) 0 (nI j) mo = some (.inr (1, mo)) := by
        rintro ⟨h5, h6⟩
        rw [f_Mo_leave_L45.eq_def]
        show (if q_labels mo ≤ nI j then _ else if (0 : Int32) = 0 then _ else _) = _
        rw [e1, if_neg (nI_ge hjn hn2), if_pos rfl, if_pos (nI_in hj1 (by decide)), if_pos (gM_inb hq ha1), nI_clamp hj2, nI_1, e2, e3, e4, if_pos h5]
        by_cases k12 : k = 12
        · rw [if_pos k12]; exact i1
        · rw [if_neg k12, if_neg (h6.resolve_left k12)]; exact i1
      have no : ¬ (ge.2.2.2.2.2.2.2.1 j = f_Tk_name tk (nI a) ∧ (k = 12 ∨ ¬ ge.2.2.2.2.2.2.2.2 j = 0)) → f_Mo_leave_L45 k (fu' + 1) 0 (nI j) mo = some (.inr (r, mo)) := by
        intro h5
        rw [f_Mo_leave_L45.eq_def]
        show (if q_labels mo ≤ nI j then _ else if (0 : Int32) = 0 then _ else _) = _
        rw [e1, if_neg (nI_ge hjn hn2), if_pos rfl, if_pos (nI_in hj1 (by decide)), if_pos (gM_inb hq ha1), nI_clamp hj2, nI_1, e2, e3, e4]
        by_cases cn : ge.2.2.2.2.2.2.2.1 j = f_Tk_name tk (nI a)
        · rw [if_pos cn]
          by_cases k12 : k = 12
          · exact absurd ⟨cn, Or.inl k12⟩ h5
          · rw [if_neg k12]
            by_cases c0 : ge.2.2.2.2.2.2.2.2 j = 0
            · rw [if_pos c0]; exact i2
            · exact absurd ⟨cn, Or.inr c0⟩ h5
        · rw [if_neg cn]; exact i2
      by_cases hh : ge.2.2.2.2.2.2.2.1 j = f_Tk_name tk (nI a) ∧ (k = 12 ∨ ¬ ge.2.2.2.2.2.2.2.2 j = 0)
      · exact ⟨1, yes hh, Or.inr rfl, ⟨fun _ => ⟨j, Nat.le_refl _, hjn, hh.1, hh.2⟩, fun _ => rfl⟩⟩
      · refine ⟨r, no hh, i3, ?_⟩
        rw [i4]
        constructor
        · rintro ⟨i, h5, h6, h7⟩; exact ⟨i, Nat.le_of_succ_le h5, h6, h7⟩
        · rintro ⟨i, h5, h6, h7⟩
          refine ⟨i, ?_, h6, h7⟩
          by_cases ci : i = j
          · subst ci; exact absurd h7 hh
          · exact Nat.lt_of_le_of_ne h5 (fun e => ci e.symm)
end PWV
