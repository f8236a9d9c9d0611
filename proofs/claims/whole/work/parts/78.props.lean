/-! the properties of an object that is being read, as both look at them -/
abbrev Pt : Type := Int32 × Int32 × Int32 × List Nd
abbrev segP (q : Pt) : List Nd := (q.1, q.2.1, q.2.2.1, nI (q.2.2.2.length + 1)) :: q.2.2.2
def flatP : List Pt → List Nd
  | [] => []
  | q :: r => segP q ++ flatP r
theorem flatP_app (x y : List Pt) : flatP (x ++ y) = flatP x ++ flatP y := by
  induction x with
  | nil => rfl
  | cons q r ih => show segP q ++ flatP (r ++ y) = segP q ++ flatP r ++ flatP y; rw [ih, List.append_assoc]
theorem flatP_len (x : List Pt) : x.length ≤ (flatP x).length := by
  induction x with
  | nil => exact Nat.le_refl _
  | cons q r ih => show r.length + 1 ≤ (segP q ++ flatP r).length; rw [List.length_append]; simp only [List.length_cons]; omega
def srt (k : Int32) : Int32 := if k = 47 then 0 else if k = 48 then 1 else 2
def kcl (s k1 k2 : Int32) : Int32 := if k1 = 47 then (if k2 = 47 then s else 1) else (if k1 = k2 then 1 else (if k2 = 47 then 1 else 0))
abbrev hit (s k nm : Int32) (q : Pt) : Prop := q.2.1 = nm ∧ ¬ kcl s q.1 k = 0
section PUK
variable {tk : TK} {lb : LB} {co : CO} {L : List Nd} {st : ST} {gt : gT} {ge : gE} {gp : gP} {gq : gQ} {a : Nat} {li : Int32} {g : gN} {mo : MO}
theorem f_kcl (hc : gC tk lb co a li L st) (k1 k2 : Int32) : f_Pa_kindsClash st k1 k2 = kcl co.2.2.1 k1 k2 := by
  unfold f_Pa_kindsClash kcl
  rw [gC_cs hc]
  by_cases c1 : k1 = 47
  · rw [if_pos c1, if_pos c1]
    by_cases c2 : k2 = 47
    · rw [if_pos c2, if_pos c2]
    · rw [if_neg c2, if_neg c2]; split <;> rfl
  · rw [if_neg c1, if_neg c1]
theorem behind_at {pre bd rs : List Nd} {k v w : Int32} (hc : gC tk lb co a li (pre ++ (k, v, w, nI (bd.length + 1)) :: (bd ++ rs)) st) (hb : (pre ++ (k, v, w, nI (bd.length + 1)) :: (bd ++ rs)).length < 2 ^ 20) : f_Tr_behind (sTr st) (nI pre.length) = nI (pre.length + (bd.length + 1)) := by
  have hL := gC_tr hc
  have hx := Tl_at hL
  have hlen : (pre ++ (k, v, w, nI (bd.length + 1)) :: (bd ++ rs)).length = pre.length + (bd.length + rs.length + 1) := by simp
  have hn : trn (sTr st) = pre.length + (bd.length + rs.length + 1) := by rw [hL.1, hlen]
  have hS : trS (sTr st) pre.length = nI (bd.length + 1) := congrArg (fun q : Nd => q.2.2.2) hx
  unfold f_Tr_behind
  rw [if_neg (has1 (by omega) (by omega)), nI_clamp (by omega), hS]
  by_cases c : (1 : Int32) < nI (bd.length + 1)
  · rw [if_pos c, nI_add]
  · rw [if_neg c]
    have : ¬ 1 < bd.length + 1 := fun h => c (nI_lt (a := 1) h (by omega))
    have h0 : bd.length = 0 := by omega
    rw [h0]
    exact nI_1 _
theorem cs_clash {pre : List Nd} {ob : Nat} (k nm : Int32) : ∀ (ps dn : List Pt) (fu : Nat), gC tk lb co a li (pre ++ flatP dn ++ flatP ps) st → (pre ++ flatP dn ++ flatP ps).length < 4000 → ps.length < fu → dn.length < pre.length + (flatP dn).length →
    f_Pa_clashes_L st (nI ob) k nm (nI (pre ++ flatP dn ++ flatP ps).length) fu (nI (pre ++ flatP dn).length) (nI dn.length) = some (if ∃ q ∈ ps, hit co.2.2.1 k nm q then 1 else 0) := by
  intro ps
  induction ps with
  | nil =>
    intro dn fu hc hb hf hd
    obtain ⟨fu', rfl⟩ : ∃ q, fu = q + 1 := ⟨fu - 1, by simp at hf; omega⟩
    have hlen : (pre ++ flatP dn ++ flatP []).length = (pre ++ flatP dn).length := by simp [flatP]
    unfold f_Pa_clashes_L
    rw [hlen, if_neg (nI_ge (by simp; omega) (by simp at hb; simp; omega)), if_pos (nI_le (Nat.le_refl _) (by simp at hb; simp; omega)), if_neg (by simp)]
  | cons q r ih =>
    intro dn fu hc hb hf hd
    obtain ⟨fu', rfl⟩ : ∃ z, fu = z + 1 := ⟨fu - 1, by simp at hf; omega⟩
    obtain ⟨k1, n1, w1, bd⟩ := q
    have ef : pre ++ flatP dn ++ flatP ((k1, n1, w1, bd) :: r) = (pre ++ flatP dn) ++ (k1, n1, w1, nI (bd.length + 1)) :: (bd ++ flatP r) := by simp [flatP]
    have ef2 : pre ++ flatP dn ++ flatP ((k1, n1, w1, bd) :: r) = pre ++ flatP (dn ++ [(k1, n1, w1, bd)]) ++ flatP r := by rw [flatP_app]; simp [flatP]
    have hl1 : (pre ++ flatP dn ++ flatP ((k1, n1, w1, bd) :: r)).length = (pre ++ flatP dn).length + (bd.length + 1 + (flatP r).length) := by rw [ef, List.length_append]; simp; omega
    have hl2 : (pre ++ flatP (dn ++ [(k1, n1, w1, bd)])).length = (pre ++ flatP dn).length + (bd.length + 1) := by rw [flatP_app]; simp [flatP]; omega
    have hl3 : (pre ++ flatP dn).length = pre.length + (flatP dn).length := by simp
    have hc1 := hc
    rw [ef] at hc1
    have hb1 : ((pre ++ flatP dn) ++ (k1, n1, w1, nI (bd.length + 1)) :: (bd ++ flatP r)).length < 2 ^ 20 := by rw [← ef]; omega
    obtain ⟨t1, t2, _⟩ := tr_at hc1 hb1
    have tb := behind_at hc1 hb1
    have hr := ih (dn ++ [(k1, n1, w1, bd)]) fu' (by rw [← ef2]; exact hc) (by rw [← ef2]; exact hb) (by simp at hf; omega) (by rw [List.length_append, flatP_app, List.length_append]; simp [flatP]; omega)
    rw [← ef2, hl2] at hr
    have hdl : (dn ++ [(k1, n1, w1, bd)]).length = dn.length + 1 := by simp
    rw [hdl] at hr
    unfold f_Pa_clashes_L
    rw [if_neg (nI_ge (by omega) (by omega)), if_neg (nI_ge (by omega) (by omega)), t1, t2, tb, f_kcl hc, nI_1, hr]
    by_cases c1 : n1 = nm
    · rw [if_pos c1]
      by_cases c2 : kcl co.2.2.1 k1 k = 0
      · rw [if_pos c2]
        congr 1
        have : (∃ q ∈ ((k1, n1, w1, bd) :: r : List Pt), hit co.2.2.1 k nm q) ↔ ∃ q ∈ r, hit co.2.2.1 k nm q := by
          constructor
          · rintro ⟨q, hq, hh⟩
            rcases List.mem_cons.mp hq with e | e
            · subst e; exact absurd c2 hh.2
            · exact ⟨q, e, hh⟩
          · rintro ⟨q, hq, hh⟩; exact ⟨q, by simp [hq], hh⟩
        simp only [this]
      · rw [if_neg c2, if_pos ⟨(k1, n1, w1, bd), by simp, c1, c2⟩]
    · rw [if_neg c1]
      congr 1
      have : (∃ q ∈ ((k1, n1, w1, bd) :: r : List Pt), hit co.2.2.1 k nm q) ↔ ∃ q ∈ r, hit co.2.2.1 k nm q := by
        constructor
        · rintro ⟨q, hq, hh⟩
          rcases List.mem_cons.mp hq with e | e
          · subst e; exact absurd hh.1 c1
          · exact ⟨q, e, hh⟩
        · rintro ⟨q, hq, hh⟩; exact ⟨q, by simp [hq], hh⟩
      simp only [this]
/-- the reference's list of them, from mark on -/
def PpR (gp : gP) (mk : Nat) (ps : List Pt) : Prop := gp.1 = nI (mk + ps.length) ∧ mk + ps.length ≤ 1000 ∧ ∀ i q, ps[i]? = some q → gp.2.1 (mk + i) = q.2.1 ∧ gp.2.2 (mk + i) = srt q.1 ∧ (q.1 = 47 ∨ q.1 = 48 ∨ q.1 = 49)
theorem srt_kcl {s k1 k2 : Int32} (h1 : k1 = 47 ∨ k1 = 48 ∨ k1 = 49) (h2 : k2 = 47 ∨ k2 = 48 ∨ k2 = 49) : (if srt k2 = 0 then (if srt k1 = 0 then s else 1) else (if srt k1 = 0 then 1 else if srt k1 = srt k2 then 1 else 0)) = kcl s k1 k2 := by
  rcases h1 with rfl | rfl | rfl <;> rcases h2 with rfl | rfl | rfl <;> simp [srt, kcl]
theorem rs_tellL (hq : gM gt ge gp gq a li g mo) (hs : ge.1 = 0 ∨ ge.1 = 1) {mk : Nat} (k nm : Int32) (hk : k = 47 ∨ k = 48 ∨ k = 49) (tok : Int32) {all : List Pt} (hp : PpR gp mk all) : ∀ (ps dn : List Pt) (fu : Nat), all = dn ++ ps → ps.length < fu →
    ((∃ q ∈ ps, hit ge.1 k nm q) → RefM (f_Mo_tell_L3 (nI mk) nm (srt k) tok fu (nI (mk + dn.length)) mo) tok) ∧ ((¬ ∃ q ∈ ps, hit ge.1 k nm q) → f_Mo_tell_L3 (nI mk) nm (srt k) tok fu (nI (mk + dn.length)) mo = some (.inr (0, mo))) := by
  have e1 : q_properties mo = gp.1 := by show mo.2.2.2.2.1.1 = _; rw [gM_gp hq]
  have e2 : q_property mo = gp.2.1 := by show mo.2.2.2.2.1.2.1 = _; rw [gM_gp hq]
  have e3 : q_sort mo = gp.2.2 := by show mo.2.2.2.2.1.2.2 = _; rw [gM_gp hq]
  have e4 : q_strict mo = ge.1 := by show mo.2.2.2.1.1 = _; rw [gM_ge hq]
  obtain ⟨p1, p2, p3⟩ := hp
  intro ps
  induction ps with
  | nil =>
    intro dn fu hd hf
    obtain ⟨fu', rfl⟩ : ∃ z, fu = z + 1 := ⟨fu - 1, by simp at hf; omega⟩
    have hal : all.length = dn.length := by rw [hd]; simp
    constructor
    · rintro ⟨q, hq, _⟩; simp at hq
    · intro _
      unfold f_Mo_tell_L3
      rw [e1, p1, if_pos (nI_le (by omega) (by omega))]
  | cons q r ih =>
    intro dn fu hd hf
    obtain ⟨fu', rfl⟩ : ∃ z, fu = z + 1 := ⟨fu - 1, by simp at hf; omega⟩
    have hal : all.length = dn.length + (r.length + 1) := by rw [hd]; simp
    obtain ⟨q1, q2, q3⟩ := p3 dn.length q (by rw [hd]; simp)
    have hi := ih (dn ++ [q]) fu' (by rw [hd]; simp) (by simp at hf; omega)
    have hdl : (dn ++ [q]).length = dn.length + 1 := by simp
    rw [hdl, ← Nat.add_assoc] at hi
    have step : ∀ P : Rm → Prop, P (if q.2.1 = nm then (if (srt k) = 0 then (if srt q.1 = 0 then (if ge.1 = 0 then (f_Mo_tell_L3 (nI mk) nm (srt k) tok fu' (nI (mk + dn.length + 1)) mo) else (bndM (f_Mo_refuse mo tok) (fun _ mo_14 => (f_Mo_tell_L3 (nI mk) nm (srt k) tok fu' (nI (mk + dn.length + 1)) mo_14)))) else (bndM (f_Mo_refuse mo tok) (fun _ mo_12 => (f_Mo_tell_L3 (nI mk) nm (srt k) tok fu' (nI (mk + dn.length + 1)) mo_12)))) else (if srt q.1 = 0 then (bndM (f_Mo_refuse mo tok) (fun _ mo_8 => (f_Mo_tell_L3 (nI mk) nm (srt k) tok fu' (nI (mk + dn.length + 1)) mo_8))) else (if srt q.1 = (srt k) then (bndM (f_Mo_refuse mo tok) (fun _ mo_10 => (f_Mo_tell_L3 (nI mk) nm (srt k) tok fu' (nI (mk + dn.length + 1)) mo_10))) else (f_Mo_tell_L3 (nI mk) nm (srt k) tok fu' (nI (mk + dn.length + 1)) mo)))) else (f_Mo_tell_L3 (nI mk) nm (srt k) tok fu' (nI (mk + dn.length + 1)) mo)) → P (f_Mo_tell_L3 (nI mk) nm (srt k) tok (fu' + 1) (nI (mk + dn.length)) mo) := by
      intro P hP
      unfold f_Mo_tell_L3
      rw [e1, p1, if_neg (nI_ge (by omega) (by omega)), if_pos (nI_in (by omega) (by decide)), nI_clamp (by omega), e2, e3, e4, q1, q2, nI_1]
      exact hP
    have kc := srt_kcl (s := ge.1) q3 hk
    have tl : ∀ (h : hit ge.1 k nm q), RefM (f_Mo_tell_L3 (nI mk) nm (srt k) tok (fu' + 1) (nI (mk + dn.length)) mo) tok := by
      rintro ⟨h1, h2⟩
      rw [← kc] at h2
      refine step (fun y => RefM y tok) ?_
      show RefM (if q.2.1 = nm then _ else _) tok
      rw [if_pos h1]
      by_cases c1 : srt k = 0
      · rw [if_pos c1] at h2 ⊢
        by_cases c2 : srt q.1 = 0
        · rw [if_pos c2] at h2 ⊢
          rw [if_neg h2]; exact RefM_bnd (RefM_refuse _ _)
        · rw [if_neg c2]; exact RefM_bnd (RefM_refuse _ _)
      · rw [if_neg c1] at h2 ⊢
        by_cases c2 : srt q.1 = 0
        · rw [if_pos c2]; exact RefM_bnd (RefM_refuse _ _)
        · rw [if_neg c2] at h2 ⊢
          by_cases c3 : srt q.1 = srt k
          · rw [if_pos c3]; exact RefM_bnd (RefM_refuse _ _)
          · rw [if_neg c3] at h2; exact absurd rfl h2
    have nt : ∀ (h : ¬ hit ge.1 k nm q) (P : Rm → Prop), P (f_Mo_tell_L3 (nI mk) nm (srt k) tok fu' (nI (mk + dn.length + 1)) mo) → P (f_Mo_tell_L3 (nI mk) nm (srt k) tok (fu' + 1) (nI (mk + dn.length)) mo) := by
      intro h P hP
      refine step P ?_
      by_cases h1 : q.2.1 = nm
      · have h2 : kcl ge.1 q.1 k = 0 := Classical.byContradiction (fun e => h ⟨h1, e⟩)
        rw [← kc] at h2
        rw [if_pos h1]
        by_cases c1 : srt k = 0
        · rw [if_pos c1] at h2 ⊢
          by_cases c2 : srt q.1 = 0
          · rw [if_pos c2] at h2 ⊢
            rw [if_pos h2]; exact hP
          · rw [if_neg c2] at h2; exact absurd h2 (by decide)
        · rw [if_neg c1] at h2 ⊢
          by_cases c2 : srt q.1 = 0
          · rw [if_pos c2] at h2; exact absurd h2 (by decide)
          · rw [if_neg c2] at h2 ⊢
            by_cases c3 : srt q.1 = srt k
            · rw [if_pos c3] at h2; exact absurd h2 (by decide)
            · rw [if_neg c3]; exact hP
      · rw [if_neg h1]; exact hP
    by_cases hh : hit ge.1 k nm q
    · constructor
      · intro _; exact tl hh
      · intro h; exact absurd ⟨q, by simp, hh⟩ h
    · constructor
      · rintro ⟨q', hq', hh'⟩
        rcases List.mem_cons.mp hq' with e | e
        · subst e; exact absurd hh' hh
        · exact nt hh (fun y => RefM y tok) (hi.1 ⟨q', e, hh'⟩)
      · intro h
        exact nt hh (fun y => y = some (.inr (0, mo))) (hi.2 (fun ⟨q', h1, h2⟩ => h ⟨q', by simp [h1], h2⟩))
end PUK
