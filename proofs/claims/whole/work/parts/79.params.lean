/-! the parameters of a function -/
abbrev Pq : Type := Int32 × Nat
def segQ (ps : List Pq) : List Nd := ps.map (fun q => (25, q.1, nI q.2, 1))
theorem segQ_app (x y : List Pq) : segQ (x ++ y) = segQ x ++ segQ y := List.map_append
theorem segQ_len (x : List Pq) : (segQ x).length = x.length := List.length_map _
def okPs (tk : TK) : List Pq → List Pq → Prop
  | _, [] => True
  | dn, q :: r => (mayB tk q.2 ∧ ¬ ∃ x ∈ dn, x.1 = q.1) ∧ okPs tk (dn ++ [q]) r
theorem okPs_snoc (tk : TK) (q : Pq) : ∀ (r dn : List Pq), okPs tk dn (r ++ [q]) ↔ okPs tk dn r ∧ mayB tk q.2 ∧ ¬ ∃ x ∈ dn ++ r, x.1 = q.1 := by
  intro r
  induction r with
  | nil =>
    intro dn
    show ((mayB tk q.2 ∧ ¬ ∃ x ∈ dn, x.1 = q.1) ∧ True) ↔ True ∧ _
    rw [List.append_nil]
    constructor
    · rintro ⟨⟨h1, h2⟩, _⟩; exact ⟨trivial, h1, h2⟩
    · rintro ⟨_, h1, h2⟩; exact ⟨⟨h1, h2⟩, trivial⟩
  | cons y r ih =>
    intro dn
    show ((mayB tk y.2 ∧ ¬ ∃ x ∈ dn, x.1 = y.1) ∧ okPs tk (dn ++ [y]) (r ++ [q])) ↔ ((mayB tk y.2 ∧ ¬ ∃ x ∈ dn, x.1 = y.1) ∧ okPs tk (dn ++ [y]) r) ∧ _
    rw [ih (dn ++ [y]), List.append_assoc]
    constructor
    · rintro ⟨h1, h2, h3⟩; exact ⟨⟨h1, h2⟩, h3⟩
    · rintro ⟨⟨h1, h2⟩, h3⟩; exact ⟨h1, h2, h3⟩
section PUR
variable {tk : TK} {lb : LB} {co : CO} {L : List Nd} {st : ST} {gt : gT} {ge : gE} {gp : gP} {gq : gQ} {a : Nat} {li : Int32} {g : gN} {mo : MO}
theorem cs_hasP {pre rs : List Nd} (md nm : Int32) : ∀ (ps dn : List Pq) (fu : Nat), gC tk lb co a li (pre ++ segQ dn ++ segQ ps ++ rs) st → (pre ++ segQ dn ++ segQ ps ++ rs).length < 4000 → ps.length < fu →
    f_Pa_hasParameter_L st md (nI (pre.length + dn.length + ps.length)) nm fu (nI (pre.length + dn.length)) = some (if ∃ q ∈ ps, q.1 = nm then 1 else 0) := by
  intro ps
  induction ps with
  | nil =>
    intro dn fu hc hb hf
    obtain ⟨fu', rfl⟩ : ∃ q, fu = q + 1 := ⟨fu - 1, by simp at hf; omega⟩
    unfold f_Pa_hasParameter_L
    have hl : (pre ++ segQ dn ++ segQ [] ++ rs).length = pre.length + dn.length + rs.length := by simp [segQ_len, segQ]; omega
    rw [if_pos (nI_le (by simp) (by simp; omega)), if_neg (by simp)]
  | cons q r ih =>
    intro dn fu hc hb hf
    obtain ⟨fu', rfl⟩ : ∃ z, fu = z + 1 := ⟨fu - 1, by simp at hf; omega⟩
    have ef : pre ++ segQ dn ++ segQ (q :: r) ++ rs = (pre ++ segQ dn) ++ (25, q.1, nI q.2, 1) :: (segQ r ++ rs) := by simp [segQ]
    have ef2 : pre ++ segQ dn ++ segQ (q :: r) ++ rs = pre ++ segQ (dn ++ [q]) ++ segQ r ++ rs := by simp [segQ]
    have hl : (pre ++ segQ dn ++ segQ (q :: r) ++ rs).length = pre.length + dn.length + (r.length + 1) + rs.length := by simp [segQ_len]; omega
    have hl2 : (pre ++ segQ dn).length = pre.length + dn.length := by simp [segQ_len]
    have hc1 := hc
    rw [ef] at hc1
    obtain ⟨t1, t2, _⟩ := tr_at hc1 (by rw [← ef]; omega)
    rw [hl2] at t1 t2
    have hr := ih (dn ++ [q]) fu' (by rw [← ef2]; exact hc) (by rw [← ef2]; exact hb) (by simp at hf; omega)
    have e1 : pre.length + (dn ++ [q]).length + r.length = pre.length + dn.length + (q :: r).length := by simp; omega
    have e2 : pre.length + (dn ++ [q]).length = pre.length + dn.length + 1 := by simp; omega
    rw [e1, e2] at hr
    unfold f_Pa_hasParameter_L
    rw [if_neg (nI_ge (by simp) (by simp; omega)), t1, if_pos rfl, t2, nI_1, hr]
    by_cases c1 : q.1 = nm
    · rw [if_pos c1, if_pos ⟨q, by simp, c1⟩]
    · rw [if_neg c1]
      congr 1
      have : (∃ x ∈ q :: r, x.1 = nm) ↔ ∃ x ∈ r, x.1 = nm := by
        constructor
        · rintro ⟨x, hx, hh⟩
          rcases List.mem_cons.mp hx with e | e
          · subst e; exact absurd hh c1
          · exact ⟨x, e, hh⟩
        · rintro ⟨x, hx, hh⟩; exact ⟨x, by simp [hx], hh⟩
      simp only [this]
/-- the reference's list of names, from mark on -/
def PqR (gp : gP) (mk : Nat) (ps : List Pq) : Prop := gp.1 = nI (mk + ps.length) ∧ mk + ps.length ≤ 1000 ∧ ∀ i q, ps[i]? = some q → gp.2.1 (mk + i) = q.1
theorem geL_geL (ge : gE) (x y : Int32) : geL (geL ge x) y = geL ge y := rfl
theorem rs_L39 {mk : Nat} (nd e4 nm : Int32) {all : List Pq} (hp : PqR gp mk all) : ∀ (ps dn : List Pq) (fu : Nat) (ge : gE) (mo : MO), gM gt ge gp gq a li g mo → all = dn ++ ps → ps.length < fu →
    ((¬ ge.1 = 0 ∧ ∃ q ∈ ps, q.1 = nm) → RefM (f_Mo_parameters_L39 nd e4 nm fu (nI (mk + dn.length)) mo) e4) ∧
    (¬ (¬ ge.1 = 0 ∧ ∃ q ∈ ps, q.1 = nm) → ∃ mo', f_Mo_parameters_L39 nd e4 nm fu (nI (mk + dn.length)) mo = some (.inr (0, mo')) ∧ gM gt (geL ge (if ∃ q ∈ ps, q.1 = nm then 1 else ge.2.2.1)) gp gq a li g mo') := by
  obtain ⟨p1, p2, p3⟩ := hp
  intro ps
  induction ps with
  | nil =>
    intro dn fu ge mo hq hd hf
    have e1 : q_properties mo = gp.1 := by show mo.2.2.2.2.1.1 = _; rw [gM_gp hq]
    obtain ⟨fu', rfl⟩ : ∃ z, fu = z + 1 := ⟨fu - 1, by simp at hf; omega⟩
    have hal : all.length = dn.length := by rw [hd]; simp
    constructor
    · rintro ⟨_, q, hq, _⟩; simp at hq
    · intro _
      refine ⟨mo, ?_, ?_⟩
      · unfold f_Mo_parameters_L39
        rw [e1, p1, if_pos (nI_le (by omega) (by omega))]
      · rw [if_neg (by simp)]; exact hq
  | cons q r ih =>
    intro dn fu ge mo hq hd hf
    have e1 : q_properties mo = gp.1 := by show mo.2.2.2.2.1.1 = _; rw [gM_gp hq]
    have e2 : q_property mo = gp.2.1 := by show mo.2.2.2.2.1.2.1 = _; rw [gM_gp hq]
    have e4' : q_strict mo = ge.1 := by show mo.2.2.2.1.1 = _; rw [gM_ge hq]
    obtain ⟨fu', rfl⟩ : ∃ z, fu = z + 1 := ⟨fu - 1, by simp at hf; omega⟩
    have hal : all.length = dn.length + (r.length + 1) := by rw [hd]; simp
    have q1 := p3 dn.length q (by rw [hd]; simp)
    have hdl : (dn ++ [q]).length = dn.length + 1 := by simp
    have hnx : ∀ (ge : gE) (mo : MO), gM gt ge gp gq a li g mo → _ := fun ge mo h => ih (dn ++ [q]) fu' ge mo h (by rw [hd]; simp) (by simp at hf; omega)
    simp only [hdl, ← Nat.add_assoc] at hnx
    unfold f_Mo_parameters_L39
    rw [e1, p1, if_neg (nI_ge (by omega) (by omega)), if_pos (nI_in (by omega) (by decide)), nI_clamp (by omega), e2, e4', q1, nI_1]
    by_cases c1 : q.1 = nm
    · rw [if_pos c1]
      by_cases cs : ge.1 = 0
      · rw [if_pos cs]
        constructor
        · rintro ⟨h, _⟩; exact absurd cs h
        · intro _
          obtain ⟨mo', h1, h2⟩ := (hnx _ _ (gM_loose hq 1)).2 (fun h => h.1 cs)
          refine ⟨mo', h1, ?_⟩
          rw [if_pos ⟨q, by simp, c1⟩]
          have : (if ∃ q ∈ r, q.1 = nm then (1 : Int32) else (geL ge 1).2.2.1) = 1 := by split <;> rfl
          rw [this] at h2
          exact h2
      · rw [if_neg cs]
        constructor
        · intro _; exact RefM_bnd (RefM_refuse _ _)
        · intro h; exact absurd ⟨cs, q, by simp, c1⟩ h
    · rw [if_neg c1]
      have : (∃ x ∈ q :: r, x.1 = nm) ↔ ∃ x ∈ r, x.1 = nm := by
        constructor
        · rintro ⟨x, hx, hh⟩
          rcases List.mem_cons.mp hx with e | e
          · subst e; exact absurd hh c1
          · exact ⟨x, e, hh⟩
        · rintro ⟨x, hx, hh⟩; exact ⟨x, by simp [hx], hh⟩
      simp only [this]
      exact hnx ge mo hq
end PUR
/-- where the head of a function stands: the parameters ps are read -/
def FS (tk : TK) (gt : gT) (co : CO) (lb : LB) (ge0 : gE) (gp0 : gP) (gq : gQ) (mk p : Nat) (kd val : Int32) (aF : Nat) (L0 : List Nd) (ok0 : Prop) (ps : List Pq) (a : Nat) (li : Int32) (g : gN) (st : ST) (mo : MO) : Prop :=
  gC tk lb co a li (L0 ++ (kd, val, nI aF, 1) :: segQ ps) st ∧ ∃ (lz : Int32) (gp : gP), gM gt (geL ge0 lz) gp gq a li g mo ∧ (lz = 0 ∨ lz = 1) ∧ (lz = 0 ↔ ok0 ∧ okPs tk [] ps) ∧ PqR gp mk ps ∧ (∀ i, i < mk → gp.2.1 i = gp0.2.1 i ∧ gp.2.2 i = gp0.2.2 i) ∧ nM g = nI (p + 1 + ps.length) ∧ Opn g p kd val (nI aF) (segQ ps) (p + 1) (p + 1 + ps.length) ∧ a ≤ tkn tk ∧ mk + ps.length ≤ a ∧ aF + ps.length < a
section PUY
variable {tk : TK} {lb : LB} {co : CO} {L0 : List Nd} {st : ST} {gt : gT} {ge0 : gE} {gp0 : gP} {gq : gQ} {a mk p aF : Nat} {li kd val : Int32} {g : gN} {mo : MO} {ok0 : Prop} {ps : List Pq} {Q : Int32 → ST → Int32 → MO → Prop}
/-- one more parameter -/
theorem sm_param (hR : TkR tk gt) (hs : ge0.1 = co.2.2.1) (hs2 : co.2.2.1 = 0 ∨ co.2.2.1 = 1) (hF : FS tk gt co lb ge0 gp0 gq mk p kd val aF L0 ok0 ps a li g st mo) (hb : L0.length + p ≤ 4 * aF + 8) {k : Int32 → ST → Rz} {k' : Int32 → MO → Rm} (pb : p ≤ 2 * aF + 3) (Lb : L0.length ≤ 2 * aF + 3)
    (hk : a < tkn tk → ∀ st' mo' g' n', FS tk gt co lb ge0 gp0 gq mk p kd val aF L0 ok0 (ps ++ [(f_Tk_name tk (nI a), a)]) (a + 1) li g' st' mo' → (∀ z, z ≤ p → FrN g g' z) → Sim (k n' st') (k' 0 mo') Q) :
    Sim (bnd (f_Pa_parameter st (nI L0.length)) k) (bndM (f_Mo_declared mo) (fun r_5 mo_5 => (bndM (f_Mo_parameters_L39 (nI p) (q_at mo) r_5 5000 (nI mk) mo_5) (fun _ se_6 => (if inb (q_properties se_6) 1000 then (bndM (f_Mo_make (s_property (s_properties se_6 ((q_properties se_6) + 1)) (upd (q_property se_6) ((q_properties se_6) : Int32).toNatClampNeg r_5)) 25 r_5 (q_at mo)) (fun r_9 mo_9 => (bndM (f_Mo_hang mo_9 (nI p) r_9) k'))) else none))))) Q := by
  obtain ⟨hc, lz, gp, hq, hz, hok, hP, hfr, hd, hO, ha, hmk, haf⟩ := hF
  have hT := hR.1
  unfold f_Pa_parameter
  rw [bnd_as]
  refine sm_bound hR ha hc hq hs hs2 hz ?_
  intro hl hkd st1 mo1 c1 q1 hid
  rw [gC_cs c1, gC_at hc, gM_at hq]
  generalize hnm : f_Tk_name tk (nI a) = nm at hk ⊢
  have hlen : (L0 ++ (kd, val, nI aF, 1) :: segQ ps).length = L0.length + 1 + ps.length := by simp [segQ_len]; omega
  have h39 := rs_L39 (nI p) (nI a) nm hP ps [] 5000 _ mo1 q1 rfl (by have := hP.2.1; omega)
  have hgs : (geL (geL ge0 lz) (if (geL ge0 lz).2.2.1 = 0 ∧ mayB tk a then 0 else 1)).1 = co.2.2.1 := hs
  rw [hgs] at h39
  have hzero : nI (mk + ([] : List Pq).length) = nI mk := rfl
  rw [hzero] at h39
  -- what the other does
  have hcl : (L0 ++ (kd, val, nI aF, 1) :: segQ ps) = (L0 ++ [(kd, val, nI aF, 1)]) ++ segQ [] ++ segQ ps ++ [] := by simp [segQ]
  have c1' := c1
  rw [hcl] at c1'
  have hhp := cs_hasP (tk := tk) (pre := L0 ++ [(kd, val, nI aF, 1)]) (rs := []) (nI L0.length) nm ps [] 5000 c1' (by rw [← hcl]; omega) (by have := hP.2.1; omega)
  have hlp : (L0 ++ [((kd, val, nI aF, 1) : Nd)]).length = L0.length + 1 := by simp
  have hhas : f_Pa_hasParameter st1 (nI L0.length) (f_Tr_count (sTr st1)) nm = some (if ∃ q ∈ ps, q.1 = nm then 1 else 0) := by
    unfold f_Pa_hasParameter
    rw [f_count c1, hlen, nI_1]
    rw [hlp] at hhp
    exact hhp
  have good : ¬ (¬ co.2.2.1 = 0 ∧ ∃ q ∈ ps, q.1 = nm) → Sim (bnd (bnd (p_open st1 25 nm (nI a)) (fun r_3 st_3 => some (.inr (0, st_3)))) k) (bndM (f_Mo_parameters_L39 (nI p) (nI a) nm 5000 (nI mk) mo1) (fun _ se_6 => (if inb (q_properties se_6) 1000 then (bndM (f_Mo_make (s_property (s_properties se_6 ((q_properties se_6) + 1)) (upd (q_property se_6) ((q_properties se_6) : Int32).toNatClampNeg nm)) 25 nm (nI a)) (fun r_9 mo_9 => (bndM (f_Mo_hang mo_9 (nI p) r_9) k'))) else none))) Q := by
    intro hn
    obtain ⟨mo2, e2, q2⟩ := h39.2 hn
    refine Sim_m e2 ?_
    have p1 : q_properties mo2 = nI (mk + ps.length) := by show mo2.2.2.2.2.1.1 = _; rw [gM_gp q2]; exact hP.1
    have p2 : q_property mo2 = gp.2.1 := by show mo2.2.2.2.2.1.2.1 = _; rw [gM_gp q2]
    rw [p1, if_pos (nI_in (by have := hP.2.1; omega) (by decide)), nI_clamp (by have := hP.2.1; omega), nI_1, p2]
    have q3 : gM gt (geL ge0 (if ∃ q ∈ ps, q.1 = nm then 1 else (if lz = 0 ∧ mayB tk a then 0 else 1))) (nI (mk + ps.length + 1), upd gp.2.1 (mk + ps.length) nm, gp.2.2) gq (a + 1) li g (s_property (s_properties mo2 (nI (mk + ps.length + 1))) (upd gp.2.1 (mk + ps.length) nm)) := by
      obtain ⟨th, rfl⟩ := q2
      exact ⟨th, rfl⟩
    obtain ⟨mo4, g4, e4, q4, o4, f4, d4⟩ := rs_make' q3 hd (show p + 1 + ps.length < 2600 by omega) 25 nm (nI a)
    refine Sim_m e4 ?_
    have hO4 := Opn_fr hO (f4 _ (Nat.le_refl _)) (Nat.le_refl _) (by omega)
    have one := Opn_one (o4 (p + 1 + ps.length) (p + 1 + ps.length)) (Nat.le_refl _) (Nat.le_succ _) (Nat.le_refl _) (Nat.lt_succ_self _)
    obtain ⟨mo5, g5, e5, q5, o5, f5, d5⟩ := rs_hang' q4 hO4 one (Nat.le_refl _) (by omega) (Or.inl (by omega))
    refine Sim_m e5 ?_
    obtain ⟨st6, e6, c6⟩ := cs_open c1 (by omega) hT 25 nm (nI a)
    rw [bnd_as]
    refine Sim_c e6 ?_
    rw [bnd_some]
    refine hk hl st6 mo5 g5 0 ⟨?_, _, _, q5, ?_, ?_, ?_, ?_, ?_, ?_, by omega, by simp; omega, by simp; omega⟩ (fun z hz => FrN_trans (f4 z (by omega)) (f5 z (by omega) hz) (Nat.le_refl _))
    · rw [segQ_app]
      have e : L0 ++ (kd, val, nI aF, 1) :: segQ ps ++ [(25, nm, nI a, 1)] = L0 ++ (kd, val, nI aF, 1) :: (segQ ps ++ segQ [(nm, a)]) := by simp [segQ]
      rw [← e]; exact c6
    · split
      · exact Or.inr rfl
      · split
        · exact Or.inl rfl
        · exact Or.inr rfl
    · rw [okPs_snoc, List.nil_append]
      by_cases cd : ∃ q ∈ ps, q.1 = nm
      · rw [if_pos cd]
        constructor
        · intro h; exact absurd h (by decide)
        · rintro ⟨_, _, _, h⟩; exact absurd cd h
      · rw [if_neg cd]
        by_cases cm : lz = 0 ∧ mayB tk a
        · rw [if_pos cm]
          constructor
          · intro _; exact ⟨(hok.mp cm.1).1, (hok.mp cm.1).2, cm.2, cd⟩
          · intro _; rfl
        · rw [if_neg cm]
          constructor
          · intro h; exact absurd h (by decide)
          · rintro ⟨h1, h2, h3, _⟩; exact absurd ⟨hok.mpr ⟨h1, h2⟩, h3⟩ cm
    · refine ⟨by rw [List.length_append, ← Nat.add_assoc]; rfl, by simp; omega, ?_⟩
      intro i q hiq
      by_cases ci : i = ps.length
      · subst ci
        have : q = (nm, a) := by simpa using hiq.symm
        rw [this]
        exact up_eq
      · have hi2 : ps[i]? = some q := by
          by_cases cl : i < ps.length
          · rw [List.getElem?_append_left cl] at hiq; exact hiq
          · rw [List.getElem?_append_right (by omega)] at hiq
            obtain ⟨z, hz⟩ : ∃ z, i - ps.length = z + 1 := ⟨i - ps.length - 1, by omega⟩
            rw [hz] at hiq
            simp at hiq
        have := hP.2.2 i q hi2
        show upd gp.2.1 (mk + ps.length) nm (mk + i) = _
        rw [up_ne (by omega)]
        exact this
    · intro i hi
      refine ⟨?_, (hfr i hi).2⟩
      show upd gp.2.1 (mk + ps.length) nm i = _
      rw [up_ne (by omega)]
      exact (hfr i hi).1
    · rw [d5, d4]
      simp
      rfl
    · rw [segQ_app]
      have e : (ps ++ [(nm, a)]).length = ps.length + 1 := by simp
      rw [e]
      exact o5
  by_cases cs : co.2.2.1 = 0
  · rw [if_pos cs]
    exact good (fun h => h.1 cs)
  · rw [if_neg cs, hhas]
    show Sim (bnd (if (if ∃ q ∈ ps, q.1 = nm then (1 : Int32) else 0) = 0 then _ else _) k) _ _
    by_cases cd : ∃ q ∈ ps, q.1 = nm
    · rw [if_pos cd, if_neg n10]
      exact Sim_rr (p := nI a) (Ref_bnd (Ref_bnd (Ref_refuse c1 _))) (RefM_bnd (h39.1 ⟨cs, cd⟩)) (at_ne hR ha)
    · rw [if_neg cd, if_pos rfl]
      exact good (fun h => cd h.2)
end PUY
