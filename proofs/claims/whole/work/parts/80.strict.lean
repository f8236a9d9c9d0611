theorem bnO_some (v : Int32) (k : Int32 → Rz) : bnO (some v) k = k v := rfl
section PUZ
variable {tk : TK} {lb : LB} {co : CO} {L L0 : List Nd} {st : ST} {gt : gT} {ge : gE} {gp : gP} {gq : gQ} {a : Nat} {li : Int32} {g : gN} {mo : MO}
theorem f_mayB (hc : gC tk lb co a li L st) (j : Nat) : (f_Pa_mayBeBound st (nI j) = 0) ↔ ¬ mayB tk j := by
  unfold f_Pa_mayBeBound
  rw [gC_tk hc]
  by_cases c1 : f_Tk_identifier tk (nI j) 1 = 0
  · rw [if_pos c1]
    exact ⟨fun _ h => h.1 c1, fun _ => rfl⟩
  · rw [if_neg c1]
    by_cases c2 : f_Tk_evalOrArguments (f_Tk_name tk (nI j)) = 0
    · rw [if_pos c2]
      exact ⟨fun h => absurd h (by decide), fun h => absurd ⟨c1, c2⟩ h⟩
    · rw [if_neg c2]
      exact ⟨fun _ h => c2 h.2, fun _ => rfl⟩
theorem cs_mkL {rs : List Nd} {hd : Nd} : ∀ (ps dn : List Pq) (fu : Nat), gC tk lb co a li ((L0 ++ [hd]) ++ segQ dn ++ segQ ps ++ rs) st → ((L0 ++ [hd]) ++ segQ dn ++ segQ ps ++ rs).length < 4000 → ps.length + 1 < fu →
    (okPs tk dn ps → f_Pa_makeStrict_L82 (nI L0.length) (nI (L0.length + 1 + dn.length + ps.length)) fu 1 (nI (L0.length + 1 + dn.length)) st = some (.inr (1, st))) ∧
    (¬ okPs tk dn ps → f_Pa_makeStrict_L82 (nI L0.length) (nI (L0.length + 1 + dn.length + ps.length)) fu 1 (nI (L0.length + 1 + dn.length)) st = some (.inr (0, st))) := by
  have stop : ∀ (fu : Nat) (b k : Int32), 0 < fu → f_Pa_makeStrict_L82 (nI L0.length) b fu 0 k st = some (.inr (0, st)) := by
    intro fu b k hf
    obtain ⟨q, rfl⟩ : ∃ q, fu = q + 1 := ⟨fu - 1, by omega⟩
    unfold f_Pa_makeStrict_L82
    rw [if_pos rfl]
  intro ps
  induction ps with
  | nil =>
    intro dn fu hc hb hf
    obtain ⟨fu', rfl⟩ : ∃ q, fu = q + 1 := ⟨fu - 1, by omega⟩
    have hl : ((L0 ++ [hd]) ++ segQ dn ++ segQ [] ++ rs).length = L0.length + 1 + dn.length + rs.length := by simp [segQ_len]; omega
    constructor
    · intro _
      unfold f_Pa_makeStrict_L82
      rw [if_neg n10, if_pos (nI_le (by simp) (by simp; omega))]
    · intro h; exact absurd trivial h
  | cons q r ih =>
    intro dn fu hc hb hf
    obtain ⟨fu', rfl⟩ : ∃ z, fu = z + 1 := ⟨fu - 1, by omega⟩
    have hlp : (L0 ++ [hd]).length = L0.length + 1 := by simp
    have ef : (L0 ++ [hd]) ++ segQ dn ++ segQ (q :: r) ++ rs = ((L0 ++ [hd]) ++ segQ dn) ++ (25, q.1, nI q.2, 1) :: (segQ r ++ rs) := by simp [segQ]
    have ef2 : (L0 ++ [hd]) ++ segQ dn ++ segQ (q :: r) ++ rs = (L0 ++ [hd]) ++ segQ (dn ++ [q]) ++ segQ r ++ rs := by simp [segQ]
    have ef3 : (L0 ++ [hd]) ++ segQ dn ++ segQ (q :: r) ++ rs = (L0 ++ [hd]) ++ segQ [] ++ segQ dn ++ (segQ (q :: r) ++ rs) := by simp [segQ]
    have hl : ((L0 ++ [hd]) ++ segQ dn ++ segQ (q :: r) ++ rs).length = L0.length + 1 + dn.length + (r.length + 1) + rs.length := by simp [segQ_len]; omega
    have hl2 : ((L0 ++ [hd]) ++ segQ dn).length = L0.length + 1 + dn.length := by simp [segQ_len]; omega
    have hc1 := hc
    rw [ef] at hc1
    obtain ⟨t1, t2, t3⟩ := tr_at hc1 (by rw [← ef]; omega)
    rw [hl2] at t2 t3
    have hc3 := hc
    rw [ef3] at hc3
    have hhp := cs_hasP (nI L0.length) q.1 dn [] 5000 hc3 (by rw [← ef3]; omega) (by omega)
    rw [hlp] at hhp
    have hhas : f_Pa_hasParameter st (nI L0.length) (nI (L0.length + 1 + dn.length)) q.1 = some (if ∃ x ∈ dn, x.1 = q.1 then 1 else 0) := by
      unfold f_Pa_hasParameter
      rw [nI_1]
      exact hhp
    have hr := ih (dn ++ [q]) fu' (by rw [← ef2]; exact hc) (by rw [← ef2]; exact hb) (by simp at hf; omega)
    have e1 : L0.length + 1 + (dn ++ [q]).length + r.length = L0.length + 1 + dn.length + (q :: r).length := by simp; omega
    have e2 : L0.length + 1 + (dn ++ [q]).length = L0.length + 1 + dn.length + 1 := by simp; omega
    rw [e1, e2] at hr
    have hm := f_mayB hc q.2
    unfold f_Pa_makeStrict_L82
    rw [if_neg n10, if_neg (nI_ge (by simp) (by simp; omega)), t3, t2, nI_1, hhas]
    show ((mayB tk q.2 ∧ ¬ ∃ x ∈ dn, x.1 = q.1) ∧ okPs tk (dn ++ [q]) r → _) ∧ (¬ ((mayB tk q.2 ∧ ¬ ∃ x ∈ dn, x.1 = q.1) ∧ okPs tk (dn ++ [q]) r) → _)
    by_cases cm : mayB tk q.2
    · rw [if_neg (fun h => (hm.mp h) cm)]
      by_cases cd : ∃ x ∈ dn, x.1 = q.1
      · constructor
        · rintro ⟨⟨_, h⟩, _⟩; exact absurd cd h
        · intro _
          rw [if_pos cd, bnO_some, if_neg n10]
          exact stop _ _ _ (by omega)
      · rw [if_neg cd, bnO_some, if_pos rfl]
        constructor
        · rintro ⟨_, h⟩; exact hr.1 h
        · intro h; exact hr.2 (fun h2 => h ⟨⟨cm, cd⟩, h2⟩)
    · rw [if_pos (hm.mpr cm)]
      constructor
      · rintro ⟨⟨h, _⟩, _⟩; exact absurd h cm
      · intro _; exact stop _ _ _ (by omega)
/-- a directive behind the head -/
theorem cs_mkS {ps : List Pq} {rs : List Nd} {kd val : Int32} {aF br : Nat} (hc : gC tk lb co a li (L0 ++ (kd, val, nI aF, 1) :: segQ ps ++ (26, 0, nI br, 1) :: rs) st) (hb : (L0 ++ (kd, val, nI aF, 1) :: segQ ps ++ (26, 0, nI br, 1) :: rs).length < 3000) (ok0 : Prop) (h0 : ok0 ↔ (kd = 24 ∨ ¬ val = 0) → mayB tk (aF + 1)) :
    (¬ co.2.2.1 = 0 → f_Pa_makeStrict st (nI L0.length) (nI (L0.length + 1 + ps.length)) = some (.inr (0, st))) ∧
    (co.2.2.1 = 0 → (ok0 ∧ okPs tk [] ps → ∃ st', f_Pa_makeStrict st (nI L0.length) (nI (L0.length + 1 + ps.length)) = some (.inr (0, st')) ∧ gC tk lb (co.1, co.2.1, 1, co.2.2.2) a li (L0 ++ (kd, val, nI aF, 1) :: segQ ps ++ (26, 0, nI br, 1) :: rs) st') ∧ (¬ (ok0 ∧ okPs tk [] ps) → Ref (f_Pa_makeStrict st (nI L0.length) (nI (L0.length + 1 + ps.length))) (nI br))) := by
  have ecs := gC_cs hc
  constructor
  · intro h
    unfold f_Pa_makeStrict
    rw [ecs, if_neg h]
  · intro h
    have e1 : (coF st, coL st, (1 : Int32), coP st, coW st) = (co.1, co.2.1, (1 : Int32), co.2.2.2) := by
      have hco := gC_co hc
      show (st.2.2.2.1.1, st.2.2.2.1.2.1, (1 : Int32), st.2.2.2.1.2.2.2.1, st.2.2.2.1.2.2.2.2) = _
      have : st.2.2.2.1 = co := hco
      rw [this]
    have ef0 : L0 ++ (kd, val, nI aF, 1) :: segQ ps ++ (26, 0, nI br, 1) :: rs = L0 ++ (kd, val, nI aF, 1) :: (segQ ps ++ (26, 0, nI br, 1) :: rs) := by simp
    have hc0 := hc
    rw [ef0] at hc0
    obtain ⟨t1, t2, t3⟩ := tr_at hc0 (by rw [← ef0]; omega)
    have ef1 : L0 ++ (kd, val, nI aF, 1) :: segQ ps ++ (26, 0, nI br, 1) :: rs = (L0 ++ (kd, val, nI aF, 1) :: segQ ps) ++ (26, 0, nI br, 1) :: rs := rfl
    have hl1 : (L0 ++ (kd, val, nI aF, 1) :: segQ ps).length = L0.length + 1 + ps.length := by simp [segQ_len]; omega
    have c2 := gC_setCo hc (co.1, co.2.1, 1, co.2.2.2)
    rw [← e1] at c2
    have c2' := c2
    have ef2 : L0 ++ (kd, val, nI aF, 1) :: segQ ps ++ (26, 0, nI br, 1) :: rs = (L0 ++ [(kd, val, nI aF, 1)]) ++ segQ [] ++ segQ ps ++ (26, 0, nI br, 1) :: rs := by simp [segQ]
    rw [ef2] at c2'
    obtain ⟨m1, m2⟩ := cs_mkL ps [] 5000 c2' (by rw [← ef2]; omega) (by rw [List.length_append, hl1] at hb; omega)
    have hz : L0.length + 1 + ([] : List Pq).length = L0.length + 1 := rfl
    rw [hz] at m1 m2
    have tw : f_Tr_where (sTr (setCo st (coF st, coL st, 1, coP st, coW st))) (nI (L0.length + 1 + ps.length)) = nI br := by
      rw [← hl1]; exact (tr_at c2 (by omega)).2.2
    have hm := f_mayB c2 (aF + 1)
    have stop : ∀ (fu : Nat) (b k : Int32) (s : ST), 0 < fu → f_Pa_makeStrict_L82 (nI L0.length) b fu 0 k s = some (.inr (0, s)) := by
      intro fu b k s hf
      obtain ⟨q, rfl⟩ : ∃ q, fu = q + 1 := ⟨fu - 1, by omega⟩
      unfold f_Pa_makeStrict_L82
      rw [if_pos rfl]
    have fin1 : okPs tk [] ps → ∃ st', bnd (f_Pa_makeStrict_L82 (nI L0.length) (nI (L0.length + 1 + ps.length)) 5000 1 (nI (L0.length + 1)) (setCo st (coF st, coL st, 1, coP st, coW st))) (fun rv_4 sx_4 => (if rv_4 = 0 then (bnd (f_Cu_refuse sx_4 (f_Tr_where (sTr sx_4) (nI (L0.length + 1 + ps.length)))) (fun _ st_7 => (some (.inr (0, st_7))))) else (some (.inr (0, sx_4))))) = some (.inr (0, st')) ∧ gC tk lb (co.1, co.2.1, 1, co.2.2.2) a li (L0 ++ (kd, val, nI aF, 1) :: segQ ps ++ (26, 0, nI br, 1) :: rs) st' := by
      intro hp
      refine ⟨_, ?_, by rw [← e1]; exact c2⟩
      rw [m1 hp, bnd_some, if_neg n10]
    have fin0 : ¬ okPs tk [] ps → Ref (bnd (f_Pa_makeStrict_L82 (nI L0.length) (nI (L0.length + 1 + ps.length)) 5000 1 (nI (L0.length + 1)) (setCo st (coF st, coL st, 1, coP st, coW st))) (fun rv_4 sx_4 => (if rv_4 = 0 then (bnd (f_Cu_refuse sx_4 (f_Tr_where (sTr sx_4) (nI (L0.length + 1 + ps.length)))) (fun _ st_7 => (some (.inr (0, st_7))))) else (some (.inr (0, sx_4)))))) (nI br) := by
      intro hp
      rw [m2 hp, bnd_some, if_pos rfl, tw]
      exact Ref_bnd (Ref_refuse c2 _)
    have fin9 : Ref (bnd (f_Pa_makeStrict_L82 (nI L0.length) (nI (L0.length + 1 + ps.length)) 5000 0 (nI (L0.length + 1)) (setCo st (coF st, coL st, 1, coP st, coW st))) (fun rv_4 sx_4 => (if rv_4 = 0 then (bnd (f_Cu_refuse sx_4 (f_Tr_where (sTr sx_4) (nI (L0.length + 1 + ps.length)))) (fun _ st_7 => (some (.inr (0, st_7))))) else (some (.inr (0, sx_4)))))) (nI br) := by
      rw [stop _ _ _ _ (by decide), bnd_some, if_pos rfl, tw]
      exact Ref_bnd (Ref_refuse c2 _)
    unfold f_Pa_makeStrict
    rw [ecs, if_pos h, t1, t2, t3, nI_1, nI_1]
    by_cases k24 : kd = 24
    · rw [if_pos k24]
      by_cases cm : mayB tk (aF + 1)
      · rw [if_neg (fun e => (hm.mp e) cm)]
        exact ⟨fun hh => fin1 hh.2, fun hh => fin0 (fun h2 => hh ⟨h0.mpr (fun _ => cm), h2⟩)⟩
      · rw [if_pos (hm.mpr cm)]
        exact ⟨fun hh => absurd (h0.mp hh.1 (Or.inl k24)) cm, fun _ => fin9⟩
    · rw [if_neg k24]
      by_cases v0 : val = 0
      · rw [if_pos v0]
        exact ⟨fun hh => fin1 hh.2, fun hh => fin0 (fun h2 => hh ⟨h0.mpr (fun h3 => (h3.elim k24 (fun h4 => h4 v0)).elim), h2⟩)⟩
      · rw [if_neg v0]
        by_cases cm : mayB tk (aF + 1)
        · rw [if_neg (fun e => (hm.mp e) cm)]
          exact ⟨fun hh => fin1 hh.2, fun hh => fin0 (fun h2 => hh ⟨h0.mpr (fun _ => cm), h2⟩)⟩
        · rw [if_pos (hm.mpr cm)]
          exact ⟨fun hh => absurd (h0.mp hh.1 (Or.inr v0)) cm, fun _ => fin9⟩
end PUZ
