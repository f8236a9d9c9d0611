/-! the reference's state, told by what it holds; its small steps -/
def gM (gt : gT) (ge : gE) (gp : gP) (gq : gQ) (a : Nat) (li : Int32) (g : gN) (mo : MO) : Prop := ∃ th : Int32, mo = (gt, g, gq, ge, gp, (nI a, -1, li, th))
/-- the tokens, as both hold them -/
def TkR (tk : TK) (gt : gT) : Prop := tkn tk ≤ 1000 ∧ gt.2.2.2.2 = nI (tkn tk) ∧ ∀ i, i < tkn tk → gt.1 i = tkK tk i ∧ gt.2.1 i = tkW tk i ∧ gt.2.2.1 i = tkN tk i ∧ gt.2.2.2.1 i = tkL tk i ∧ (tkL tk i = 0 ∨ tkL tk i = 1) ∧ f_Tk_known (tkK tk i) (tkW tk i) (tkN tk i) = 1
theorem i10 : ((1 : Int32) = 0) = False := by decide
theorem i01 : ((0 : Int32) = 1) = False := by decide
section PUM
variable {gt : gT} {ge : gE} {gp : gP} {gq : gQ} {a : Nat} {li : Int32} {g : gN} {mo : MO} {tk : TK}
theorem gM_gt (h : gM gt ge gp gq a li g mo) : mo.1 = gt := by obtain ⟨th, rfl⟩ := h; rfl
theorem gM_g (h : gM gt ge gp gq a li g mo) : mo.2.1 = g := by obtain ⟨th, rfl⟩ := h; rfl
theorem gM_ge (h : gM gt ge gp gq a li g mo) : mo.2.2.2.1 = ge := by obtain ⟨th, rfl⟩ := h; rfl
theorem gM_gp (h : gM gt ge gp gq a li g mo) : mo.2.2.2.2.1 = gp := by obtain ⟨th, rfl⟩ := h; rfl
theorem gM_at (h : gM gt ge gp gq a li g mo) : q_at mo = nI a := by obtain ⟨th, rfl⟩ := h; rfl
theorem gM_li (h : gM gt ge gp gq a li g mo) : q_literals mo = li := by obtain ⟨th, rfl⟩ := h; rfl
theorem gM_at' (h : gM gt ge gp gq a li g mo) {a' : Nat} {v : Int32} (hv : v = nI a') : gM gt ge gp gq a' li g (s_at mo v) := by obtain ⟨th, rfl⟩ := h; subst hv; exact ⟨th, rfl⟩
theorem gM_inc (h : gM gt ge gp gq a li g mo) : gM gt ge gp gq (a + 1) li g (s_at mo (q_at mo + 1)) := gM_at' h (by rw [gM_at h, nI_1])
theorem gM_sv (h : gM gt ge gp gq a li g mo) {p : Nat} (v : Int32) : gM gt ge gp gq a li (svN g p v) (s_value mo (upd (q_value mo) p v)) := by obtain ⟨th, rfl⟩ := h; exact ⟨th, rfl⟩
theorem gM_sk (h : gM gt ge gp gq a li g mo) {p : Nat} (v : Int32) : gM gt ge gp gq a li (skN g p v) (s_kind mo (upd (q_kind mo) p v)) := by obtain ⟨th, rfl⟩ := h; exact ⟨th, rfl⟩
theorem gM_setLi (h : gM gt ge gp gq a li g mo) (v : Int32) : gM gt ge gp gq a v g (s_literals mo v) := by obtain ⟨th, rfl⟩ := h; exact ⟨th, rfl⟩
theorem gM_inb (h : gM gt ge gp gq a li g mo) (ha : a ≤ 1000) : inb (q_at mo) 1001 := by rw [gM_at h]; exact nI_in (by omega) (by decide)
theorem inbN {n : Nat} (h : n < 2600) : inb (nI n) 2600 := nI_in h (by decide)
theorem clN {n : Nat} (h : n < 2600) : (nI n).toNatClampNeg = n := nI_clamp (by omega)
theorem rs_make {m : Nat} (h : gM gt ge gp gq a li g mo) (hm : nM g = nI m) (hb : m < 2600) (k v w : Int32) : ∃ mo', f_Mo_make mo k v w = some (.inr (nI m, mo')) ∧ gM gt ge gp gq a li (mkN g m k v w) mo' := by
  obtain ⟨th, rfl⟩ := h
  obtain ⟨gk, gv, gs, gf, gl, gx, gm⟩ := g
  have hm : gm = nI m := hm
  subst hm
  refine ⟨(gt, mkN (gk, gv, gs, gf, gl, gx, nI m) m k v w, gq, ge, gp, (nI a, -1, li, th)), ?_, th, rfl⟩
  unfold f_Mo_make
  refine (if_pos (inbN hb)).trans ?_
  show some (Sum.inr (nI m + 1 - 1, (gt, (upd gk (nI m).toNatClampNeg k, upd gv (nI m).toNatClampNeg v, upd gs (nI m).toNatClampNeg w, upd gf (nI m).toNatClampNeg (-1), upd gl (nI m).toNatClampNeg (-1), upd gx (nI m).toNatClampNeg (-1), nI m + 1), gq, ge, gp, (nI a, -1, li, th)))) = some (Sum.inr (nI m, (gt, (upd gk m k, upd gv m v, upd gs m w, upd gf m (-1), upd gl m (-1), upd gx m (-1), nI (m + 1)), gq, ge, gp, (nI a, -1, li, th))))
  rw [clN hb, nI_1, nI_pred]
theorem rs_hang {p n lo mid : Nat} {bd : List Nd} (h : gM gt ge gp gq a li g mo) (hp : p < 2600) (hH : Hg g p bd lo mid) (c : Int32) : ∃ mo', f_Mo_hang mo (nI p) c = some (.inr (0, mo')) ∧ gM gt ge gp gq a li (hgN g p c) mo' := by
  obtain ⟨th, rfl⟩ := h
  refine ⟨(gt, hgN g p c, gq, ge, gp, (nI a, -1, li, th)), ?_, th, rfl⟩
  unfold f_Mo_hang
  refine (if_pos (inbN hp)).trans ?_
  rcases hH with ⟨_, h2⟩ | ⟨k, ns, l, e1, e2, e3, _⟩
  · rw [hgN_nil h2]
    have h3 : ¬ (0 : Int32) ≤ nF g p := by rw [h2]; decide
    simp only [clN hp]
    exact if_neg h3
  · have hf : ∃ f, nF g p = nI f ∧ f < 2600 := by
      cases k with
      | zero => exact e3.elim
      | succ k => obtain ⟨i, bd9, rs, n1, n2, h1, h2, _⟩ := e3; exact ⟨i, h1, h2⟩
    obtain ⟨f, hf1, hf2⟩ := hf
    rw [hgN_cons hf1 hf2 e2 e1]
    have h3 : (0 : Int32) ≤ nF g p := by rw [hf1]; exact nI_pos' (by omega)
    have h4 : inb (nL g p) 2600 := by rw [e2]; exact inbN e1
    have h5 : (nL g p).toNatClampNeg = l := by rw [e2]; exact clN e1
    simp only [clN hp]
    refine (if_pos h3).trans ((if_pos h4).trans ?_)
    simp only [h5]
/-! what a token is -/
theorem tk_in (hT : tkn tk ≤ 1000) (e : a < tkn tk) : f_Tk_kind tk (nI a) = tkK tk a ∧ f_Tk_name tk (nI a) = tkN tk a ∧ f_Tk_line tk (nI a) = (if tkL tk a = 1 then 1 else 0) ∧ f_Tk_sign tk (nI a) = (if tkK tk a = 4 then tkW tk a else -1) ∧ f_Tk_keyword tk (nI a) = (if tkK tk a = 1 then (if 35 < tkW tk a then -1 else tkW tk a) else -1) := by
  have h1 : ¬ nI a < 0 := nI_pos (by omega)
  have h2 : ¬ nI (tkn tk) ≤ nI a := nI_ge e (by omega)
  have h3 : (nI a).toNatClampNeg = a := nI_clamp (by omega)
  refine ⟨?_, ?_, ?_, ?_, ?_⟩
  · unfold f_Tk_kind; rw [if_neg h1, if_neg h2, h3]
  · unfold f_Tk_name; rw [if_neg h1, if_neg h2, h3]
  · unfold f_Tk_line; rw [if_neg h1, if_neg h2, h3]
  · unfold f_Tk_sign; rw [if_neg h1, if_neg h2, h3]
  · unfold f_Tk_keyword; rw [if_neg h1, if_neg h2, h3]
theorem tk_out (hT : tkn tk ≤ 1000) (e : tkn tk ≤ a) (hb : a < 2 ^ 31) : f_Tk_kind tk (nI a) = 0 ∧ f_Tk_name tk (nI a) = -1 ∧ f_Tk_line tk (nI a) = 0 ∧ f_Tk_sign tk (nI a) = -1 ∧ f_Tk_keyword tk (nI a) = -1 ∧ ∀ s, f_Tk_identifier tk (nI a) s = 0 := by
  have h1 : ¬ nI a < 0 := nI_pos (by omega)
  have h2 : nI (tkn tk) ≤ nI a := nI_le e (by omega)
  refine ⟨?_, ?_, ?_, ?_, ?_, ?_⟩
  · unfold f_Tk_kind; rw [if_neg h1, if_pos h2]
  · unfold f_Tk_name; rw [if_neg h1, if_pos h2]
  · unfold f_Tk_line; rw [if_neg h1, if_pos h2]
  · unfold f_Tk_sign; rw [if_neg h1, if_pos h2]
  · unfold f_Tk_keyword; rw [if_neg h1, if_pos h2]
  · intro s; unfold f_Tk_identifier; rw [if_neg h1, if_pos h2]
theorem rs_kind (hR : TkR tk gt) (h : gM gt ge gp gq a li g mo) (ha : a ≤ tkn tk) {k : Int32} (hk : ¬ k = 0) : f_Mo_isKind mo k = some (.inr ((if f_Tk_kind tk (nI a) = k then 1 else 0), mo)) := by
  obtain ⟨th, rfl⟩ := h
  obtain ⟨hT, hc, hi⟩ := hR
  unfold f_Mo_isKind
  by_cases e : a < tkn tk
  · have h2 : ¬ q_count ((gt, g, gq, ge, gp, (nI a, -1, li, th)) : MO) ≤ nI a := by
      show ¬ gt.2.2.2.2 ≤ nI a
      rw [hc]; exact nI_ge e (by omega)
    refine (if_neg h2).trans ((if_pos (nI_in (c := a) (N := 1001) (by omega) (by decide))).trans ?_)
    have h3 : q_kinds ((gt, g, gq, ge, gp, (nI a, -1, li, th)) : MO) (nI a).toNatClampNeg = tkK tk a := by
      rw [nI_clamp (by omega)]; exact (hi a e).1
    rw [(tk_in hT e).1]
    show (if q_kinds ((gt, g, gq, ge, gp, (nI a, -1, li, th)) : MO) (nI a).toNatClampNeg = k then _ else _) = _
    rw [h3]
    by_cases c : tkK tk a = k
    · rw [if_pos c, if_pos c]
    · rw [if_neg c, if_neg c]
  · have h2 : q_count ((gt, g, gq, ge, gp, (nI a, -1, li, th)) : MO) ≤ nI a := by
      show gt.2.2.2.2 ≤ nI a
      rw [hc]; exact nI_le (by omega) (by omega)
    refine (if_pos h2).trans ?_
    rw [(tk_out hT (by omega) (by omega)).1, if_neg (fun e => hk e.symm)]
theorem gM_word (hR : TkR tk gt) (h : gM gt ge gp gq a li g mo) (e : a < tkn tk) : q_words mo (q_at mo).toNatClampNeg = tkW tk a ∧ q_names mo (q_at mo).toNatClampNeg = tkN tk a ∧ q_lines mo (q_at mo).toNatClampNeg = tkL tk a := by
  obtain ⟨th, rfl⟩ := h
  obtain ⟨hT, hc, hi⟩ := hR
  have h3 : (nI a).toNatClampNeg = a := nI_clamp (by omega)
  obtain ⟨_, h4, h5, h6, _⟩ := hi a e
  refine ⟨?_, ?_, ?_⟩
  · show gt.2.1 (nI a).toNatClampNeg = _
    rw [h3, h4]
  · show gt.2.2.1 (nI a).toNatClampNeg = _
    rw [h3, h5]
  · show gt.2.2.2.1 (nI a).toNatClampNeg = _
    rw [h3, h6]
theorem rs_sign (hR : TkR tk gt) (h : gM gt ge gp gq a li g mo) (ha : a ≤ tkn tk) {s : Int32} (hs : ¬ s = -1) : f_Mo_isSign mo s = some (.inr ((if f_Tk_sign tk (nI a) = s then 1 else 0), mo)) := by
  have hT := hR.1
  unfold f_Mo_isSign
  rw [rs_kind hR h ha (k := 4) (by decide)]
  by_cases c : f_Tk_kind tk (nI a) = 4
  · have e : a < tkn tk := by
      by_cases e : a < tkn tk
      · exact e
      · rw [(tk_out hT (by omega) (by omega)).1] at c; exact absurd c (by decide)
    rw [if_pos c, bndM_some, if_neg (by decide), if_pos (gM_inb h (by omega))]
    rw [(tk_in hT e).1] at c
    rw [(gM_word hR h e).1, (tk_in hT e).2.2.2.1, if_pos c]
    by_cases c2 : tkW tk a = s
    · rw [if_pos c2, if_pos c2]
    · rw [if_neg c2, if_neg c2]
  · rw [if_neg c]
    have h1 : f_Tk_sign tk (nI a) = -1 := by
      by_cases e : a < tkn tk
      · rw [(tk_in hT e).2.2.2.1]; rw [(tk_in hT e).1] at c; rw [if_neg c]
      · exact (tk_out hT (by omega) (by omega)).2.2.2.1
    rw [h1, if_neg (fun e => hs e.symm)]
    rfl
theorem rs_word (hR : TkR tk gt) (h : gM gt ge gp gq a li g mo) (ha : a ≤ tkn tk) {s : Int32} (hs : ¬ s = -1) (hs2 : s ≤ 35) : f_Mo_isWord mo s = some (.inr ((if f_Tk_keyword tk (nI a) = s then 1 else 0), mo)) := by
  have hT := hR.1
  unfold f_Mo_isWord
  rw [rs_kind hR h ha (k := 1) (by decide)]
  by_cases c : f_Tk_kind tk (nI a) = 1
  · have e : a < tkn tk := by
      by_cases e : a < tkn tk
      · exact e
      · rw [(tk_out hT (by omega) (by omega)).1] at c; exact absurd c (by decide)
    rw [if_pos c, bndM_some, if_neg (by decide), if_pos (gM_inb h (by omega))]
    rw [(tk_in hT e).1] at c
    rw [(gM_word hR h e).1, (tk_in hT e).2.2.2.2, if_pos c]
    by_cases c2 : tkW tk a = s
    · have c3 : ¬ 35 < tkW tk a := by rw [c2]; exact Int32.not_lt.mpr hs2
      rw [if_pos c2, if_neg c3, if_pos c2]
    · rw [if_neg c2]
      by_cases c3 : 35 < tkW tk a
      · rw [if_pos c3, if_neg (fun e => hs e.symm)]
      · rw [if_neg c3, if_neg c2]
  · rw [if_neg c]
    have h1 : f_Tk_keyword tk (nI a) = -1 := by
      by_cases e : a < tkn tk
      · rw [(tk_in hT e).2.2.2.2]; rw [(tk_in hT e).1] at c; rw [if_neg c]
      · exact (tk_out hT (by omega) (by omega)).2.2.2.2.1
    rw [h1, if_neg (fun e => hs e.symm)]
    rfl
/-- a sign or a kind that is there is a token's -/
theorem lt_of_sign (hT : tkn tk ≤ 1000) (ha : a ≤ 1000) {s : Int32} (h : f_Tk_sign tk (nI a) = s) (hs : ¬ s = -1) : a < tkn tk := by
  by_cases e : a < tkn tk
  · exact e
  · rw [(tk_out hT (by omega) (by omega)).2.2.2.1] at h; exact absurd h.symm hs
theorem lt_of_word (hT : tkn tk ≤ 1000) (ha : a ≤ 1000) {s : Int32} (h : f_Tk_keyword tk (nI a) = s) (hs : ¬ s = -1) : a < tkn tk := by
  by_cases e : a < tkn tk
  · exact e
  · rw [(tk_out hT (by omega) (by omega)).2.2.2.2.1] at h; exact absurd h.symm hs
theorem lt_of_kind (hT : tkn tk ≤ 1000) (ha : a ≤ 1000) {s : Int32} (h : f_Tk_kind tk (nI a) = s) (hs : ¬ s = 0) : a < tkn tk := by
  by_cases e : a < tkn tk
  · exact e
  · rw [(tk_out hT (by omega) (by omega)).1] at h; exact absurd h.symm hs
theorem kw_cases {w : Int32} (h : ¬ f_Tk_knownWord w = 0) : w = -1 ∨ ∃ j, j < 45 ∧ (w = nI j ∨ w = nI (100 + j)) := by
  have hh : ¬ w < -1 ∧ w ≤ 44 ∨ ¬ w < 100 ∧ ¬ 144 < w := by
    unfold f_Tk_knownWord at h
    split at h
    · split at h
      · exact absurd rfl h
      · split at h
        · exact absurd rfl h
        · right; constructor <;> assumption
    · split at h
      · left; constructor <;> assumption
      · split at h
        · exact absurd rfl h
        · split at h
          · exact absurd rfl h
          · right; constructor <;> assumption
  rcases hh with ⟨h1, h2⟩ | ⟨h1, h2⟩
  · by_cases c : w < 0
    · left
      refine Int32.toInt_inj.mp ?_
      have e1 : ¬ w.toInt < (-1 : Int32).toInt := fun e => h1 (Int32.lt_iff_toInt_lt.mpr e)
      have e2 : w.toInt < (0 : Int32).toInt := Int32.lt_iff_toInt_lt.mp c
      have e3 : (-1 : Int32).toInt = -1 := by decide
      have e4 : (0 : Int32).toInt = 0 := by decide
      omega
    · right
      obtain ⟨j, hj, hw⟩ := nI_of2 (n := 44) (by decide) c h2
      exact ⟨j, by omega, Or.inl hw⟩
  · right
    have c : ¬ w < 0 := by
      intro c
      have e1 : ¬ w.toInt < (100 : Int32).toInt := fun e => h1 (Int32.lt_iff_toInt_lt.mpr e)
      have e2 : w.toInt < (0 : Int32).toInt := Int32.lt_iff_toInt_lt.mp c
      have e3 : (100 : Int32).toInt = 100 := by decide
      have e4 : (0 : Int32).toInt = 0 := by decide
      omega
    obtain ⟨j, hj, hw⟩ := nI_of2 (n := 144) (by decide) c (Int32.not_lt.mp h2)
    subst hw
    have e1 : ¬ (nI j).toInt < (100 : Int32).toInt := fun e => h1 (Int32.lt_iff_toInt_lt.mpr e)
    rw [nI_toInt (by omega)] at e1
    have e3 : (100 : Int32).toInt = 100 := by decide
    refine ⟨j - 100, by omega, Or.inr ?_⟩
    congr 1
    omega
/-- whether a word is reserved, as the reference reckons and as the other does -/
def rvW (w s : Int32) : Int32 := if 0 ≤ w then (if w - w / 100 * 100 < 0 then (if s = 0 then 0 else if w - w / 100 * 100 ≤ 35 then 0 else 1) else if 35 < w - w / 100 * 100 then (if s = 0 then 0 else if w - w / 100 * 100 ≤ 35 then 0 else 1) else 1) else 0
def idW (w s : Int32) : Int32 := if w < 100 then (if w = (-1) then 1 else (if s = 0 then (if w ≤ 35 then 0 else 1) else 0)) else (if (w - 100) = (-1) then 1 else (if s = 0 then (if (w - 100) ≤ 35 then 0 else 1) else 0))
theorem rv_id0 : ∀ j, j < 45 → rvW (nI j) 0 = (if idW (nI j) 0 = 0 then 1 else 0) ∧ rvW (nI j) 1 = (if idW (nI j) 1 = 0 then 1 else 0) ∧ rvW (nI (100 + j)) 0 = (if idW (nI (100 + j)) 0 = 0 then 1 else 0) ∧ rvW (nI (100 + j)) 1 = (if idW (nI (100 + j)) 1 = 0 then 1 else 0) := by decide +kernel
theorem rv_id {w s : Int32} (h : ¬ f_Tk_knownWord w = 0) (hs : s = 0 ∨ s = 1) : rvW w s = (if idW w s = 0 then 1 else 0) := by
  rcases kw_cases h with rfl | ⟨j, hj, rfl | rfl⟩
  · rcases hs with rfl | rfl <;> decide +kernel
  · rcases hs with rfl | rfl
    · exact (rv_id0 j hj).1
    · exact (rv_id0 j hj).2.1
  · rcases hs with rfl | rfl
    · exact (rv_id0 j hj).2.2.1
    · exact (rv_id0 j hj).2.2.2
theorem tk_id (hT : tkn tk ≤ 1000) (e : a < tkn tk) (hk : tkK tk a = 1) (s : Int32) : f_Tk_identifier tk (nI a) s = idW (tkW tk a) s := by
  have h1 : ¬ nI a < 0 := nI_pos (by omega)
  have h2 : ¬ nI (tkn tk) ≤ nI a := nI_ge e (by omega)
  have h3 : (nI a).toNatClampNeg = a := nI_clamp (by omega)
  unfold f_Tk_identifier
  rw [if_neg h1, if_neg h2, h3, if_pos hk]
  rfl
theorem known1 {k w n : Int32} (h : f_Tk_known k w n = 1) (hk : k = 1) : ¬ f_Tk_knownWord w = 0 ∧ ¬ f_Tk_knownName n = 0 := by
  subst hk
  unfold f_Tk_known at h
  rw [if_pos rfl] at h
  by_cases c : f_Tk_knownWord w = 0
  · rw [if_pos c] at h; exact absurd h (by decide)
  · rw [if_neg c] at h
    by_cases c2 : f_Tk_knownName n = 0
    · rw [if_pos c2] at h; exact absurd h (by decide)
    · exact ⟨c, c2⟩
theorem f_isIn (m0 : MO) (x lo hi : Int32) : f_Mo_isIn m0 x lo hi = some (.inr ((if x < lo then 0 else if hi < x then 0 else 1), m0)) := by
  unfold f_Mo_isIn
  by_cases c : x < lo
  · rw [if_pos c, if_pos c]
  · rw [if_neg c, if_neg c]
    by_cases c2 : hi < x
    · rw [if_pos c2, if_pos c2]
    · rw [if_neg c2, if_neg c2]
theorem rs_res (hR : TkR tk gt) (h : gM gt ge gp gq a li g mo) (hk : f_Tk_kind tk (nI a) = 1) (ha : a ≤ tkn tk) {s : Int32} (hs : s = 0 ∨ s = 1) : f_Mo_isReserved mo s = some (.inr ((if f_Tk_identifier tk (nI a) s = 0 then 1 else 0), mo)) := by
  have hT := hR.1
  have e : a < tkn tk := lt_of_kind hT (by omega) hk (by decide)
  have hk2 : tkK tk a = 1 := by rw [← (tk_in hT e).1]; exact hk
  have hkn := (known1 (hR.2.2 a e).2.2.2.2.2 hk2).1
  rw [tk_id hT e hk2, ← rv_id hkn hs]
  unfold f_Mo_isReserved
  rw [if_pos (gM_inb h (by omega)), (gM_word hR h e).1]
  unfold rvW
  by_cases c : 0 ≤ tkW tk a
  · rw [if_pos c, if_pos c, f_isIn]
    by_cases c1 : tkW tk a - tkW tk a / 100 * 100 < 0
    · simp only [c1, if_true, bndM]
      rcases hs with rfl | rfl
      · simp only [if_true]
      · simp only [i10, if_false]
        by_cases c3 : tkW tk a - tkW tk a / 100 * 100 ≤ 35
        · simp only [c3, if_true]
        · simp only [c3, if_false]
    · by_cases c2 : 35 < tkW tk a - tkW tk a / 100 * 100
      · simp only [c1, c2, if_true, if_false, bndM]
        rcases hs with rfl | rfl
        · simp only [if_true]
        · simp only [i10, if_false]
          by_cases c3 : tkW tk a - tkW tk a / 100 * 100 ≤ 35
          · simp only [c3, if_true]
          · simp only [c3, if_false]
      · simp only [c1, c2, if_false, bndM, i10]
  · rw [if_neg c, if_neg c, f_isIn]
    have c1 : ((-1 : Int32) < 0) = True := by decide
    simp only [c1, if_true, bndM]
    rcases hs with rfl | rfl
    · simp only [if_true]
    · simp only [i10, if_false]
end PUM
