/-! operands: groups and arrays -/
section PUA
variable {tk : TK} {lb : LB} {co : CO} {L : List Nd} {st : ST} {gt : gT} {ge : gE} {gp : gP} {gq : gQ} {a : Nat} {li : Int32} {g : gN} {mo : MO} {m e : Nat}
variable {E : Int32 → Int32 → Int32 → ST → Rz} {S : Int32 → Int32 → ST → Rz} {F : Int32 → Int32 → ST → Rz} {K : Nat → List Int32 → MO → Rm}
theorem sign_kind (hT : tkn tk ≤ 1000) (ha : a ≤ 1000) {s : Int32} (h : f_Tk_sign tk (nI a) = s) (hs : ¬ s = -1) : f_Tk_kind tk (nI a) = 4 := by
  have hl := lt_of_sign hT ha h hs
  rw [(tk_in hT hl).1]
  rw [(tk_in hT hl).2.2.2.1] at h
  by_cases c : tkK tk a = 4
  · exact c
  · rw [if_neg c] at h; exact absurd h.symm hs
theorem word_kind (hT : tkn tk ≤ 1000) (ha : a ≤ 1000) {s : Int32} (h : f_Tk_keyword tk (nI a) = s) (hs : ¬ s = -1) : f_Tk_kind tk (nI a) = 1 := by
  have hl := lt_of_word hT ha h hs
  rw [(tk_in hT hl).1]
  rw [(tk_in hT hl).2.2.2.2] at h
  by_cases c : tkK tk a = 1
  · exact c
  · rw [if_neg c] at h; exact absurd h.symm hs
theorem sm_group (he : HC 1 2 XL (E (-1) (nI (e + 1)) 1) (K 0 [nI (e + 1), 1]) (e + 1)) (hR : RR tk gt co lb ge gp gq a li g m L st mo) (hlb : lbn lb < e) (hL : L.length ≤ 2 * a + 2) (hm : m ≤ 2 * a + 2) (hs : f_Tk_sign tk (nI a) = 60) :
    Sim (f_Pa_group E S F st (nI e)) (bndM (K 0 [nI e + 1, 1] (s_at mo (q_at mo + 1))) (fun r mo26 => bndM (f_Mo_expect mo26 61) (fun _ mo27 => some (.inr (r, mo27))))) (PX 1 (lbn lb) (XL (tk, co) a) tk gt co lb ge gp gq a g m L) := by
  obtain ⟨hw, hc, hq, hd⟩ := hR
  have hT := hw.1.1
  have ha := hw.2.1
  have hl := lt_of_sign hT (by omega) hs (by decide)
  have hk := sign_kind hT (by omega) hs (by decide)
  unfold f_Pa_group
  rw [nI_1]
  refine Sim_bind (he tk gt co lb ge gp gq (a + 1) li g m L _ _ ⟨Wf_up hw (by omega) (by omega), gC_inc hc, gM_inc hq, hd⟩ (by omega) (by omega) (by omega)) ?_
  intro r st1 n mo1 h1
  obtain ⟨lb1, ge1, gp1, a1, li1, g1, m1, sg, n1, rfl, w1, c1, q1, d1, f1, fn1, o1, l1, l2, l3, l4, l5, l6, l7, hX⟩ := PX_le h1
  refine sm_expect w1.1 l2 c1 q1 (by decide) ?_
  intro hl1 hs1 st2 mo2 c2 q2
  exact Sim_ret ⟨lb1, ge1, gp1, a1 + 1, li1, g1, m1, sg, n1, rfl, ⟨Wf_up w1 (by omega) (by omega), c2, q2, d1⟩, f1, fn1, o1, by omega, by omega, by omega, ⟨fun h => absurd h (by rw [hk]; decide), fun v w z t h => ⟨(hX.2.1 v w z t h).1, fun h1 => absurd h1 (by rw [hk]; decide)⟩, hX.2.2⟩⟩
theorem rs_none {p lo mid : Nat} {k v w : Int32} {bd : List Nd} (h : gM gt ge gp gq a li g mo) (hm : nM g = nI m) (hb : m < 2600) (hO : Opn g p k v w bd lo mid) (h1 : mid ≤ m) (h2 : lo ≤ m) (h3 : p < m) :
    ∃ mo' g', f_Mo_none mo (nI p) = some (.inr (0, mo')) ∧ gM gt ge gp gq a li g' mo' ∧ Opn g' p k v w (bd ++ [(59, 0, nI a, 1)]) lo (m + 1) ∧ (∀ z, z ≤ lo → z ≤ p → FrN g g' z) ∧ nM g' = nI (m + 1) := by
  obtain ⟨mo1, g1, e1, q1, o1, f1, d1⟩ := rs_make' h hm hb 59 0 (nI a)
  have hO1 := Opn_fr hO (f1 m (Nat.le_refl _)) h1 h3
  have ho := Opn_one (o1 m m) (Nat.le_refl m) (Nat.le_succ m) (Nat.le_refl _) (Nat.lt_succ_self m)
  obtain ⟨mo2, g2, e2, q2, o2, f2, d2⟩ := rs_hang' q1 hO1 ho h1 h2 (Or.inl h3)
  refine ⟨mo2, g2, ?_, q2, o2, fun z hz1 hz2 => FrN_trans (f1 z (by omega)) (f2 z hz1 hz2) (Nat.le_refl _), by rw [d2, d1]⟩
  unfold f_Mo_none
  rw [gM_at h, e1, bndM_some, e2]
  rfl
theorem sm_arrayL (he : HC 1 2 XA (E 0 (nI (e + 1)) 1) (K 1 [nI (e + 1), 1]) (e + 1)) :
    ∀ (fu fm x z p lo : Nat) (k v w : Int32) (bd : List Nd) (r0 : Int32) (tk : TK) (gt : gT) (co : CO) (lb : LB) (ge : gE) (gp : gP) (gq : gQ) (a : Nat) (li : Int32) (g : gN) (m : Nat) (L : List Nd) (st : ST) (mo : MO),
      RR tk gt co lb ge gp gq a li g m L st mo → lbn lb < e + 1 → L.length ≤ 2 * a + 2 → m ≤ 2 * a + 2 → tkn tk - a < fu → tkn tk - a < fm → x ≤ a → Opn g p k v w bd lo m → z ≤ lo → z ≤ p → p < m → lo ≤ m →
      Sim (f_Pa_array_L27 E S F (nI e) fu (nI x) st) (bndM (f_Mo_array_L7 K (nI e) (nI p) fm mo) (fun _ se => some (.inr (r0, s_at se (q_at se + 1))))) (fun r st n mo => n = r0 ∧ PO z (lbn lb) (fun _ _ => True) p k v w bd lo tk gt co lb ge gp gq a g m L r st n mo) := by
  intro fu
  induction fu with
  | zero => intro fm x z p lo k v w bd r0 tk gt co lb ge gp gq a li g m L st mo _ _ _ _ h; omega
  | succ fu ih =>
    intro fm x z p lo k v w bd r0 tk gt co lb ge gp gq a li g m L st mo hR hlb hL hm hfu hfm hx hO hz1 hz2 hpm hlm
    obtain ⟨hw, hc, hq, hd⟩ := hR
    have hT := hw.1.1
    have ha := hw.2.1
    obtain ⟨fm', rfl⟩ : ∃ q, fm = q + 1 := ⟨fm - 1, by omega⟩
    unfold f_Pa_array_L27 f_Mo_array_L7
    rw [if_neg (x_le hx ha hT), rs_sign hw.1 hq ha (s := 63) (by decide)]
    by_cases c63 : f_Tk_sign tk (nI a) = 63
    · obtain ⟨st1, e1, c1⟩ := cs_acc hc c63
      have hl := lt_of_sign hT (by omega) c63 (by decide)
      rw [if_pos c63]
      refine Sim_c e1 ?_
      rw [if_neg (by decide)]
      refine Sim_ret ⟨rfl, lb, ge, gp, a + 1, li, g, m, [], ⟨Wf_up hw (by omega) (by omega), by rw [List.append_nil]; exact c1, gM_inc hq, hd⟩, Fr_refl _ _ _ _, FrN_refl _ _, by rw [List.append_nil]; exact hO, by omega, by simp, by omega, by omega, trivial⟩
    · rw [if_neg c63]
      refine Sim_c (cs_nacc hc c63) ?_
      rw [if_pos rfl]
      rw [bndM_some]
      rw [if_pos rfl, rs_sign hw.1 hq ha (s := 68) (by decide), cu_sign hc]
      by_cases c68 : f_Tk_sign tk (nI a) = 68
      · have hl := lt_of_sign hT (by omega) c68 (by decide)
        rw [if_pos c68, if_neg (by decide)]
        rw [bndM_some]
        rw [if_neg (by decide)]
        obtain ⟨st1, e1, c1⟩ := cs_open hc (by omega) hT 59 0 (sAt st)
        refine Sim_c e1 ?_
        rw [gC_at hc] at c1
        have n63 : ¬ f_Tk_sign tk (nI a) = 63 := c63
        rw [cu_sign c1, if_neg n63, if_pos rfl]
        have ex : f_Cu_expect st1 68 = some (.inr (0, setAt st1 (sAt st1 + 1))) := by
          unfold f_Cu_expect; rw [gC_tk c1, gC_at c1, if_pos c68]
        refine Sim_c ex ?_
        obtain ⟨mo1, g1, e2, q1, o1, f1, d1⟩ := rs_none hq hd (by omega) hO (Nat.le_refl _) hlm hpm
        simp only [bndM_as]
        refine Sim_m e2 ?_
        rw [rs_sign hw.1 q1 ha (s := 68) (by decide), if_pos c68]
        rw [bndM_some]
        rw [if_neg (by decide), nI_1]
        refine Sim_mono (ih fm' (x + 1) z p lo k v w _ r0 tk gt co lb ge gp gq (a + 1) li g1 (m + 1) _ _ _ ⟨Wf_up hw (by omega) (by omega), gC_inc c1, gM_inc q1, d1⟩ hlb (by simp; omega) (by omega) (by omega) (by omega) (by omega) o1 hz1 hz2 (by omega) (by omega)) ?_
        intro r9 st9 n9 mo9 h9
        obtain ⟨b0, lb', ge', gp', a', li', g', m', sg', b1, b2, b3, b4, b5, b6, b7, b8, _⟩ := h9
        refine ⟨b0, lb', ge', gp', a', li', g', m', (59, 0, nI a, 1) :: sg', by rw [List.append_assoc] at b1; exact b1, b2, FrN_trans (f1 z hz1 hz2) b3 (Nat.le_refl _), by rw [List.append_assoc] at b4; exact b4, by omega, by simp; omega, by omega, by omega, trivial⟩
      · rw [if_neg c68, if_pos rfl]
        rw [bndM_some]
        rw [if_pos rfl, nI_1, nI_1]
        simp only [bndM_as]
        refine Sim_bind (he tk gt co lb ge gp gq a li g m L st mo ⟨hw, hc, hq, hd⟩ hlb hL hm) ?_
        intro r st1 n mo1 h1
        obtain ⟨lb1, ge1, gp1, a1, li1, g1, m1, sg, n1, rfl, w1, c1, q1, d1, f1, fn1, o1, l1, l2, l3, l4, l5, l6, l7, _⟩ := PX_le h1
        have hO1 := Opn_fr hO fn1 (Nat.le_refl _) hpm
        obtain ⟨mo2, g2, e2, q2, hO2, fn2, d2⟩ := rs_hang' q1 hO1 o1 (Nat.le_refl _) hlm (Or.inl hpm)
        rw [d1] at d2
        have fz : FrN g g2 z := FrN_trans (FrN_less fn1 (by omega)) (fn2 z hz1 hz2) (Nat.le_refl _)
        refine Sim_m e2 ?_
        rw [rs_sign w1.1 q2 l2 (s := 63) (by decide), cu_sign c1]
        by_cases d63 : f_Tk_sign tk (nI a1) = 63
        · have n68 : ¬ f_Tk_sign tk (nI a1) = 68 := by rw [d63]; decide
          rw [if_pos d63, if_neg (by decide)]
          rw [bndM_some]
          rw [if_neg (by decide), rs_sign w1.1 q2 l2 (s := 68) (by decide), if_neg n68]
          rw [bndM_some]
          rw [if_pos rfl]
          refine Sim_mono (ih fm' (x + 1) z p lo k v w _ r0 tk gt co lb1 ge1 gp1 gq a1 li1 g2 m1 _ _ _ ⟨w1, c1, q2, d2⟩ (by rw [l3]; exact hlb) (by omega) (by omega) (by omega) (by omega) (by omega) hO2 hz1 hz2 (by omega) (by omega)) ?_
          intro r9 st9 n9 mo9 h9
          obtain ⟨b0, lb', ge', gp', a', li', g', m', sg', b1, b2, b3, b4, b5, b6, b7, b8, _⟩ := h9
          refine ⟨b0, lb', ge', gp', a', li', g', m', sg ++ sg', by rw [← List.append_assoc]; exact b1, Fr_trans f1 b2 (by rw [l3]; exact Nat.le_refl _), FrN_trans fz b3 (Nat.le_refl _), by rw [← List.append_assoc]; exact b4, by omega, by rw [List.length_append]; omega, by omega, by omega, trivial⟩
        · rw [if_neg d63, if_pos rfl]
          rw [bndM_some]
          rw [if_pos rfl, rs_sign w1.1 q2 l2 (s := 68) (by decide)]
          by_cases d68 : f_Tk_sign tk (nI a1) = 68
          · have hl := lt_of_sign hT (by omega) d68 (by decide)
            rw [if_pos d68]
            rw [bndM_some]
            rw [if_neg (by decide), rs_sign w1.1 q2 l2 (s := 68) (by decide), if_pos d68]
            rw [bndM_some]
            rw [if_neg (by decide)]
            have ex : f_Cu_expect st1 68 = some (.inr (0, setAt st1 (sAt st1 + 1))) := by
              unfold f_Cu_expect; rw [gC_tk c1, gC_at c1, if_pos d68]
            refine Sim_c ex ?_
            refine Sim_mono (ih fm' (x + 1) z p lo k v w _ r0 tk gt co lb1 ge1 gp1 gq (a1 + 1) li1 g2 m1 _ _ _ ⟨Wf_up w1 (by omega) (by omega), gC_inc c1, gM_inc q2, d2⟩ (by rw [l3]; exact hlb) (by omega) (by omega) (by omega) (by omega) (by omega) hO2 hz1 hz2 (by omega) (by omega)) ?_
            intro r9 st9 n9 mo9 h9
            obtain ⟨b0, lb', ge', gp', a', li', g', m', sg', b1, b2, b3, b4, b5, b6, b7, b8, _⟩ := h9
            refine ⟨b0, lb', ge', gp', a', li', g', m', sg ++ sg', by rw [← List.append_assoc]; exact b1, Fr_trans f1 b2 (by rw [l3]; exact Nat.le_refl _), FrN_trans fz b3 (Nat.le_refl _), by rw [← List.append_assoc]; exact b4, by omega, by rw [List.length_append]; omega, by omega, by omega, trivial⟩
          · rw [if_neg d68]
            rw [bndM_some]
            rw [if_pos rfl]
            refine Sim_rr (p := nI a1) (Ref_bnd ?_) (RefM_bnd (RefM_bnd ?_)) (at_ne w1.1 l2)
            · unfold f_Cu_expect
              rw [gC_tk c1, gC_at c1, if_neg d68]
              exact Ref_bnd (Ref_refuse c1 _)
            · rw [gM_at q2]; exact RefM_refuse _ _
theorem sm_array (he : HC 1 2 XA (E 0 (nI (e + 1)) 1) (K 1 [nI (e + 1), 1]) (e + 1)) (hR : RR tk gt co lb ge gp gq a li g m L st mo) (hlb : lbn lb < e) (hL : L.length ≤ 2 * a + 2) (hm : m ≤ 2 * a + 2) (hs : f_Tk_sign tk (nI a) = 62) :
    Sim (f_Pa_array E S F st (nI e)) (f_Mo_array K mo (nI e)) (PX 1 (lbn lb) (XL (tk, co) a) tk gt co lb ge gp gq a g m L) := by
  obtain ⟨hw, hc, hq, hd⟩ := hR
  have hT := hw.1.1
  have ha := hw.2.1
  have hl := lt_of_sign hT (by omega) hs (by decide)
  have hk := sign_kind hT (by omega) hs (by decide)
  unfold f_Pa_array f_Mo_array
  obtain ⟨st1, e1, c1⟩ := cs_open hc (by omega) hT 35 0 (sAt st)
  rw [gC_at hc] at c1
  refine Sim_c e1 ?_
  obtain ⟨mo1, g1, e2, q1, o1, f1, d1⟩ := rs_plain hq hd (by omega) 35
  refine Sim_m e2 ?_
  have h0 : (0 : Int32) = nI 0 := rfl
  rw [h0]
  have hr := sm_arrayL (S := S) (F := F) he 5000 5000 0 m m (m + 1) 35 0 (nI a) [] (nI m) tk gt co lb ge gp gq (a + 1) li g1 (m + 1) _ _ _ ⟨Wf_up hw (by omega) (by omega), gC_inc c1, q1, d1⟩ (by omega) (by simp; omega) (by omega) (by omega) (by omega) (by omega) (o1 _ _) (by omega) (by omega) (by omega) (by omega)
  refine Sim_bindC hr ?_
  intro r st2 n mo2 h2
  obtain ⟨b0, lb', ge', gp', a', li', g', m', sg, ⟨w', c', q', d'⟩, b2, b3, b4, b5, b6, b7, b8, _⟩ := h2
  subst b0
  have hll : (L ++ [(35, 0, nI a, (1 : Int32))] ++ sg).length = L.length + 1 + sg.length := by simp; omega
  have ha' := w'.2.1
  obtain ⟨st3, e3, c3⟩ := cs_close (pre := L) (k := 35) (v := 0) (w := nI a) (z := 1) (bd := sg) c' (by simp) (by omega) rfl
  refine Sim_c e3 ?_
  refine Sim_ret ⟨lb', ge', gp', a', li', g', m', _, m, rfl, ⟨w', c3, q', d'⟩, b2, FrN_trans (f1 m (Nat.le_refl _)) b3 (Nat.le_refl _), Opn_one b4 (by omega) (Nat.le_refl _) (Nat.le_refl _) (by omega), by omega, by simp; omega, by omega, XL_hk (by rw [hk]; decide) (by decide)⟩
end PUA
