def l_push (b : LB) (x : Int32) : Option LB := if nI 100 ≤ nI (lbn b) then none else some (upd (lbN b) (lbn b) x, upd (lbL b) (lbn b) 0, lbn b + 1)
def l_pop (b : LB) : Option LB := if lbn b = 0 then none else some (lbN b, lbL b, lbn b - 1)
def l_clear (b : LB) : Option LB := some (lbN b, lbL b, 0)
def l_mark (b : LB) : Nat → Int32 → Option LB
  | 0, _ => none
  | fu + 1, i => if nI (lbn b) ≤ i then some b else if ¬ i < 0 ∧ ¬ nI 100 ≤ i then l_mark (lbN b, upd (lbL b) i.toNatClampNeg 1, lbn b) fu (i + 1) else none
def l_markAsLoops (b : LB) (first : Int32) : Option LB := l_mark b 5000 (if 0 < first then first else 0)
set_option maxRecDepth 100000 in
set_option maxHeartbeats 4000000 in
theorem m_La_push (l : Launch) (dC : Nat → ClassId) (dI : Nat → Nat → Nat) (cI cZ : ClassId) (sa rk hq n1 n2 : Nat) (lb lb1 : LB) (hlb : okLb lb) (sz : Nat) (x : Int32) (hv : l_push lb x = some lb1) : cMv l y_La_push c_La_push 2 0 0 0 0 (dC, dI) cI cZ sa rk [.ref hq, .int x] (wLa cI cZ hq n1 n2 lb) sz (fun u : LB => u = lb1) (wLa cI cZ hq n1 n2) := by
  refine Met.ofW (cc := c_La_push) (maxL := 2) (ret := none) (by decide) rfl ?_
  intro p e s m args below meth c s₁ B hml hv9
  obtain ⟨rfl, hsz, hP, hK, hD0, hC, hZ⟩ := hv9
  have hx := B.exec
  have hb := B.bytes
  have hr := B.returns
  have hts0 := atoms_spec (ws := wy y_La_push c_La_push 2 none) B.pre
  have hts := htsL hts0
  have hown : s.vm.findClass R_La = some m.cls := findClass_of_methodNamed B.named
  have hlocks := B.notSynchronized
  subst hsz
  have hD := hD0.self (sz := s.heap.size)
  generalize hAe : va_A (wLa cI cZ hq n1 n2 lb) s.heap.size = A at hD hZ ⊢
  have hA : ∀ q : Nat, s.heap.size ≤ q → A q := fun q h => by rw [← hAe]; exact Or.inr h
  have hS : va_S A s.heap s.heap [] := va_S.rf
  have hl := lv_entry ([.ref hq, .int x]) (n := 2) (Nat.le_of_ble_eq_true rfl)
  rw [lg_entry_eq]
  generalize (lg_sl ([.ref hq, .int x]) ++ List.replicate (2 - (lg_sl ([.ref hq, .int x])).length) Slot.unset).toArray = ls at hl ⊢
  have hl : lv_has ls 2 [(0, .ref hq), (1, .int x)] := hl
  have hp0 : ¬ nI 100 ≤ nI (lbn lb) := fun z => by unfold l_push at hv; rw [if_pos z] at hv; exact nomatch hv
  unfold l_push at hv
  rw [if_neg hp0] at hv
  have hlt : lbn lb < 100 := by
    rcases Nat.lt_or_ge (lbn lb) 100 with z | z
    · exact z
    · exact absurd (nI_le z (by have : lbn lb ≤ 100 := hlb; omega)) hp0
  have hin : vp_in (nI (lbn lb)) 100 := vp_in_nI hlt (by decide)
  have ecl : (nI (lbn lb)).toNatClampNeg = lbn lb := nI_clamp (by omega)
  refine lv_aload_n hx hb d_La_push_0 rfl (lv_at hl 0 rfl) ?_
  refine va_get (D := (dC, dI)) (ci := 1) (v := .int (nI (lbn lb))) (C := R_La) (T := T_La) (N := 3) hx hb hts u_La hown hK hP 0 rfl rfl 2 (by decide) (hts _ L_199) (fun _ h9 => h9) rfl d_La_push_1 ?_
  refine lv_aload_n hx hb d_La_push_4 rfl (lv_at hl 0 rfl) ?_
  refine va_get (D := (dC, dI)) (ci := 1) (v := .ref n1) (C := R_La) (T := T_La) (N := 3) hx hb hts u_La hown hK hP 0 rfl rfl 0 (by decide) (hts _ L_197) (fun _ h9 => h9) rfl d_La_push_5 ?_
  refine va_alen (D := (dC, dI)) (v := nI 100) hx hb hK hP 1 0 rfl rfl rfl d_La_push_8 ?_
  refine lv_icmp_ge (tgt := 42) hx hb d_La_push_9 (by decide) (fun q9 => absurd q9 hp0) (fun _ => ?_)
  refine lv_aload_n hx hb d_La_push_12 rfl (lv_at hl 0 rfl) ?_
  refine va_get (D := (dC, dI)) (ci := 1) (v := .ref n1) (C := R_La) (T := T_La) (N := 3) hx hb hts u_La hown hK hP 0 rfl rfl 0 (by decide) (hts _ L_197) (fun _ h9 => h9) rfl d_La_push_13 ?_
  refine lv_aload_n hx hb d_La_push_16 rfl (lv_at hl 0 rfl) ?_
  refine va_get (D := (dC, dI)) (ci := 1) (v := .int (nI (lbn lb))) (C := R_La) (T := T_La) (N := 3) hx hb hts u_La hown hK hP 0 rfl rfl 2 (by decide) (hts _ L_199) (fun _ h9 => h9) rfl d_La_push_17 ?_
  refine lv_iload_n hx hb d_La_push_20 rfl (lv_at hl 1 rfl) ?_
  refine va_iast (D := (dC, dI)) hx hb hK hP hD hS 1 0 rfl rfl hin d_La_push_21 (fun H locs hP hD hS => ?_)
  rw [ecl] at hP hD
  have hP : va_P (dC, dI) cls (wLa cI cZ hq n1 n2 (upd (lbN lb) (lbn lb) x, lbL lb, lbn lb)) H := hP
  have hD : va_D A (wLa cI cZ hq n1 n2 (upd (lbN lb) (lbn lb) x, lbL lb, lbn lb)) := hD
  refine lv_aload_n hx hb d_La_push_22 rfl (lv_at hl 0 rfl) ?_
  refine va_get (D := (dC, dI)) (ci := 1) (v := .ref n2) (C := R_La) (T := T_La) (N := 3) hx hb hts u_La hown hK hP 0 rfl rfl 1 (by decide) (hts _ L_198) (fun _ h9 => h9) rfl d_La_push_23 ?_
  refine lv_aload_n hx hb d_La_push_26 rfl (lv_at hl 0 rfl) ?_
  refine va_get (D := (dC, dI)) (ci := 1) (v := .int (nI (lbn lb))) (C := R_La) (T := T_La) (N := 3) hx hb hts u_La hown hK hP 0 rfl rfl 2 (by decide) (hts _ L_199) (fun _ h9 => h9) rfl d_La_push_27 ?_
  refine lv_iconst (v := 0) hx hb d_La_push_30 (by decide) ?_
  refine va_zast (D := (dC, dI)) hx hb hK hP hD hS 2 1 rfl rfl hin d_La_push_31 (fun H locs hP hD hS => ?_)
  rw [ecl] at hP hD
  have hP : va_P (dC, dI) cls (wLa cI cZ hq n1 n2 (upd (lbN lb) (lbn lb) x, upd (lbL lb) (lbn lb) 0, lbn lb)) H := hP
  have hD : va_D A (wLa cI cZ hq n1 n2 (upd (lbN lb) (lbn lb) x, upd (lbL lb) (lbn lb) 0, lbn lb)) := hD
  refine lv_aload_n hx hb d_La_push_32 rfl (lv_at hl 0 rfl) ?_
  refine lv_dup hx hb d_La_push_33 rfl ?_
  refine va_get (D := (dC, dI)) (ci := 1) (v := .int (nI (lbn lb))) (C := R_La) (T := T_La) (N := 3) hx hb hts u_La hown hK hP 0 rfl rfl 2 (by decide) (hts _ L_199) (fun _ h9 => h9) rfl d_La_push_34 ?_
  refine lv_iconst (v := 1) hx hb d_La_push_37 (by decide) ?_
  refine lv_iadd hx hb d_La_push_38 ?_
  refine lv_eqi (y := nI (lbn lb + 1)) (nI_1 _) ?_
  refine va_put (D := (dC, dI)) (ci := 1) (v := .int (nI (lbn lb + 1))) (ty := .int) (C := R_La) (T := T_La) (N := 3) hx hb hts u_La ty_La tk_La nm_La hown hK hP hD hS 0 rfl rfl 2 (by decide) (hts _ L_199) (fun _ h9 => h9) rfl (by decide +kernel) rfl rfl (Nat.le_of_ble_eq_true rfl) d_La_push_39 (fun H locs hP hD hS => ?_)
  exact W.vret hx hb hr (fun t ht9 hW => ⟨⟨(upd (lbN lb) (lbn lb) x, upd (lbL lb) (lbn lb) 0, lbn lb + 1), rfl, Option.some.inj hv, by rw [ht9]; exact hP, va_K.moved hW.alike hK, hD⟩, hS.F ht9⟩) hS.2.2 d_La_push_42
set_option maxRecDepth 100000 in
set_option maxHeartbeats 4000000 in
theorem m_La_pop (l : Launch) (dC : Nat → ClassId) (dI : Nat → Nat → Nat) (cI cZ : ClassId) (sa rk hq n1 n2 : Nat) (lb lb1 : LB) (hlb : okLb lb) (sz : Nat)  (hv : l_pop lb  = some lb1) : cMv l y_La_pop c_La_pop 1 0 0 0 0 (dC, dI) cI cZ sa rk [.ref hq] (wLa cI cZ hq n1 n2 lb) sz (fun u : LB => u = lb1) (wLa cI cZ hq n1 n2) := by
  refine Met.ofW (cc := c_La_pop) (maxL := 1) (ret := none) (by decide) rfl ?_
  intro p e s m args below meth c s₁ B hml hv9
  obtain ⟨rfl, hsz, hP, hK, hD0, hC, hZ⟩ := hv9
  have hx := B.exec
  have hb := B.bytes
  have hr := B.returns
  have hts0 := atoms_spec (ws := wy y_La_pop c_La_pop 1 none) B.pre
  have hts := htsL hts0
  have hown : s.vm.findClass R_La = some m.cls := findClass_of_methodNamed B.named
  have hlocks := B.notSynchronized
  subst hsz
  have hD := hD0.self (sz := s.heap.size)
  generalize hAe : va_A (wLa cI cZ hq n1 n2 lb) s.heap.size = A at hD hZ ⊢
  have hA : ∀ q : Nat, s.heap.size ≤ q → A q := fun q h => by rw [← hAe]; exact Or.inr h
  have hS : va_S A s.heap s.heap [] := va_S.rf
  have hl := lv_entry ([.ref hq]) (n := 1) (Nat.le_of_ble_eq_true rfl)
  rw [lg_entry_eq]
  generalize (lg_sl ([.ref hq]) ++ List.replicate (1 - (lg_sl ([.ref hq])).length) Slot.unset).toArray = ls at hl ⊢
  have hl : lv_has ls 1 [(0, .ref hq)] := hl
  have hp0 : ¬ lbn lb = 0 := fun z => by unfold l_pop at hv; rw [if_pos z] at hv; exact nomatch hv
  unfold l_pop at hv
  rw [if_neg hp0] at hv
  refine lv_aload_n hx hb d_La_pop_0 rfl (lv_at hl 0 rfl) ?_
  refine va_get (D := (dC, dI)) (ci := 1) (v := .int (nI (lbn lb))) (C := R_La) (T := T_La) (N := 3) hx hb hts u_La hown hK hP 0 rfl rfl 2 (by decide) (hts _ L_199) (fun _ h9 => h9) rfl d_La_pop_1 ?_
  refine lv_if_le (tgt := 17) hx hb d_La_pop_4 (by decide) (fun q9 => absurd q9 (nI_nle (by omega) (by have : lbn lb ≤ 100 := hlb; omega))) (fun _ => ?_)
  refine lv_aload_n hx hb d_La_pop_7 rfl (lv_at hl 0 rfl) ?_
  refine lv_dup hx hb d_La_pop_8 rfl ?_
  refine va_get (D := (dC, dI)) (ci := 1) (v := .int (nI (lbn lb))) (C := R_La) (T := T_La) (N := 3) hx hb hts u_La hown hK hP 0 rfl rfl 2 (by decide) (hts _ L_199) (fun _ h9 => h9) rfl d_La_pop_9 ?_
  refine lv_iconst (v := 1) hx hb d_La_pop_12 (by decide) ?_
  refine lv_isub hx hb d_La_pop_13 ?_
  refine lv_eqi (y := nI (lbn lb - 1)) (pk_sub (b := 1) (by omega)) ?_
  refine va_put (D := (dC, dI)) (ci := 1) (v := .int (nI (lbn lb - 1))) (ty := .int) (C := R_La) (T := T_La) (N := 3) hx hb hts u_La ty_La tk_La nm_La hown hK hP hD hS 0 rfl rfl 2 (by decide) (hts _ L_199) (fun _ h9 => h9) rfl (by decide +kernel) rfl rfl (Nat.le_of_ble_eq_true rfl) d_La_pop_14 (fun H locs hP hD hS => ?_)
  exact W.vret hx hb hr (fun t ht9 hW => ⟨⟨(lbN lb, lbL lb, lbn lb - 1), rfl, Option.some.inj hv, by rw [ht9]; exact hP, va_K.moved hW.alike hK, hD⟩, hS.F ht9⟩) hS.2.2 d_La_pop_17
set_option maxRecDepth 100000 in
set_option maxHeartbeats 4000000 in
theorem m_La_clear (l : Launch) (dC : Nat → ClassId) (dI : Nat → Nat → Nat) (cI cZ : ClassId) (sa rk hq n1 n2 : Nat) (lb lb1 : LB) (hlb : okLb lb) (sz : Nat)  (hv : l_clear lb  = some lb1) : cMv l y_La_clear c_La_clear 1 0 0 0 0 (dC, dI) cI cZ sa rk [.ref hq] (wLa cI cZ hq n1 n2 lb) sz (fun u : LB => u = lb1) (wLa cI cZ hq n1 n2) := by
  refine Met.ofW (cc := c_La_clear) (maxL := 1) (ret := none) (by decide) rfl ?_
  intro p e s m args below meth c s₁ B hml hv9
  obtain ⟨rfl, hsz, hP, hK, hD0, hC, hZ⟩ := hv9
  have hx := B.exec
  have hb := B.bytes
  have hr := B.returns
  have hts0 := atoms_spec (ws := wy y_La_clear c_La_clear 1 none) B.pre
  have hts := htsL hts0
  have hown : s.vm.findClass R_La = some m.cls := findClass_of_methodNamed B.named
  have hlocks := B.notSynchronized
  subst hsz
  have hD := hD0.self (sz := s.heap.size)
  generalize hAe : va_A (wLa cI cZ hq n1 n2 lb) s.heap.size = A at hD hZ ⊢
  have hA : ∀ q : Nat, s.heap.size ≤ q → A q := fun q h => by rw [← hAe]; exact Or.inr h
  have hS : va_S A s.heap s.heap [] := va_S.rf
  have hl := lv_entry ([.ref hq]) (n := 1) (Nat.le_of_ble_eq_true rfl)
  rw [lg_entry_eq]
  generalize (lg_sl ([.ref hq]) ++ List.replicate (1 - (lg_sl ([.ref hq])).length) Slot.unset).toArray = ls at hl ⊢
  have hl : lv_has ls 1 [(0, .ref hq)] := hl
  refine lv_aload_n hx hb d_La_clear_0 rfl (lv_at hl 0 rfl) ?_
  refine lv_iconst (v := 0) hx hb d_La_clear_1 (by decide) ?_
  refine lv_eqi (y := nI 0) rfl ?_
  refine va_put (D := (dC, dI)) (ci := 1) (v := .int (nI 0)) (ty := .int) (C := R_La) (T := T_La) (N := 3) hx hb hts u_La ty_La tk_La nm_La hown hK hP hD hS 0 rfl rfl 2 (by decide) (hts _ L_199) (fun _ h9 => h9) rfl (by decide +kernel) rfl rfl (Nat.le_of_ble_eq_true rfl) d_La_clear_2 (fun H locs hP hD hS => ?_)
  exact W.vret hx hb hr (fun t ht9 hW => ⟨⟨(lbN lb, lbL lb, 0), rfl, Option.some.inj hv, by rw [ht9]; exact hP, va_K.moved hW.alike hK, hD⟩, hS.F ht9⟩) hS.2.2 d_La_clear_5
set_option maxRecDepth 100000 in
set_option maxHeartbeats 4000000 in
theorem m_La_markAsLoops (l : Launch) (dC : Nat → ClassId) (dI : Nat → Nat → Nat) (cI cZ : ClassId) (sa rk hq n1 n2 : Nat) (lb lb1 : LB) (hlb : okLb lb) (sz : Nat) (first : Int32) (hv : l_markAsLoops lb first = some lb1) : cMv l y_La_markAsLoops c_La_markAsLoops 3 1 40 0 0 (dC, dI) cI cZ sa rk [.ref hq, .int first] (wLa cI cZ hq n1 n2 lb) sz (fun u : LB => u = lb1) (wLa cI cZ hq n1 n2) := by
  refine Met.ofW (cc := c_La_markAsLoops) (maxL := 3) (ret := none) (by decide) rfl ?_
  intro p e s m args below meth c s₁ B hml hv9
  obtain ⟨rfl, hsz, hP, hK, hD0, hC, hZ⟩ := hv9
  have hx := B.exec
  have hb := B.bytes
  have hr := B.returns
  have hts0 := atoms_spec (ws := wy y_La_markAsLoops c_La_markAsLoops 3 none) B.pre
  have hts := htsL hts0
  have hown : s.vm.findClass R_La = some m.cls := findClass_of_methodNamed B.named
  have hlocks := B.notSynchronized
  subst hsz
  have hD := hD0.self (sz := s.heap.size)
  generalize hAe : va_A (wLa cI cZ hq n1 n2 lb) s.heap.size = A at hD hZ ⊢
  have hA : ∀ q : Nat, s.heap.size ≤ q → A q := fun q h => by rw [← hAe]; exact Or.inr h
  have hS : va_S A s.heap s.heap [] := va_S.rf
  have hl := lv_entry ([.ref hq, .int first]) (n := 3) (Nat.le_of_ble_eq_true rfl)
  rw [lg_entry_eq]
  generalize (lg_sl ([.ref hq, .int first]) ++ List.replicate (3 - (lg_sl ([.ref hq, .int first])).length) Slot.unset).toArray = ls at hl ⊢
  have hl : lv_has ls 3 [(0, .ref hq), (1, .int first)] := hl
  refine lv_iconst (v := 0) hx hb d_La_markAsLoops_0 (by decide) ?_
  refine lv_iload_n hx hb d_La_markAsLoops_1 rfl (lv_at hl 1 rfl) ?_
  refine va_mmax hx hb (hml.trans hl.1.symm) hown (hts _ L_735) (hts _ L_637) (hts _ L_96) (hts _ L_638) (Nat.le_of_ble_eq_true rfl) (Nat.le_of_ble_eq_true rfl) (Nat.zero_le _) (Nat.zero_le _) d_La_markAsLoops_2 ?_
  refine lv_istore_n (lv' := [(2, .int (if 0 < first then first else 0)), (0, .ref hq), (1, .int first)]) hx hb d_La_markAsLoops_5 rfl hl (by decide) rfl (fun ls hl => ?_)
  have lp : ∀ (fu : Nat) (i : Int32) (lb2 : LB) (ls : Array Slot) (H : Heap) (locs : List Loc), va_P (dC, dI) cls (wLa cI cZ hq n1 n2 lb2) H → va_D A (wLa cI cZ hq n1 n2 lb2) → va_S A s.heap H locs → lv_has ls 3 [(2, .int i), (0, .ref hq), (1, .int first)] → l_mark lb2 fu i = some lb1 →
      W p l e (headSpec (wy y_La_markAsLoops c_La_markAsLoops 3 none) { frames := 1, cells := 0, slots := 0, locals := 40 }).room s m [.ref hq, .int first].toArray below meth c H locs 0 0 (MQ below (va_Qv (fun u : LB => u = lb1) (wB (dC, dI) cI cZ A (wLa cI cZ hq n1 n2)) A) [.ref hq, .int first].toArray s 0 0 A) (F0 m 6 ls []) := by
    intro fu
    induction fu with
    | zero => intro i lb2 ls H locs hP hD hS hl hv; exact nomatch hv
    | succ fu ih =>
      intro i lb2 ls H locs hP hD hS hl hv
      rw [l_mark] at hv
      refine lv_iload_n hx hb d_La_markAsLoops_6 rfl (lv_at hl 0 rfl) ?_
      refine lv_aload_n hx hb d_La_markAsLoops_7 rfl (lv_at hl 1 rfl) ?_
      refine va_get (D := (dC, dI)) (ci := 1) (v := .int (nI (lbn lb2))) (C := R_La) (T := T_La) (N := 3) hx hb hts u_La hown hK hP 0 rfl rfl 2 (by decide) (hts _ L_199) (fun _ h9 => h9) rfl d_La_markAsLoops_8 ?_
      refine lv_icmp_ge (tgt := 27) hx hb d_La_markAsLoops_11 (by decide) (fun c_1 => ?_) (fun c_1 => ?_)
      · rw [if_pos c_1] at hv
        exact W.vret hx hb hr (fun t ht9 hW => ⟨⟨lb2, rfl, Option.some.inj hv, by rw [ht9]; exact hP, va_K.moved hW.alike hK, hD⟩, hS.F ht9⟩) hS.2.2 d_La_markAsLoops_27
      · rw [if_neg c_1] at hv
        by_cases c_2 : ¬ i < 0 ∧ ¬ nI 100 ≤ i
        case neg => rw [if_neg c_2] at hv; exact nomatch hv
        rw [if_pos c_2] at hv
        refine lv_aload_n hx hb d_La_markAsLoops_14 rfl (lv_at hl 1 rfl) ?_
        refine va_get (D := (dC, dI)) (ci := 1) (v := .ref n2) (C := R_La) (T := T_La) (N := 3) hx hb hts u_La hown hK hP 0 rfl rfl 1 (by decide) (hts _ L_198) (fun _ h9 => h9) rfl d_La_markAsLoops_15 ?_
        refine lv_iload_n hx hb d_La_markAsLoops_18 rfl (lv_at hl 0 rfl) ?_
        refine lv_iconst (v := 1) hx hb d_La_markAsLoops_19 (by decide) ?_
        refine va_zast (D := (dC, dI)) hx hb hK hP hD hS 2 1 rfl rfl (ix_in c_2.1 c_2.2 (Nat.le_refl _) (by decide)) d_La_markAsLoops_20 (fun H locs hP hD hS => ?_)
        refine lv_iinc (v := (i + 1)) (lv' := [(2, .int (i + 1)), (0, .ref hq), (1, .int first)]) hx hb d_La_markAsLoops_21 hl (k := 0) rfl rfl (by decide) rfl (fun ls hl => ?_)
        refine lv_goto (tgt := 6) hx hb d_La_markAsLoops_24 (by decide) ?_
        exact ih (i + 1) (lbN lb2, upd (lbL lb2) i.toNatClampNeg 1, lbn lb2) ls H locs hP hD hS hl hv
  exact lp 5000 _ lb ls _ _ hP hD hS hl hv
def p_lab (st : ST) (x : Option LB) : Rz := match x with
  | none => none
  | some b => if lbn b ≤ 100 then some (.inr (0, setLb st b)) else none
theorem p_lab_e {st : ST} {x : Option LB} (h : p_lab st x ≠ none) : ∃ b, x = some b ∧ okLb b ∧ p_lab st x = some (.inr (0, setLb st b)) := by
  cases x with
  | none => exact absurd rfl h
  | some b =>
    by_cases hb : lbn b ≤ 100
    · exact ⟨b, rfl, hb, by show (if lbn b ≤ 100 then _ else _) = _; rw [if_pos hb]⟩
    · exact absurd (by show (if lbn b ≤ 100 then _ else _) = _; rw [if_neg hb]) h
section TLL
variable {p : Program} {l : Launch} {e : Env} {R : Room} {s : State} {m : MethodId} {args : Array Value} {below : List Frame} {meth : Method} {c : Code} {H : Heap} {locs : List Loc} {cells slots : Nat} {Q : State → Prop}
variable {cc bytes : ByteArray} {pc maxL fr lo idx nL : Nat} {ls : Array Slot} {rest st0 As : List Value} {x : Cond} {own : String} {y : MethodName}
variable {D : va_G} {cI cZ : ClassId} {sa rk hp hc h a1 a2 a3 a4 ht hq n1 n2 : Nat} {ad : AD} {st stO : ST} {g : Rz} {A : Nat → Prop} {lb1 : LB}
theorem pL_v (CF : CallFix p m c cc nL s args (x :: LL) own) (hM : cMv l y bytes maxL fr lo 0 0 D cI cZ sa rk (.ref hq :: As) (wLa cI cZ hq n1 n2 (sLb st)) H.size (fun u : LB => u = lb1) (wLa cI cZ hq n1 n2))
    (hP : va_P D cls (wQ cI cZ hp hc h a1 a2 a3 a4 ht hq n1 n2 (ad, st)) H) (hD : va_D A (wQ cI cZ hp hc h a1 a2 a3 a4 ht hq n1 n2 (ad, st))) (hK : va_K D cls (ty2 cI cZ) s) (hS : va_S A s.heap H locs) (hA : ∀ q, s.heap.size ≤ q → A q) (hC : CX cI sa s) (hZ : ZX rk A s s.heap)
    (l1 : Cond.methodLink own idx y ∈ LL) (l2 : Cond.instanceMethod y ∈ LL) (l3 : Cond.selects R_La y y ∈ LL) (l4 : Cond.initialized R_La ∈ LL) (l5 : Cond.code y bytes maxL none ∈ LL)
    (hd : y.cls = R_La ∧ y.cls ≠ "java/lang/invoke/MethodHandle" ∧ y.cls ≠ "java/lang/invoke/VarHandle" ∧ (parseMethodDescriptor y.desc).map (fun d => d.parameters.length) = some As.length)
    (hR : fr + 1 ≤ R.frames ∧ 8 + (maxL + 11) + lo ≤ R.locals) (hRc : R.cells = bC stO) (hRs : R.slots = bS stO) (hls : ls.size = nL) (hst : (rest.map fun v => v.category).sum ≤ 8) (hdg : decode cc pc = .ok (.invokevirtual idx, 3)) (h0 : st0 = As.reverse ++ .ref hq :: rest)
    (hcl : cells + bC st ≤ bC stO) (hsl : slots + bS st ≤ bS stO) (ok : okSt st) (hok1 : okLb lb1) (hg : g = some (.inr (0, setLb st lb1)))
    (kk : ∀ (ad1 : AD) (st1 : ST) (H1 : Heap) (locs1 : List Loc), g = some (.inr (0, st1)) → okSt st1 → bC st1 ≤ bC st → bS st1 ≤ bS st →
      va_P D cls (wQ cI cZ hp hc h a1 a2 a3 a4 ht hq n1 n2 (ad1, st1)) H1 → va_D A (wQ cI cZ hp hc h a1 a2 a3 a4 ht hq n1 n2 (ad1, st1)) → va_S A s.heap H1 locs1 →
      W p l e R s m args below meth c H1 locs1 (cells + (bC st - bC st1)) (slots + (bS st - bS st1)) Q (F0 m (pc + 3) ls rest)) :
    W p l e R s m args below meth c H locs cells slots Q (F0 m pc ls st0) := by
  refine mu_Vv (S := LB) (w' := wLa cI cZ hq n1 n2) (wr := (wQ cI cZ hp hc h a1 a2 a3 a4 ht hq n1 n2 (ad, st)).take 12) (As := As) (rest := rest) CF hM hP hD hK hS hA hC hZ [12, 13, 14] [0, 1, 2, 3, 4, 5, 6, 7, 8, 9, 10, 11] rfl rfl (by decide) (by decide) (by decide) 0 1 rfl rfl l1 l2 l3 l4 l5 hd hR hls ⟨by rw [hRc]; omega, by rw [hRs]; omega⟩ hst hdg h0 (fun u H1 locs1 hw hP1 hD1 hS1 => ?_)
  subst hw
  have k := kk ad (setLb st u) H1 locs1 hg ⟨ok.1, ok.2.1, hok1, ok.2.2.2⟩ (Nat.le_refl _) (Nat.le_refl _) hP1 hD1 hS1
  have e1 : bC st - bC (setLb st u) = 0 := Nat.sub_self _
  have e2 : bS st - bS (setLb st u) = 0 := Nat.sub_self _
  rw [e1, e2] at k
  exact k
end TLL
/-- rank: the static RANKS, which nobody writes -/
def f_Pa_rank (o : Int32) : Int32 := if o < 0 then 0 else if nI 24 ≤ o then 0 else ([0, 1, 2, 3, 4, 5, 6, 6, 6, 6, 7, 7, 7, 7, 7, 7, 8, 8, 8, 9, 9, 10, 10, 10] : List Int32).getD o.toNatClampNeg 0
set_option maxRecDepth 100000 in
set_option maxHeartbeats 4000000 in
theorem m_Pa_rank (l : Launch) (rk : Nat) (o : Int32) : Met l y_Pa_rank (wy y_Pa_rank c_Pa_rank 1 (some .int)) { frames := 0, cells := 0, slots := 0, locals := 0 } (va_Pc [.int o] (fun U => ZX rk (fun _ => False) U U.heap)) (vp_Si (fun r => r = f_Pa_rank o)) 0 0 (fun _ => False) := by
  refine Met.ofW (cc := c_Pa_rank) (maxL := 1) (ret := some .int) (by decide) rfl ?_
  intro p e s m args below meth c s₁ B hml hv9
  obtain ⟨rfl, hZ⟩ := hv9
  have hx := B.exec
  have hb := B.bytes
  have hr := B.returns
  have hts0 := atoms_spec (ws := wy y_Pa_rank c_Pa_rank 1 (some .int)) B.pre
  have hts := htsL hts0
  have hown : s.vm.findClass R_Pa = some m.cls := findClass_of_methodNamed B.named
  have hlocks := B.notSynchronized
  have hS : va_S (fun _ => False) s.heap s.heap [] := va_S.rf
  have hl := lv_entry ([.int o]) (n := 1) (Nat.le_of_ble_eq_true rfl)
  rw [lg_entry_eq]
  generalize (lg_sl ([.int o]) ++ List.replicate (1 - (lg_sl ([.int o])).length) Slot.unset).toArray = ls at hl ⊢
  have hl : lv_has ls 1 [(0, .int o)] := hl
  refine lv_iload_n hx hb d_Pa_rank_0 rfl (lv_at hl 0 rfl) ?_
  refine lv_if_lt (tgt := 20) hx hb d_Pa_rank_1 (by decide) (fun c_1 => ?_) (fun c_1 => ?_)
  · refine lv_iconst (v := 0) hx hb d_Pa_rank_20 (by decide) ?_
    exact W.iret (v := 0) hx hb hr (fun t ht9 hW => ⟨0, rfl, (by unfold f_Pa_rank; rw [if_pos c_1]), ht9⟩) (fun q h => by cases h) d_Pa_rank_21
  · refine lv_iload_n hx hb d_Pa_rank_4 rfl (lv_at hl 0 rfl) ?_
    refine va_gets hx hb hZ.2.2.1 hS hown (hts _ L_697) (fun _ h9 => h9) d_Pa_rank_5 ?_
    refine va_tlen hx hb hZ.2.2.2 hS (v := nI 24) rfl d_Pa_rank_8 ?_
    refine lv_icmp_ge (tgt := 20) hx hb d_Pa_rank_9 (by decide) (fun c_2 => ?_) (fun c_2 => ?_)
    · refine lv_iconst (v := 0) hx hb d_Pa_rank_20 (by decide) ?_
      exact W.iret (v := 0) hx hb hr (fun t ht9 hW => ⟨0, rfl, (by unfold f_Pa_rank; rw [if_neg c_1, if_pos c_2]), ht9⟩) (fun q h => by cases h) d_Pa_rank_21
    · refine va_gets hx hb hZ.2.2.1 hS hown (hts _ L_697) (fun _ h9 => h9) d_Pa_rank_12 ?_
      refine lv_iload_n hx hb d_Pa_rank_15 rfl (lv_at hl 0 rfl) ?_
      refine va_ti hx hb hZ.2.2.2 hS (ix_in c_1 c_2 (Nat.le_refl _) (by decide)) (v := .int (f_Pa_rank o)) (by unfold f_Pa_rank rkF; rw [if_neg c_1, if_neg c_2]) d_Pa_rank_16 ?_
      refine lv_goto (tgt := 21) hx hb d_Pa_rank_17 (by decide) ?_
      exact W.iret (v := f_Pa_rank o) hx hb hr (fun t ht9 hW => ⟨f_Pa_rank o, rfl, rfl, ht9⟩) (fun q h => by cases h) d_Pa_rank_21
section TLR
variable {p : Program} {l : Launch} {e : Env} {R : Room} {s : State} {m : MethodId} {args : Array Value} {below : List Frame} {meth : Method} {c : Code} {H : Heap} {locs : List Loc} {cells slots : Nat} {Q : State → Prop}
variable {cc : ByteArray} {pc idx nL rk : Nat} {ls : Array Slot} {rest st0 : List Value} {x : Cond} {o : Int32} {A : Nat → Prop}
theorem rk_S (CF : CallFix p m c cc nL s args (x :: LL) R_Pa) (hS : va_S A s.heap H locs) (hZ : ZX rk A s s.heap)
    (l1 : Cond.methodLink R_Pa idx y_Pa_rank ∈ LL) (l2 : Cond.static y_Pa_rank ∈ LL) (l3 : Cond.initialized y_Pa_rank.cls ∈ LL) (l4 : Cond.code y_Pa_rank c_Pa_rank 1 (some .int) ∈ LL)
    (hR : 0 + 1 ≤ R.frames ∧ 8 + (1 + 11) + 0 ≤ R.locals) (hls : ls.size = nL) (hcap : cells ≤ R.cells ∧ slots ≤ R.slots) (hst : (rest.map fun v => v.category).sum ≤ 8) (hdg : decode cc pc = .ok (.invokestatic idx, 3)) (h0 : st0 = .int o :: rest)
    (kk : W p l e R s m args below meth c H locs cells slots Q (F0 m (pc + 3) ls (.int (f_Pa_rank o) :: rest))) : W p l e R s m args below meth c H locs cells slots Q (F0 m pc ls st0) := by
  refine rd_fin (a := [Value.int o].toArray) (va_runS (As := [.int o]) (rest := rest) CF (m_Pa_rank l rk o) (va_cwS 1 CF.2.2.2.2 (gLL ?_) rfl rfl rfl k_Pa_rank hR) ⟨fun a U g mk q => ⟨q.1, ZX.moved (Vm.Alike.refl U.vm) q.2⟩, fun U hU hW => ⟨rfl, by show ZX rk (fun _ => False) U U.heap; rw [hU]; exact ZX.moved hW.alike ((hZ.kept hS.2.1).narrow (fun _ z => z.elim))⟩⟩ rfl rfl hls h0 (lv_room hst) hdg ⟨hcap.1, hcap.2⟩) kk
  intro w hw
  simp only [va_wsS, wy, List.cons_append, List.nil_append, List.mem_cons] at hw
  rcases hw with rfl | rfl | rfl | rfl | hw
  · exact l1
  · exact l2
  · exact l3
  · exact l4
  · exact hw
end TLR
