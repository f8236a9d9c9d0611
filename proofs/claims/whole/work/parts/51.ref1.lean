/-! the reference: small methods -/
abbrev inb (i : Int32) (n : Nat) : Prop := ¬ (i < 0 ∨ n ≤ i.toNatClampNeg)
def f_Mo_thrown (mo : MO)  : Rm := (some (.inr ((q_thrown mo), mo)))
set_option maxRecDepth 100000 in
set_option maxHeartbeats 4000000 in
theorem m_Mo_thrown (l : Launch) (hlt : l.stackTraces = false) (dC : Nat → ClassId) (dI : Nat → Nat → Nat) (cI cZ : ClassId) (sa rk hm : Nat) (ma : Nat → Nat)  (mo : MO) (sz : Nat)  (hg : (f_Mo_thrown mo) ≠ none) : cXi l y_Mo_thrown c_Mo_thrown 1 .int (0) (0) (dC, dI) cI cZ sa rk hm ma mo sz [.ref hm] (f_Mo_thrown mo) := by
  refine vx_ofW (cc := c_Mo_thrown) (maxL := 1) (ret := (some .int)) (by decide) rfl ?_
  intro p e s m args below meth c s₁ B hml hnt hv
  obtain ⟨rfl, hsz, hP, hK, hD0, hC, hZ⟩ := hv
  have hx := B.exec
  have hb := B.bytes
  have hr := B.returns
  have hts0 := atoms_spec (ws := wy y_Mo_thrown c_Mo_thrown 1 (some .int)) B.pre
  have hts := htsL hts0
  have hown : s.vm.findClass R_Mo = some m.cls := findClass_of_methodNamed B.named
  have hlocks := B.notSynchronized
  subst hsz
  have hD := hD0.self (sz := s.heap.size)
  generalize hAe : va_A (wM cI cZ hm ma mo) s.heap.size = A at hD hZ ⊢
  have hA : ∀ q : Nat, s.heap.size ≤ q → A q := fun q h => by rw [← hAe]; exact Or.inr h
  have hS : va_S A s.heap s.heap [] := va_S.rf
  have hl := lv_entry ([.ref hm]) (n := 1) (Nat.le_of_ble_eq_true rfl)
  rw [lg_entry_eq]
  generalize (lg_sl ([.ref hm]) ++ List.replicate (1 - (lg_sl ([.ref hm])).length) Slot.unset).toArray = ls at hl ⊢
  have hl : lv_has ls 1 [(0, .ref hm)] := hl
  refine lv_aload_n hx hb d_Mo_thrown_0 rfl (lv_at hl 0 rfl) ?_
  refine va_get (D := (dC, dI)) (ci := 6) (v := .int (q_thrown mo)) (C := R_Mo) (T := T_Mo) (N := 31) hx hb hts u_Mo hown hK hP 0 rfl rfl 0 (by decide) (hts _ L_921) (fun _ h9 => h9) rfl d_Mo_thrown_1 ?_
  exact mr_iret (v := (q_thrown mo)) (mo := mo) hx hb hr hlocks hK hP hD hS (by unfold f_Mo_thrown; rfl) d_Mo_thrown_4
def f_Mo_throwing (mo : MO) (one : Int32) (two : Int32) : Rm := (if one = 0 then (if two = 0 then (some (.inr (0, (s_thrown mo 0)))) else (some (.inr (1, (s_thrown mo 2))))) else (some (.inr (1, (s_thrown mo 1)))))
set_option maxRecDepth 100000 in
set_option maxHeartbeats 4000000 in
theorem m_Mo_throwing (l : Launch) (hlt : l.stackTraces = false) (dC : Nat → ClassId) (dI : Nat → Nat → Nat) (cI cZ : ClassId) (sa rk hm : Nat) (ma : Nat → Nat)  (mo : MO) (sz : Nat) (one : Int32) (two : Int32) (hg : (f_Mo_throwing mo one two) ≠ none) : cXi l y_Mo_throwing c_Mo_throwing 3 .boolean (0) (0) (dC, dI) cI cZ sa rk hm ma mo sz [.ref hm, .int one, .int two] (f_Mo_throwing mo one two) := by
  refine vx_ofW (cc := c_Mo_throwing) (maxL := 3) (ret := (some .boolean)) (by decide) rfl ?_
  intro p e s m args below meth c s₁ B hml hnt hv
  obtain ⟨rfl, hsz, hP, hK, hD0, hC, hZ⟩ := hv
  have hx := B.exec
  have hb := B.bytes
  have hr := B.returns
  have hts0 := atoms_spec (ws := wy y_Mo_throwing c_Mo_throwing 3 (some .boolean)) B.pre
  have hts := htsL hts0
  have hown : s.vm.findClass R_Mo = some m.cls := findClass_of_methodNamed B.named
  have hlocks := B.notSynchronized
  subst hsz
  have hD := hD0.self (sz := s.heap.size)
  generalize hAe : va_A (wM cI cZ hm ma mo) s.heap.size = A at hD hZ ⊢
  have hA : ∀ q : Nat, s.heap.size ≤ q → A q := fun q h => by rw [← hAe]; exact Or.inr h
  have hS : va_S A s.heap s.heap [] := va_S.rf
  have hl := lv_entry ([.ref hm, .int one, .int two]) (n := 3) (Nat.le_of_ble_eq_true rfl)
  rw [lg_entry_eq]
  generalize (lg_sl ([.ref hm, .int one, .int two]) ++ List.replicate (3 - (lg_sl ([.ref hm, .int one, .int two])).length) Slot.unset).toArray = ls at hl ⊢
  have hl : lv_has ls 3 [(0, .ref hm), (1, .int one), (2, .int two)] := hl
  refine lv_aload_n hx hb d_Mo_throwing_0 rfl (lv_at hl 0 rfl) ?_
  refine lv_iload_n hx hb d_Mo_throwing_1 rfl (lv_at hl 1 rfl) ?_
  refine lv_if_eq (tgt := 9) hx hb d_Mo_throwing_2 (by decide) (fun c_1 => ?_) (fun c_1 => ?_)
  · refine lv_iload_n hx hb d_Mo_throwing_9 rfl (lv_at hl 2 rfl) ?_
    refine lv_if_eq (tgt := 17) hx hb d_Mo_throwing_10 (by decide) (fun c_2 => ?_) (fun c_2 => ?_)
    · refine lv_iconst (v := 0) hx hb d_Mo_throwing_17 (by decide) ?_
      refine va_put (D := (dC, dI)) (ci := 6) (v := .int 0) (ty := .int) (C := R_Mo) (T := T_Mo) (N := 31) hx hb hts u_Mo ty_Mo tk_Mo nm_Mo hown hK hP hD hS 0 rfl rfl 0 (by decide) (hts _ L_921) (fun _ h9 => h9) rfl (by decide +kernel) rfl rfl (Nat.le_of_ble_eq_true rfl) d_Mo_throwing_18 (fun H locs hP hD hS => ?_)
      have hP : va_P (dC, dI) cls (wM cI cZ hm ma (s_thrown mo 0)) H := hP
      have hD : va_D A (wM cI cZ hm ma (s_thrown mo 0)) := hD
      refine lv_aload_n hx hb d_Mo_throwing_21 rfl (lv_at hl 0 rfl) ?_
      refine va_get (D := (dC, dI)) (ci := 6) (v := .int 0) (C := R_Mo) (T := T_Mo) (N := 31) hx hb hts u_Mo hown hK hP 0 rfl rfl 0 (by decide) (hts _ L_921) (fun _ h9 => h9) rfl d_Mo_throwing_22 ?_
      refine lv_if_le (tgt := 32) hx hb d_Mo_throwing_25 (by decide) (fun _ => ?_) (fun q9 => absurd q9 (by decide))
      refine lv_iconst (v := 0) hx hb d_Mo_throwing_32 (by decide) ?_
      exact mr_zret (v := 0) (mo := (s_thrown mo 0)) hx hb hr rfl hlocks hK hP hD hS (by unfold f_Mo_throwing; rw [if_pos c_1, if_pos c_2]) d_Mo_throwing_33
    · refine lv_iconst (v := 2) hx hb d_Mo_throwing_13 (by decide) ?_
      refine lv_goto (tgt := 18) hx hb d_Mo_throwing_14 (by decide) ?_
      refine va_put (D := (dC, dI)) (ci := 6) (v := .int 2) (ty := .int) (C := R_Mo) (T := T_Mo) (N := 31) hx hb hts u_Mo ty_Mo tk_Mo nm_Mo hown hK hP hD hS 0 rfl rfl 0 (by decide) (hts _ L_921) (fun _ h9 => h9) rfl (by decide +kernel) rfl rfl (Nat.le_of_ble_eq_true rfl) d_Mo_throwing_18 (fun H locs hP hD hS => ?_)
      have hP : va_P (dC, dI) cls (wM cI cZ hm ma (s_thrown mo 2)) H := hP
      have hD : va_D A (wM cI cZ hm ma (s_thrown mo 2)) := hD
      refine lv_aload_n hx hb d_Mo_throwing_21 rfl (lv_at hl 0 rfl) ?_
      refine va_get (D := (dC, dI)) (ci := 6) (v := .int 2) (C := R_Mo) (T := T_Mo) (N := 31) hx hb hts u_Mo hown hK hP 0 rfl rfl 0 (by decide) (hts _ L_921) (fun _ h9 => h9) rfl d_Mo_throwing_22 ?_
      refine lv_if_le (tgt := 32) hx hb d_Mo_throwing_25 (by decide) (fun q9 => absurd q9 (by decide)) (fun _ => ?_)
      refine lv_iconst (v := 1) hx hb d_Mo_throwing_28 (by decide) ?_
      refine lv_goto (tgt := 33) hx hb d_Mo_throwing_29 (by decide) ?_
      exact mr_zret (v := 1) (mo := (s_thrown mo 2)) hx hb hr rfl hlocks hK hP hD hS (by unfold f_Mo_throwing; rw [if_pos c_1, if_neg c_2]) d_Mo_throwing_33
  · refine lv_iconst (v := 1) hx hb d_Mo_throwing_5 (by decide) ?_
    refine lv_goto (tgt := 18) hx hb d_Mo_throwing_6 (by decide) ?_
    refine va_put (D := (dC, dI)) (ci := 6) (v := .int 1) (ty := .int) (C := R_Mo) (T := T_Mo) (N := 31) hx hb hts u_Mo ty_Mo tk_Mo nm_Mo hown hK hP hD hS 0 rfl rfl 0 (by decide) (hts _ L_921) (fun _ h9 => h9) rfl (by decide +kernel) rfl rfl (Nat.le_of_ble_eq_true rfl) d_Mo_throwing_18 (fun H locs hP hD hS => ?_)
    have hP : va_P (dC, dI) cls (wM cI cZ hm ma (s_thrown mo 1)) H := hP
    have hD : va_D A (wM cI cZ hm ma (s_thrown mo 1)) := hD
    refine lv_aload_n hx hb d_Mo_throwing_21 rfl (lv_at hl 0 rfl) ?_
    refine va_get (D := (dC, dI)) (ci := 6) (v := .int 1) (C := R_Mo) (T := T_Mo) (N := 31) hx hb hts u_Mo hown hK hP 0 rfl rfl 0 (by decide) (hts _ L_921) (fun _ h9 => h9) rfl d_Mo_throwing_22 ?_
    refine lv_if_le (tgt := 32) hx hb d_Mo_throwing_25 (by decide) (fun q9 => absurd q9 (by decide)) (fun _ => ?_)
    refine lv_iconst (v := 1) hx hb d_Mo_throwing_28 (by decide) ?_
    refine lv_goto (tgt := 33) hx hb d_Mo_throwing_29 (by decide) ?_
    exact mr_zret (v := 1) (mo := (s_thrown mo 1)) hx hb hr rfl hlocks hK hP hD hS (by unfold f_Mo_throwing; rw [if_neg c_1]) d_Mo_throwing_33
def f_Mo_isIn (mo : MO) (v : Int32) (low : Int32) (high : Int32) : Rm := (if v < low then (some (.inr (0, mo))) else (if high < v then (some (.inr (0, mo))) else (some (.inr (1, mo)))))
set_option maxRecDepth 100000 in
set_option maxHeartbeats 4000000 in
theorem m_Mo_isIn (l : Launch) (hlt : l.stackTraces = false) (dC : Nat → ClassId) (dI : Nat → Nat → Nat) (cI cZ : ClassId) (sa rk hm : Nat) (ma : Nat → Nat)  (mo : MO) (sz : Nat) (v : Int32) (low : Int32) (high : Int32) (hg : (f_Mo_isIn mo v low high) ≠ none) : cXi l y_Mo_isIn c_Mo_isIn 3 .boolean (0) (0) (dC, dI) cI cZ sa rk hm ma mo sz [.int v, .int low, .int high] (f_Mo_isIn mo v low high) := by
  refine vx_ofW (cc := c_Mo_isIn) (maxL := 3) (ret := (some .boolean)) (by decide) rfl ?_
  intro p e s m args below meth c s₁ B hml hnt hv
  obtain ⟨rfl, hsz, hP, hK, hD0, hC, hZ⟩ := hv
  have hx := B.exec
  have hb := B.bytes
  have hr := B.returns
  have hts0 := atoms_spec (ws := wy y_Mo_isIn c_Mo_isIn 3 (some .boolean)) B.pre
  have hts := htsL hts0
  have hown : s.vm.findClass R_Mo = some m.cls := findClass_of_methodNamed B.named
  have hlocks := B.notSynchronized
  subst hsz
  have hD := hD0.self (sz := s.heap.size)
  generalize hAe : va_A (wM cI cZ hm ma mo) s.heap.size = A at hD hZ ⊢
  have hA : ∀ q : Nat, s.heap.size ≤ q → A q := fun q h => by rw [← hAe]; exact Or.inr h
  have hS : va_S A s.heap s.heap [] := va_S.rf
  have hl := lv_entry ([.int v, .int low, .int high]) (n := 3) (Nat.le_of_ble_eq_true rfl)
  rw [lg_entry_eq]
  generalize (lg_sl ([.int v, .int low, .int high]) ++ List.replicate (3 - (lg_sl ([.int v, .int low, .int high])).length) Slot.unset).toArray = ls at hl ⊢
  have hl : lv_has ls 3 [(0, .int v), (1, .int low), (2, .int high)] := hl
  refine lv_iload_n hx hb d_Mo_isIn_0 rfl (lv_at hl 0 rfl) ?_
  refine lv_iload_n hx hb d_Mo_isIn_1 rfl (lv_at hl 1 rfl) ?_
  refine lv_icmp_lt (tgt := 14) hx hb d_Mo_isIn_2 (by decide) (fun c_1 => ?_) (fun c_1 => ?_)
  · refine lv_iconst (v := 0) hx hb d_Mo_isIn_14 (by decide) ?_
    exact mr_zret (v := 0) (mo := mo) hx hb hr rfl hlocks hK hP hD hS (by unfold f_Mo_isIn; rw [if_pos c_1]) d_Mo_isIn_15
  · refine lv_iload_n hx hb d_Mo_isIn_5 rfl (lv_at hl 0 rfl) ?_
    refine lv_iload_n hx hb d_Mo_isIn_6 rfl (lv_at hl 2 rfl) ?_
    refine lv_icmp_gt (tgt := 14) hx hb d_Mo_isIn_7 (by decide) (fun c_2 => ?_) (fun c_2 => ?_)
    · refine lv_iconst (v := 0) hx hb d_Mo_isIn_14 (by decide) ?_
      exact mr_zret (v := 0) (mo := mo) hx hb hr rfl hlocks hK hP hD hS (by unfold f_Mo_isIn; rw [if_neg c_1, if_pos c_2]) d_Mo_isIn_15
    · refine lv_iconst (v := 1) hx hb d_Mo_isIn_10 (by decide) ?_
      refine lv_goto (tgt := 15) hx hb d_Mo_isIn_11 (by decide) ?_
      exact mr_zret (v := 1) (mo := mo) hx hb hr rfl hlocks hK hP hD hS (by unfold f_Mo_isIn; rw [if_neg c_1, if_neg c_2]) d_Mo_isIn_15
def f_Mo_isSignNumber (mo : MO) (sg : Int32) : Rm := (bndM (f_Mo_isIn mo sg 1 13) (fun r_1 mo_1 => (if r_1 = 0 then (bndM (f_Mo_isIn mo_1 sg 16 23) (fun r_3 mo_3 => (if r_3 = 0 then (if sg = 30 then (some (.inr (1, mo_3))) else (bndM (f_Mo_isIn mo_3 sg 33 35) (fun r_6 mo_6 => (if r_6 = 0 then (bndM (f_Mo_isIn mo_6 sg 46 53) (fun r_8 mo_8 => (if r_8 = 0 then (bndM (f_Mo_isIn mo_8 sg 60 74) (fun r_10 mo_10 => (if r_10 = 0 then (some (.inr (0, mo_10))) else (some (.inr (1, mo_10)))))) else (some (.inr (1, mo_8)))))) else (some (.inr (1, mo_6))))))) else (some (.inr (1, mo_3)))))) else (some (.inr (1, mo_1))))))
set_option maxRecDepth 100000 in
set_option maxHeartbeats 4000000 in
theorem m_Mo_isSignNumber (l : Launch) (hlt : l.stackTraces = false) (dC : Nat → ClassId) (dI : Nat → Nat → Nat) (cI cZ : ClassId) (sa rk hm : Nat) (ma : Nat → Nat)  (mo : MO) (sz : Nat) (sg : Int32) (hg : (f_Mo_isSignNumber mo sg) ≠ none) : cXi l y_Mo_isSignNumber c_Mo_isSignNumber 1 .boolean (1) (22) (dC, dI) cI cZ sa rk hm ma mo sz [.int sg] (f_Mo_isSignNumber mo sg) := by
  refine vx_ofW (cc := c_Mo_isSignNumber) (maxL := 1) (ret := (some .boolean)) (by decide) rfl ?_
  intro p e s m args below meth c s₁ B hml hnt hv
  obtain ⟨rfl, hsz, hP, hK, hD0, hC, hZ⟩ := hv
  have hx := B.exec
  have hb := B.bytes
  have hr := B.returns
  have hts0 := atoms_spec (ws := wy y_Mo_isSignNumber c_Mo_isSignNumber 1 (some .boolean)) B.pre
  have hts := htsL hts0
  have hown : s.vm.findClass R_Mo = some m.cls := findClass_of_methodNamed B.named
  have hlocks := B.notSynchronized
  subst hsz
  have hD := hD0.self (sz := s.heap.size)
  generalize hAe : va_A (wM cI cZ hm ma mo) s.heap.size = A at hD hZ ⊢
  have hA : ∀ q : Nat, s.heap.size ≤ q → A q := fun q h => by rw [← hAe]; exact Or.inr h
  have hS : va_S A s.heap s.heap [] := va_S.rf
  have hl := lv_entry ([.int sg]) (n := 1) (Nat.le_of_ble_eq_true rfl)
  rw [lg_entry_eq]
  generalize (lg_sl ([.int sg]) ++ List.replicate (1 - (lg_sl ([.int sg])).length) Slot.unset).toArray = ls at hl ⊢
  have hl : lv_has ls 1 [(0, .int sg)] := hl
  refine lv_iload_n hx hb d_Mo_isSignNumber_0 rfl (lv_at hl 0 rfl) ?_
  refine lv_iconst (v := 1) hx hb d_Mo_isSignNumber_1 (by decide) ?_
  refine lv_bipush (v := 13) hx hb d_Mo_isSignNumber_2 (by decide) ?_
  refine mr_Si (g := (f_Mo_isIn mo sg 1 13)) (As := [.int sg, .int 1, .int 13]) (rest := []) ⟨hx, hb, hml, hown, hts0⟩ (m_Mo_isIn l hlt dC dI cI cZ sa rk hm ma mo _ sg 1 13 (fun z => hg (by unfold f_Mo_isSignNumber; rw [bndM_n z]))) hP hD hK hS hA hC hZ hnt hlocks L_1023 L_1024 L_90 L_1025 k_Mo_isIn ⟨(by show _ ≤ 1; omega), (by show _ ≤ 22; omega)⟩ rfl rfl hl.1 (Nat.le_of_ble_eq_true rfl) d_Mo_isSignNumber_4 rfl (fun q z => by unfold f_Mo_isSignNumber; rw [bndM_l z]) (fun r_1 mo_1 H locs w_1 hP hD hS => ?_)
  refine lv_if_ne (tgt := 60) hx hb d_Mo_isSignNumber_7 (by decide) (fun c_2 => ?_) (fun c_2 => ?_)
  · refine lv_iconst (v := 1) hx hb d_Mo_isSignNumber_60 (by decide) ?_
    refine lv_goto (tgt := 65) hx hb d_Mo_isSignNumber_61 (by decide) ?_
    exact mr_zret (v := 1) (mo := mo_1) hx hb hr rfl hlocks hK hP hD hS (by unfold f_Mo_isSignNumber; rw [bndM_r w_1, if_neg c_2]) d_Mo_isSignNumber_65
  · refine lv_iload_n hx hb d_Mo_isSignNumber_10 rfl (lv_at hl 0 rfl) ?_
    refine lv_bipush (v := 16) hx hb d_Mo_isSignNumber_11 (by decide) ?_
    refine lv_bipush (v := 23) hx hb d_Mo_isSignNumber_13 (by decide) ?_
    refine mr_Si (g := (f_Mo_isIn mo_1 sg 16 23)) (As := [.int sg, .int 16, .int 23]) (rest := []) ⟨hx, hb, hml, hown, hts0⟩ (m_Mo_isIn l hlt dC dI cI cZ sa rk hm ma mo_1 _ sg 16 23 (fun z => hg (by unfold f_Mo_isSignNumber; rw [bndM_r w_1, if_pos c_2, bndM_n z]))) hP hD hK hS hA hC hZ hnt hlocks L_1023 L_1024 L_90 L_1025 k_Mo_isIn ⟨(by show _ ≤ 1; omega), (by show _ ≤ 22; omega)⟩ rfl rfl hl.1 (Nat.le_of_ble_eq_true rfl) d_Mo_isSignNumber_15 rfl (fun q z => by unfold f_Mo_isSignNumber; rw [bndM_r w_1, if_pos c_2, bndM_l z]) (fun r_3 mo_3 H locs w_3 hP hD hS => ?_)
    refine lv_if_ne (tgt := 60) hx hb d_Mo_isSignNumber_18 (by decide) (fun c_4 => ?_) (fun c_4 => ?_)
    · refine lv_iconst (v := 1) hx hb d_Mo_isSignNumber_60 (by decide) ?_
      refine lv_goto (tgt := 65) hx hb d_Mo_isSignNumber_61 (by decide) ?_
      exact mr_zret (v := 1) (mo := mo_3) hx hb hr rfl hlocks hK hP hD hS (by unfold f_Mo_isSignNumber; rw [bndM_r w_1, if_pos c_2, bndM_r w_3, if_neg c_4]) d_Mo_isSignNumber_65
    · refine lv_iload_n hx hb d_Mo_isSignNumber_21 rfl (lv_at hl 0 rfl) ?_
      refine lv_bipush (v := 30) hx hb d_Mo_isSignNumber_22 (by decide) ?_
      refine lv_icmp_eq (tgt := 60) hx hb d_Mo_isSignNumber_24 (by decide) (fun c_5 => ?_) (fun c_5 => ?_)
      · refine lv_iconst (v := 1) hx hb d_Mo_isSignNumber_60 (by decide) ?_
        refine lv_goto (tgt := 65) hx hb d_Mo_isSignNumber_61 (by decide) ?_
        exact mr_zret (v := 1) (mo := mo_3) hx hb hr rfl hlocks hK hP hD hS (by unfold f_Mo_isSignNumber; rw [bndM_r w_1, if_pos c_2, bndM_r w_3, if_pos c_4, if_pos c_5]) d_Mo_isSignNumber_65
      · refine lv_iload_n hx hb d_Mo_isSignNumber_27 rfl (lv_at hl 0 rfl) ?_
        refine lv_bipush (v := 33) hx hb d_Mo_isSignNumber_28 (by decide) ?_
        refine lv_bipush (v := 35) hx hb d_Mo_isSignNumber_30 (by decide) ?_
        refine mr_Si (g := (f_Mo_isIn mo_3 sg 33 35)) (As := [.int sg, .int 33, .int 35]) (rest := []) ⟨hx, hb, hml, hown, hts0⟩ (m_Mo_isIn l hlt dC dI cI cZ sa rk hm ma mo_3 _ sg 33 35 (fun z => hg (by unfold f_Mo_isSignNumber; rw [bndM_r w_1, if_pos c_2, bndM_r w_3, if_pos c_4, if_neg c_5, bndM_n z]))) hP hD hK hS hA hC hZ hnt hlocks L_1023 L_1024 L_90 L_1025 k_Mo_isIn ⟨(by show _ ≤ 1; omega), (by show _ ≤ 22; omega)⟩ rfl rfl hl.1 (Nat.le_of_ble_eq_true rfl) d_Mo_isSignNumber_32 rfl (fun q z => by unfold f_Mo_isSignNumber; rw [bndM_r w_1, if_pos c_2, bndM_r w_3, if_pos c_4, if_neg c_5, bndM_l z]) (fun r_6 mo_6 H locs w_6 hP hD hS => ?_)
        refine lv_if_ne (tgt := 60) hx hb d_Mo_isSignNumber_35 (by decide) (fun c_7 => ?_) (fun c_7 => ?_)
        · refine lv_iconst (v := 1) hx hb d_Mo_isSignNumber_60 (by decide) ?_
          refine lv_goto (tgt := 65) hx hb d_Mo_isSignNumber_61 (by decide) ?_
          exact mr_zret (v := 1) (mo := mo_6) hx hb hr rfl hlocks hK hP hD hS (by unfold f_Mo_isSignNumber; rw [bndM_r w_1, if_pos c_2, bndM_r w_3, if_pos c_4, if_neg c_5, bndM_r w_6, if_neg c_7]) d_Mo_isSignNumber_65
        · refine lv_iload_n hx hb d_Mo_isSignNumber_38 rfl (lv_at hl 0 rfl) ?_
          refine lv_bipush (v := 46) hx hb d_Mo_isSignNumber_39 (by decide) ?_
          refine lv_bipush (v := 53) hx hb d_Mo_isSignNumber_41 (by decide) ?_
          refine mr_Si (g := (f_Mo_isIn mo_6 sg 46 53)) (As := [.int sg, .int 46, .int 53]) (rest := []) ⟨hx, hb, hml, hown, hts0⟩ (m_Mo_isIn l hlt dC dI cI cZ sa rk hm ma mo_6 _ sg 46 53 (fun z => hg (by unfold f_Mo_isSignNumber; rw [bndM_r w_1, if_pos c_2, bndM_r w_3, if_pos c_4, if_neg c_5, bndM_r w_6, if_pos c_7, bndM_n z]))) hP hD hK hS hA hC hZ hnt hlocks L_1023 L_1024 L_90 L_1025 k_Mo_isIn ⟨(by show _ ≤ 1; omega), (by show _ ≤ 22; omega)⟩ rfl rfl hl.1 (Nat.le_of_ble_eq_true rfl) d_Mo_isSignNumber_43 rfl (fun q z => by unfold f_Mo_isSignNumber; rw [bndM_r w_1, if_pos c_2, bndM_r w_3, if_pos c_4, if_neg c_5, bndM_r w_6, if_pos c_7, bndM_l z]) (fun r_8 mo_8 H locs w_8 hP hD hS => ?_)
          refine lv_if_ne (tgt := 60) hx hb d_Mo_isSignNumber_46 (by decide) (fun c_9 => ?_) (fun c_9 => ?_)
          · refine lv_iconst (v := 1) hx hb d_Mo_isSignNumber_60 (by decide) ?_
            refine lv_goto (tgt := 65) hx hb d_Mo_isSignNumber_61 (by decide) ?_
            exact mr_zret (v := 1) (mo := mo_8) hx hb hr rfl hlocks hK hP hD hS (by unfold f_Mo_isSignNumber; rw [bndM_r w_1, if_pos c_2, bndM_r w_3, if_pos c_4, if_neg c_5, bndM_r w_6, if_pos c_7, bndM_r w_8, if_neg c_9]) d_Mo_isSignNumber_65
          · refine lv_iload_n hx hb d_Mo_isSignNumber_49 rfl (lv_at hl 0 rfl) ?_
            refine lv_bipush (v := 60) hx hb d_Mo_isSignNumber_50 (by decide) ?_
            refine lv_bipush (v := 74) hx hb d_Mo_isSignNumber_52 (by decide) ?_
            refine mr_Si (g := (f_Mo_isIn mo_8 sg 60 74)) (As := [.int sg, .int 60, .int 74]) (rest := []) ⟨hx, hb, hml, hown, hts0⟩ (m_Mo_isIn l hlt dC dI cI cZ sa rk hm ma mo_8 _ sg 60 74 (fun z => hg (by unfold f_Mo_isSignNumber; rw [bndM_r w_1, if_pos c_2, bndM_r w_3, if_pos c_4, if_neg c_5, bndM_r w_6, if_pos c_7, bndM_r w_8, if_pos c_9, bndM_n z]))) hP hD hK hS hA hC hZ hnt hlocks L_1023 L_1024 L_90 L_1025 k_Mo_isIn ⟨(by show _ ≤ 1; omega), (by show _ ≤ 22; omega)⟩ rfl rfl hl.1 (Nat.le_of_ble_eq_true rfl) d_Mo_isSignNumber_54 rfl (fun q z => by unfold f_Mo_isSignNumber; rw [bndM_r w_1, if_pos c_2, bndM_r w_3, if_pos c_4, if_neg c_5, bndM_r w_6, if_pos c_7, bndM_r w_8, if_pos c_9, bndM_l z]) (fun r_10 mo_10 H locs w_10 hP hD hS => ?_)
            refine lv_if_eq (tgt := 64) hx hb d_Mo_isSignNumber_57 (by decide) (fun c_11 => ?_) (fun c_11 => ?_)
            · refine lv_iconst (v := 0) hx hb d_Mo_isSignNumber_64 (by decide) ?_
              exact mr_zret (v := 0) (mo := mo_10) hx hb hr rfl hlocks hK hP hD hS (by unfold f_Mo_isSignNumber; rw [bndM_r w_1, if_pos c_2, bndM_r w_3, if_pos c_4, if_neg c_5, bndM_r w_6, if_pos c_7, bndM_r w_8, if_pos c_9, bndM_r w_10, if_pos c_11]) d_Mo_isSignNumber_65
            · refine lv_iconst (v := 1) hx hb d_Mo_isSignNumber_60 (by decide) ?_
              refine lv_goto (tgt := 65) hx hb d_Mo_isSignNumber_61 (by decide) ?_
              exact mr_zret (v := 1) (mo := mo_10) hx hb hr rfl hlocks hK hP hD hS (by unfold f_Mo_isSignNumber; rw [bndM_r w_1, if_pos c_2, bndM_r w_3, if_pos c_4, if_neg c_5, bndM_r w_6, if_pos c_7, bndM_r w_8, if_pos c_9, bndM_r w_10, if_neg c_11]) d_Mo_isSignNumber_65
def f_Mo_isKind (mo : MO) (k : Int32) : Rm := (if (q_count mo) ≤ (q_at mo) then (some (.inr (0, mo))) else (if inb (q_at mo) 1001 then (if ((q_kinds mo) ((q_at mo) : Int32).toNatClampNeg) = k then (some (.inr (1, mo))) else (some (.inr (0, mo)))) else none))
set_option maxRecDepth 100000 in
set_option maxHeartbeats 4000000 in
theorem m_Mo_isKind (l : Launch) (hlt : l.stackTraces = false) (dC : Nat → ClassId) (dI : Nat → Nat → Nat) (cI cZ : ClassId) (sa rk hm : Nat) (ma : Nat → Nat)  (mo : MO) (sz : Nat) (k : Int32) (hg : (f_Mo_isKind mo k) ≠ none) : cXi l y_Mo_isKind c_Mo_isKind 2 .boolean (0) (0) (dC, dI) cI cZ sa rk hm ma mo sz [.ref hm, .int k] (f_Mo_isKind mo k) := by
  refine vx_ofW (cc := c_Mo_isKind) (maxL := 2) (ret := (some .boolean)) (by decide) rfl ?_
  intro p e s m args below meth c s₁ B hml hnt hv
  obtain ⟨rfl, hsz, hP, hK, hD0, hC, hZ⟩ := hv
  have hx := B.exec
  have hb := B.bytes
  have hr := B.returns
  have hts0 := atoms_spec (ws := wy y_Mo_isKind c_Mo_isKind 2 (some .boolean)) B.pre
  have hts := htsL hts0
  have hown : s.vm.findClass R_Mo = some m.cls := findClass_of_methodNamed B.named
  have hlocks := B.notSynchronized
  subst hsz
  have hD := hD0.self (sz := s.heap.size)
  generalize hAe : va_A (wM cI cZ hm ma mo) s.heap.size = A at hD hZ ⊢
  have hA : ∀ q : Nat, s.heap.size ≤ q → A q := fun q h => by rw [← hAe]; exact Or.inr h
  have hS : va_S A s.heap s.heap [] := va_S.rf
  have hl := lv_entry ([.ref hm, .int k]) (n := 2) (Nat.le_of_ble_eq_true rfl)
  rw [lg_entry_eq]
  generalize (lg_sl ([.ref hm, .int k]) ++ List.replicate (2 - (lg_sl ([.ref hm, .int k])).length) Slot.unset).toArray = ls at hl ⊢
  have hl : lv_has ls 2 [(0, .ref hm), (1, .int k)] := hl
  refine lv_aload_n hx hb d_Mo_isKind_0 rfl (lv_at hl 0 rfl) ?_
  refine va_get (D := (dC, dI)) (ci := 6) (v := .int (q_at mo)) (C := R_Mo) (T := T_Mo) (N := 31) hx hb hts u_Mo hown hK hP 0 rfl rfl 6 (by decide) (hts _ L_927) (fun _ h9 => h9) rfl d_Mo_isKind_1 ?_
  refine lv_aload_n hx hb d_Mo_isKind_4 rfl (lv_at hl 0 rfl) ?_
  refine va_get (D := (dC, dI)) (ci := 6) (v := .int (q_count mo)) (C := R_Mo) (T := T_Mo) (N := 31) hx hb hts u_Mo hown hK hP 0 rfl rfl 5 (by decide) (hts _ L_926) (fun _ h9 => h9) rfl d_Mo_isKind_5 ?_
  refine lv_icmp_ge (tgt := 28) hx hb d_Mo_isKind_8 (by decide) (fun c_1 => ?_) (fun c_1 => ?_)
  · refine lv_iconst (v := 0) hx hb d_Mo_isKind_28 (by decide) ?_
    exact mr_zret (v := 0) (mo := mo) hx hb hr rfl hlocks hK hP hD hS (by unfold f_Mo_isKind; rw [if_pos c_1]) d_Mo_isKind_29
  · refine lv_aload_n hx hb d_Mo_isKind_11 rfl (lv_at hl 0 rfl) ?_
    refine va_get (D := (dC, dI)) (ci := 6) (v := .ref (ma 0)) (C := R_Mo) (T := T_Mo) (N := 31) hx hb hts u_Mo hown hK hP 0 rfl rfl 1 (by decide) (hts _ L_922) (fun _ h9 => h9) rfl d_Mo_isKind_12 ?_
    refine lv_aload_n hx hb d_Mo_isKind_15 rfl (lv_at hl 0 rfl) ?_
    refine va_get (D := (dC, dI)) (ci := 6) (v := .int (q_at mo)) (C := R_Mo) (T := T_Mo) (N := 31) hx hb hts u_Mo hown hK hP 0 rfl rfl 6 (by decide) (hts _ L_927) (fun _ h9 => h9) rfl d_Mo_isKind_16 ?_
    by_cases cb_2 : inb (q_at mo) 1001
    case neg => exact absurd (by unfold f_Mo_isKind; rw [if_neg c_1, if_neg cb_2]) hg
    refine va_iald (D := (dC, dI)) hx hb hK hP 1 0 rfl rfl cb_2 d_Mo_isKind_19 ?_
    refine lv_iload_n hx hb d_Mo_isKind_20 rfl (lv_at hl 1 rfl) ?_
    refine lv_icmp_ne (tgt := 28) hx hb d_Mo_isKind_21 (by decide) (fun c_3 => ?_) (fun c_3 => ?_)
    · refine lv_iconst (v := 0) hx hb d_Mo_isKind_28 (by decide) ?_
      exact mr_zret (v := 0) (mo := mo) hx hb hr rfl hlocks hK hP hD hS (by unfold f_Mo_isKind; rw [if_neg c_1, if_pos cb_2, if_neg c_3]) d_Mo_isKind_29
    · refine lv_iconst (v := 1) hx hb d_Mo_isKind_24 (by decide) ?_
      refine lv_goto (tgt := 29) hx hb d_Mo_isKind_25 (by decide) ?_
      exact mr_zret (v := 1) (mo := mo) hx hb hr rfl hlocks hK hP hD hS (by unfold f_Mo_isKind; rw [if_neg c_1, if_pos cb_2, if_pos c_3]) d_Mo_isKind_29
def f_Mo_isSign (mo : MO) (sg : Int32) : Rm := (bndM (f_Mo_isKind mo 4) (fun r_1 mo_1 => (if r_1 = 0 then (some (.inr (0, mo_1))) else (if inb (q_at mo_1) 1001 then (if ((q_words mo_1) ((q_at mo_1) : Int32).toNatClampNeg) = sg then (some (.inr (1, mo_1))) else (some (.inr (0, mo_1)))) else none))))
set_option maxRecDepth 100000 in
set_option maxHeartbeats 4000000 in
theorem m_Mo_isSign (l : Launch) (hlt : l.stackTraces = false) (dC : Nat → ClassId) (dI : Nat → Nat → Nat) (cI cZ : ClassId) (sa rk hm : Nat) (ma : Nat → Nat)  (mo : MO) (sz : Nat) (sg : Int32) (hg : (f_Mo_isSign mo sg) ≠ none) : cXi l y_Mo_isSign c_Mo_isSign 2 .boolean (1) (21) (dC, dI) cI cZ sa rk hm ma mo sz [.ref hm, .int sg] (f_Mo_isSign mo sg) := by
  refine vx_ofW (cc := c_Mo_isSign) (maxL := 2) (ret := (some .boolean)) (by decide) rfl ?_
  intro p e s m args below meth c s₁ B hml hnt hv
  obtain ⟨rfl, hsz, hP, hK, hD0, hC, hZ⟩ := hv
  have hx := B.exec
  have hb := B.bytes
  have hr := B.returns
  have hts0 := atoms_spec (ws := wy y_Mo_isSign c_Mo_isSign 2 (some .boolean)) B.pre
  have hts := htsL hts0
  have hown : s.vm.findClass R_Mo = some m.cls := findClass_of_methodNamed B.named
  have hlocks := B.notSynchronized
  subst hsz
  have hD := hD0.self (sz := s.heap.size)
  generalize hAe : va_A (wM cI cZ hm ma mo) s.heap.size = A at hD hZ ⊢
  have hA : ∀ q : Nat, s.heap.size ≤ q → A q := fun q h => by rw [← hAe]; exact Or.inr h
  have hS : va_S A s.heap s.heap [] := va_S.rf
  have hl := lv_entry ([.ref hm, .int sg]) (n := 2) (Nat.le_of_ble_eq_true rfl)
  rw [lg_entry_eq]
  generalize (lg_sl ([.ref hm, .int sg]) ++ List.replicate (2 - (lg_sl ([.ref hm, .int sg])).length) Slot.unset).toArray = ls at hl ⊢
  have hl : lv_has ls 2 [(0, .ref hm), (1, .int sg)] := hl
  refine lv_aload_n hx hb d_Mo_isSign_0 rfl (lv_at hl 0 rfl) ?_
  refine lv_iconst (v := 4) hx hb d_Mo_isSign_1 (by decide) ?_
  refine mr_Vi (g := (f_Mo_isKind mo 4)) (As := [.int 4]) (rest := []) ⟨hx, hb, hml, hown, hts0⟩ (m_Mo_isKind l hlt dC dI cI cZ sa rk hm ma mo _ 4 (fun z => hg (by unfold f_Mo_isSign; rw [bndM_n z]))) hP hD hK hS hA hC hZ hnt hlocks L_1057 L_1059 L_61 L_90 L_1060 k_Mo_isKind ⟨(by show _ ≤ 1; omega), (by show _ ≤ 21; omega)⟩ rfl rfl hl.1 (Nat.le_of_ble_eq_true rfl) d_Mo_isSign_2 rfl (fun q z => by unfold f_Mo_isSign; rw [bndM_l z]) (fun r_1 mo_1 H locs w_1 hP hD hS => ?_)
  refine lv_if_eq (tgt := 25) hx hb d_Mo_isSign_5 (by decide) (fun c_2 => ?_) (fun c_2 => ?_)
  · refine lv_iconst (v := 0) hx hb d_Mo_isSign_25 (by decide) ?_
    exact mr_zret (v := 0) (mo := mo_1) hx hb hr rfl hlocks hK hP hD hS (by unfold f_Mo_isSign; rw [bndM_r w_1, if_pos c_2]) d_Mo_isSign_26
  · refine lv_aload_n hx hb d_Mo_isSign_8 rfl (lv_at hl 0 rfl) ?_
    refine va_get (D := (dC, dI)) (ci := 6) (v := .ref (ma 1)) (C := R_Mo) (T := T_Mo) (N := 31) hx hb hts u_Mo hown hK hP 0 rfl rfl 2 (by decide) (hts _ L_923) (fun _ h9 => h9) rfl d_Mo_isSign_9 ?_
    refine lv_aload_n hx hb d_Mo_isSign_12 rfl (lv_at hl 0 rfl) ?_
    refine va_get (D := (dC, dI)) (ci := 6) (v := .int (q_at mo_1)) (C := R_Mo) (T := T_Mo) (N := 31) hx hb hts u_Mo hown hK hP 0 rfl rfl 6 (by decide) (hts _ L_927) (fun _ h9 => h9) rfl d_Mo_isSign_13 ?_
    by_cases cb_3 : inb (q_at mo_1) 1001
    case neg => exact absurd (by unfold f_Mo_isSign; rw [bndM_r w_1, if_neg c_2, if_neg cb_3]) hg
    refine va_iald (D := (dC, dI)) hx hb hK hP 2 0 rfl rfl cb_3 d_Mo_isSign_16 ?_
    refine lv_iload_n hx hb d_Mo_isSign_17 rfl (lv_at hl 1 rfl) ?_
    refine lv_icmp_ne (tgt := 25) hx hb d_Mo_isSign_18 (by decide) (fun c_4 => ?_) (fun c_4 => ?_)
    · refine lv_iconst (v := 0) hx hb d_Mo_isSign_25 (by decide) ?_
      exact mr_zret (v := 0) (mo := mo_1) hx hb hr rfl hlocks hK hP hD hS (by unfold f_Mo_isSign; rw [bndM_r w_1, if_neg c_2, if_pos cb_3, if_neg c_4]) d_Mo_isSign_26
    · refine lv_iconst (v := 1) hx hb d_Mo_isSign_21 (by decide) ?_
      refine lv_goto (tgt := 26) hx hb d_Mo_isSign_22 (by decide) ?_
      exact mr_zret (v := 1) (mo := mo_1) hx hb hr rfl hlocks hK hP hD hS (by unfold f_Mo_isSign; rw [bndM_r w_1, if_neg c_2, if_pos cb_3, if_pos c_4]) d_Mo_isSign_26
def f_Mo_isWord (mo : MO) (w : Int32) : Rm := (bndM (f_Mo_isKind mo 1) (fun r_1 mo_1 => (if r_1 = 0 then (some (.inr (0, mo_1))) else (if inb (q_at mo_1) 1001 then (if ((q_words mo_1) ((q_at mo_1) : Int32).toNatClampNeg) = w then (some (.inr (1, mo_1))) else (some (.inr (0, mo_1)))) else none))))
set_option maxRecDepth 100000 in
set_option maxHeartbeats 4000000 in
theorem m_Mo_isWord (l : Launch) (hlt : l.stackTraces = false) (dC : Nat → ClassId) (dI : Nat → Nat → Nat) (cI cZ : ClassId) (sa rk hm : Nat) (ma : Nat → Nat)  (mo : MO) (sz : Nat) (w : Int32) (hg : (f_Mo_isWord mo w) ≠ none) : cXi l y_Mo_isWord c_Mo_isWord 2 .boolean (1) (21) (dC, dI) cI cZ sa rk hm ma mo sz [.ref hm, .int w] (f_Mo_isWord mo w) := by
  refine vx_ofW (cc := c_Mo_isWord) (maxL := 2) (ret := (some .boolean)) (by decide) rfl ?_
  intro p e s m args below meth c s₁ B hml hnt hv
  obtain ⟨rfl, hsz, hP, hK, hD0, hC, hZ⟩ := hv
  have hx := B.exec
  have hb := B.bytes
  have hr := B.returns
  have hts0 := atoms_spec (ws := wy y_Mo_isWord c_Mo_isWord 2 (some .boolean)) B.pre
  have hts := htsL hts0
  have hown : s.vm.findClass R_Mo = some m.cls := findClass_of_methodNamed B.named
  have hlocks := B.notSynchronized
  subst hsz
  have hD := hD0.self (sz := s.heap.size)
  generalize hAe : va_A (wM cI cZ hm ma mo) s.heap.size = A at hD hZ ⊢
  have hA : ∀ q : Nat, s.heap.size ≤ q → A q := fun q h => by rw [← hAe]; exact Or.inr h
  have hS : va_S A s.heap s.heap [] := va_S.rf
  have hl := lv_entry ([.ref hm, .int w]) (n := 2) (Nat.le_of_ble_eq_true rfl)
  rw [lg_entry_eq]
  generalize (lg_sl ([.ref hm, .int w]) ++ List.replicate (2 - (lg_sl ([.ref hm, .int w])).length) Slot.unset).toArray = ls at hl ⊢
  have hl : lv_has ls 2 [(0, .ref hm), (1, .int w)] := hl
  refine lv_aload_n hx hb d_Mo_isWord_0 rfl (lv_at hl 0 rfl) ?_
  refine lv_iconst (v := 1) hx hb d_Mo_isWord_1 (by decide) ?_
  refine mr_Vi (g := (f_Mo_isKind mo 1)) (As := [.int 1]) (rest := []) ⟨hx, hb, hml, hown, hts0⟩ (m_Mo_isKind l hlt dC dI cI cZ sa rk hm ma mo _ 1 (fun z => hg (by unfold f_Mo_isWord; rw [bndM_n z]))) hP hD hK hS hA hC hZ hnt hlocks L_1057 L_1059 L_61 L_90 L_1060 k_Mo_isKind ⟨(by show _ ≤ 1; omega), (by show _ ≤ 21; omega)⟩ rfl rfl hl.1 (Nat.le_of_ble_eq_true rfl) d_Mo_isWord_2 rfl (fun q z => by unfold f_Mo_isWord; rw [bndM_l z]) (fun r_1 mo_1 H locs w_1 hP hD hS => ?_)
  refine lv_if_eq (tgt := 25) hx hb d_Mo_isWord_5 (by decide) (fun c_2 => ?_) (fun c_2 => ?_)
  · refine lv_iconst (v := 0) hx hb d_Mo_isWord_25 (by decide) ?_
    exact mr_zret (v := 0) (mo := mo_1) hx hb hr rfl hlocks hK hP hD hS (by unfold f_Mo_isWord; rw [bndM_r w_1, if_pos c_2]) d_Mo_isWord_26
  · refine lv_aload_n hx hb d_Mo_isWord_8 rfl (lv_at hl 0 rfl) ?_
    refine va_get (D := (dC, dI)) (ci := 6) (v := .ref (ma 1)) (C := R_Mo) (T := T_Mo) (N := 31) hx hb hts u_Mo hown hK hP 0 rfl rfl 2 (by decide) (hts _ L_923) (fun _ h9 => h9) rfl d_Mo_isWord_9 ?_
    refine lv_aload_n hx hb d_Mo_isWord_12 rfl (lv_at hl 0 rfl) ?_
    refine va_get (D := (dC, dI)) (ci := 6) (v := .int (q_at mo_1)) (C := R_Mo) (T := T_Mo) (N := 31) hx hb hts u_Mo hown hK hP 0 rfl rfl 6 (by decide) (hts _ L_927) (fun _ h9 => h9) rfl d_Mo_isWord_13 ?_
    by_cases cb_3 : inb (q_at mo_1) 1001
    case neg => exact absurd (by unfold f_Mo_isWord; rw [bndM_r w_1, if_neg c_2, if_neg cb_3]) hg
    refine va_iald (D := (dC, dI)) hx hb hK hP 2 0 rfl rfl cb_3 d_Mo_isWord_16 ?_
    refine lv_iload_n hx hb d_Mo_isWord_17 rfl (lv_at hl 1 rfl) ?_
    refine lv_icmp_ne (tgt := 25) hx hb d_Mo_isWord_18 (by decide) (fun c_4 => ?_) (fun c_4 => ?_)
    · refine lv_iconst (v := 0) hx hb d_Mo_isWord_25 (by decide) ?_
      exact mr_zret (v := 0) (mo := mo_1) hx hb hr rfl hlocks hK hP hD hS (by unfold f_Mo_isWord; rw [bndM_r w_1, if_neg c_2, if_pos cb_3, if_neg c_4]) d_Mo_isWord_26
    · refine lv_iconst (v := 1) hx hb d_Mo_isWord_21 (by decide) ?_
      refine lv_goto (tgt := 26) hx hb d_Mo_isWord_22 (by decide) ?_
      exact mr_zret (v := 1) (mo := mo_1) hx hb hr rfl hlocks hK hP hD hS (by unfold f_Mo_isWord; rw [bndM_r w_1, if_neg c_2, if_pos cb_3, if_pos c_4]) d_Mo_isWord_26
def f_Mo_expect (mo : MO) (sg : Int32) : Rm := (bndM (f_Mo_isSign mo sg) (fun r_1 mo_1 => (if r_1 = 0 then (bndM (f_Mo_refuse mo_1 (q_at mo_1)) (fun _ mo_3 => (some (.inr (0, (s_at mo_3 ((q_at mo_3) + 1))))))) else (some (.inr (0, (s_at mo_1 ((q_at mo_1) + 1))))))))
set_option maxRecDepth 100000 in
set_option maxHeartbeats 4000000 in
theorem m_Mo_expect (l : Launch) (hlt : l.stackTraces = false) (dC : Nat → ClassId) (dI : Nat → Nat → Nat) (cI cZ : ClassId) (sa rk hm : Nat) (ma : Nat → Nat)  (mo : MO) (sz : Nat) (sg : Int32) (hg : (f_Mo_expect mo sg) ≠ none) : cXv l y_Mo_expect c_Mo_expect 2 (7) (102) (dC, dI) cI cZ sa rk hm ma mo sz [.ref hm, .int sg] (f_Mo_expect mo sg) := by
  refine vx_ofW (cc := c_Mo_expect) (maxL := 2) (ret := none) (by decide) rfl ?_
  intro p e s m args below meth c s₁ B hml hnt hv
  obtain ⟨rfl, hsz, hP, hK, hD0, hC, hZ⟩ := hv
  have hx := B.exec
  have hb := B.bytes
  have hr := B.returns
  have hts0 := atoms_spec (ws := wy y_Mo_expect c_Mo_expect 2 none) B.pre
  have hts := htsL hts0
  have hown : s.vm.findClass R_Mo = some m.cls := findClass_of_methodNamed B.named
  have hlocks := B.notSynchronized
  subst hsz
  have hD := hD0.self (sz := s.heap.size)
  generalize hAe : va_A (wM cI cZ hm ma mo) s.heap.size = A at hD hZ ⊢
  have hA : ∀ q : Nat, s.heap.size ≤ q → A q := fun q h => by rw [← hAe]; exact Or.inr h
  have hS : va_S A s.heap s.heap [] := va_S.rf
  have hl := lv_entry ([.ref hm, .int sg]) (n := 2) (Nat.le_of_ble_eq_true rfl)
  rw [lg_entry_eq]
  generalize (lg_sl ([.ref hm, .int sg]) ++ List.replicate (2 - (lg_sl ([.ref hm, .int sg])).length) Slot.unset).toArray = ls at hl ⊢
  have hl : lv_has ls 2 [(0, .ref hm), (1, .int sg)] := hl
  refine lv_aload_n hx hb d_Mo_expect_0 rfl (lv_at hl 0 rfl) ?_
  refine lv_iload_n hx hb d_Mo_expect_1 rfl (lv_at hl 1 rfl) ?_
  refine mr_Vi (g := (f_Mo_isSign mo sg)) (As := [.int sg]) (rest := []) ⟨hx, hb, hml, hown, hts0⟩ (m_Mo_isSign l hlt dC dI cI cZ sa rk hm ma mo _ sg (fun z => hg (by unfold f_Mo_expect; rw [bndM_n z]))) hP hD hK hS hA hC hZ hnt hlocks L_1053 L_1055 L_60 L_90 L_1056 k_Mo_isSign ⟨(by show _ ≤ 7; omega), (by show _ ≤ 102; omega)⟩ rfl rfl hl.1 (Nat.le_of_ble_eq_true rfl) d_Mo_expect_2 rfl (fun q z => by unfold f_Mo_expect; rw [bndM_l z]) (fun r_1 mo_1 H locs w_1 hP hD hS => ?_)
  refine lv_if_ne (tgt := 16) hx hb d_Mo_expect_5 (by decide) (fun c_2 => ?_) (fun c_2 => ?_)
  · refine lv_aload_n hx hb d_Mo_expect_16 rfl (lv_at hl 0 rfl) ?_
    refine lv_dup hx hb d_Mo_expect_17 rfl ?_
    refine va_get (D := (dC, dI)) (ci := 6) (v := .int (q_at mo_1)) (C := R_Mo) (T := T_Mo) (N := 31) hx hb hts u_Mo hown hK hP 0 rfl rfl 6 (by decide) (hts _ L_927) (fun _ h9 => h9) rfl d_Mo_expect_18 ?_
    refine lv_iconst (v := 1) hx hb d_Mo_expect_21 (by decide) ?_
    refine lv_iadd hx hb d_Mo_expect_22 ?_
    refine va_put (D := (dC, dI)) (ci := 6) (v := .int ((q_at mo_1) + 1)) (ty := .int) (C := R_Mo) (T := T_Mo) (N := 31) hx hb hts u_Mo ty_Mo tk_Mo nm_Mo hown hK hP hD hS 0 rfl rfl 6 (by decide) (hts _ L_927) (fun _ h9 => h9) rfl (by decide +kernel) rfl rfl (Nat.le_of_ble_eq_true rfl) d_Mo_expect_23 (fun H locs hP hD hS => ?_)
    have hP : va_P (dC, dI) cls (wM cI cZ hm ma (s_at mo_1 ((q_at mo_1) + 1))) H := hP
    have hD : va_D A (wM cI cZ hm ma (s_at mo_1 ((q_at mo_1) + 1))) := hD
    exact mr_vret (mo := (s_at mo_1 ((q_at mo_1) + 1))) hx hb hr hlocks hK hP hD hS (by unfold f_Mo_expect; rw [bndM_r w_1, if_neg c_2]) d_Mo_expect_26
  · refine lv_aload_n hx hb d_Mo_expect_8 rfl (lv_at hl 0 rfl) ?_
    refine lv_aload_n hx hb d_Mo_expect_9 rfl (lv_at hl 0 rfl) ?_
    refine va_get (D := (dC, dI)) (ci := 6) (v := .int (q_at mo_1)) (C := R_Mo) (T := T_Mo) (N := 31) hx hb hts u_Mo hown hK hP 0 rfl rfl 6 (by decide) (hts _ L_927) (fun _ h9 => h9) rfl d_Mo_expect_10 ?_
    refine mr_Vv (g := (f_Mo_refuse mo_1 (q_at mo_1))) (As := [.int (q_at mo_1)]) (rest := []) ⟨hx, hb, hml, hown, hts0⟩ (m_Mo_refuse l hlt dC dI cI cZ sa rk hm ma mo_1 _ (q_at mo_1) ) hP hD hK hS hA hC hZ hnt hlocks L_1072 L_1074 L_64 L_90 L_1075 k_Mo_refuse ⟨(by show _ ≤ 7; omega), (by show _ ≤ 102; omega)⟩ rfl rfl hl.1 (Nat.le_of_ble_eq_true rfl) d_Mo_expect_13 rfl (fun q z => by unfold f_Mo_expect; rw [bndM_r w_1, if_pos c_2, bndM_l z]) (fun mo_3 H locs w_3 hP hD hS => ?_)
    refine lv_aload_n hx hb d_Mo_expect_16 rfl (lv_at hl 0 rfl) ?_
    refine lv_dup hx hb d_Mo_expect_17 rfl ?_
    refine va_get (D := (dC, dI)) (ci := 6) (v := .int (q_at mo_3)) (C := R_Mo) (T := T_Mo) (N := 31) hx hb hts u_Mo hown hK hP 0 rfl rfl 6 (by decide) (hts _ L_927) (fun _ h9 => h9) rfl d_Mo_expect_18 ?_
    refine lv_iconst (v := 1) hx hb d_Mo_expect_21 (by decide) ?_
    refine lv_iadd hx hb d_Mo_expect_22 ?_
    refine va_put (D := (dC, dI)) (ci := 6) (v := .int ((q_at mo_3) + 1)) (ty := .int) (C := R_Mo) (T := T_Mo) (N := 31) hx hb hts u_Mo ty_Mo tk_Mo nm_Mo hown hK hP hD hS 0 rfl rfl 6 (by decide) (hts _ L_927) (fun _ h9 => h9) rfl (by decide +kernel) rfl rfl (Nat.le_of_ble_eq_true rfl) d_Mo_expect_23 (fun H locs hP hD hS => ?_)
    have hP : va_P (dC, dI) cls (wM cI cZ hm ma (s_at mo_3 ((q_at mo_3) + 1))) H := hP
    have hD : va_D A (wM cI cZ hm ma (s_at mo_3 ((q_at mo_3) + 1))) := hD
    exact mr_vret (mo := (s_at mo_3 ((q_at mo_3) + 1))) hx hb hr hlocks hK hP hD hS (by unfold f_Mo_expect; rw [bndM_r w_1, if_pos c_2, bndM_r w_3]) d_Mo_expect_26
def f_Mo_isReserved (mo : MO) (strictly : Int32) : Rm := (if inb (q_at mo) 1001 then (if 0 ≤ ((q_words mo) ((q_at mo) : Int32).toNatClampNeg) then (bndM (f_Mo_isIn mo (((q_words mo) ((q_at mo) : Int32).toNatClampNeg) - ((q_words mo) ((q_at mo) : Int32).toNatClampNeg) / 100 * 100) 0 35) (fun r_3 mo_3 => (if r_3 = 0 then (if strictly = 0 then (some (.inr (0, mo_3))) else (if (((q_words mo) ((q_at mo) : Int32).toNatClampNeg) - ((q_words mo) ((q_at mo) : Int32).toNatClampNeg) / 100 * 100) ≤ 35 then (some (.inr (0, mo_3))) else (some (.inr (1, mo_3))))) else (some (.inr (1, mo_3)))))) else (bndM (f_Mo_isIn mo (-1) 0 35) (fun r_7 mo_7 => (if r_7 = 0 then (if strictly = 0 then (some (.inr (0, mo_7))) else (some (.inr (0, mo_7)))) else (some (.inr (1, mo_7))))))) else none)
set_option maxRecDepth 100000 in
set_option maxHeartbeats 4000000 in
theorem m_Mo_isReserved (l : Launch) (hlt : l.stackTraces = false) (dC : Nat → ClassId) (dI : Nat → Nat → Nat) (cI cZ : ClassId) (sa rk hm : Nat) (ma : Nat → Nat)  (mo : MO) (sz : Nat) (strictly : Int32) (hg : (f_Mo_isReserved mo strictly) ≠ none) : cXi l y_Mo_isReserved c_Mo_isReserved 3 .boolean (1) (22) (dC, dI) cI cZ sa rk hm ma mo sz [.ref hm, .int strictly] (f_Mo_isReserved mo strictly) := by
  refine vx_ofW (cc := c_Mo_isReserved) (maxL := 3) (ret := (some .boolean)) (by decide) rfl ?_
  intro p e s m args below meth c s₁ B hml hnt hv
  obtain ⟨rfl, hsz, hP, hK, hD0, hC, hZ⟩ := hv
  have hx := B.exec
  have hb := B.bytes
  have hr := B.returns
  have hts0 := atoms_spec (ws := wy y_Mo_isReserved c_Mo_isReserved 3 (some .boolean)) B.pre
  have hts := htsL hts0
  have hown : s.vm.findClass R_Mo = some m.cls := findClass_of_methodNamed B.named
  have hlocks := B.notSynchronized
  subst hsz
  have hD := hD0.self (sz := s.heap.size)
  generalize hAe : va_A (wM cI cZ hm ma mo) s.heap.size = A at hD hZ ⊢
  have hA : ∀ q : Nat, s.heap.size ≤ q → A q := fun q h => by rw [← hAe]; exact Or.inr h
  have hS : va_S A s.heap s.heap [] := va_S.rf
  have hl := lv_entry ([.ref hm, .int strictly]) (n := 3) (Nat.le_of_ble_eq_true rfl)
  rw [lg_entry_eq]
  generalize (lg_sl ([.ref hm, .int strictly]) ++ List.replicate (3 - (lg_sl ([.ref hm, .int strictly])).length) Slot.unset).toArray = ls at hl ⊢
  have hl : lv_has ls 3 [(0, .ref hm), (1, .int strictly)] := hl
  refine lv_aload_n hx hb d_Mo_isReserved_0 rfl (lv_at hl 0 rfl) ?_
  refine va_get (D := (dC, dI)) (ci := 6) (v := .ref (ma 1)) (C := R_Mo) (T := T_Mo) (N := 31) hx hb hts u_Mo hown hK hP 0 rfl rfl 2 (by decide) (hts _ L_923) (fun _ h9 => h9) rfl d_Mo_isReserved_1 ?_
  refine lv_aload_n hx hb d_Mo_isReserved_4 rfl (lv_at hl 0 rfl) ?_
  refine va_get (D := (dC, dI)) (ci := 6) (v := .int (q_at mo)) (C := R_Mo) (T := T_Mo) (N := 31) hx hb hts u_Mo hown hK hP 0 rfl rfl 6 (by decide) (hts _ L_927) (fun _ h9 => h9) rfl d_Mo_isReserved_5 ?_
  by_cases cb_1 : inb (q_at mo) 1001
  case neg => exact absurd (by unfold f_Mo_isReserved; rw [if_neg cb_1]) hg
  refine va_iald (D := (dC, dI)) hx hb hK hP 2 0 rfl rfl cb_1 d_Mo_isReserved_8 ?_
  refine lv_if_ge (tgt := 16) hx hb d_Mo_isReserved_9 (by decide) (fun c_2 => ?_) (fun c_2 => ?_)
  · refine lv_aload_n hx hb d_Mo_isReserved_16 rfl (lv_at hl 0 rfl) ?_
    refine va_get (D := (dC, dI)) (ci := 6) (v := .ref (ma 1)) (C := R_Mo) (T := T_Mo) (N := 31) hx hb hts u_Mo hown hK hP 0 rfl rfl 2 (by decide) (hts _ L_923) (fun _ h9 => h9) rfl d_Mo_isReserved_17 ?_
    refine lv_aload_n hx hb d_Mo_isReserved_20 rfl (lv_at hl 0 rfl) ?_
    refine va_get (D := (dC, dI)) (ci := 6) (v := .int (q_at mo)) (C := R_Mo) (T := T_Mo) (N := 31) hx hb hts u_Mo hown hK hP 0 rfl rfl 6 (by decide) (hts _ L_927) (fun _ h9 => h9) rfl d_Mo_isReserved_21 ?_
    refine va_iald (D := (dC, dI)) hx hb hK hP 2 0 rfl rfl cb_1 d_Mo_isReserved_24 ?_
    refine lv_bipush (v := 100) hx hb d_Mo_isReserved_25 (by decide) ?_
    refine lv_irem hx hb d_Mo_isReserved_27 (by decide) ?_
    refine lv_istore_n (lv' := [(2, .int (((q_words mo) ((q_at mo) : Int32).toNatClampNeg) - ((q_words mo) ((q_at mo) : Int32).toNatClampNeg) / 100 * 100)), (0, .ref hm), (1, .int strictly)]) hx hb d_Mo_isReserved_28 rfl hl (by decide) rfl (fun ls hl => ?_)
    refine lv_iload_n hx hb d_Mo_isReserved_29 rfl (lv_at hl 0 rfl) ?_
    refine lv_iconst (v := 0) hx hb d_Mo_isReserved_30 (by decide) ?_
    refine lv_bipush (v := 35) hx hb d_Mo_isReserved_31 (by decide) ?_
    refine mr_Si (g := (f_Mo_isIn mo (((q_words mo) ((q_at mo) : Int32).toNatClampNeg) - ((q_words mo) ((q_at mo) : Int32).toNatClampNeg) / 100 * 100) 0 35)) (As := [.int (((q_words mo) ((q_at mo) : Int32).toNatClampNeg) - ((q_words mo) ((q_at mo) : Int32).toNatClampNeg) / 100 * 100), .int 0, .int 35]) (rest := []) ⟨hx, hb, hml, hown, hts0⟩ (m_Mo_isIn l hlt dC dI cI cZ sa rk hm ma mo _ (((q_words mo) ((q_at mo) : Int32).toNatClampNeg) - ((q_words mo) ((q_at mo) : Int32).toNatClampNeg) / 100 * 100) 0 35 (fun z => hg (by unfold f_Mo_isReserved; rw [if_pos cb_1, if_pos c_2, bndM_n z]))) hP hD hK hS hA hC hZ hnt hlocks L_1023 L_1024 L_90 L_1025 k_Mo_isIn ⟨(by show _ ≤ 1; omega), (by show _ ≤ 22; omega)⟩ rfl rfl hl.1 (Nat.le_of_ble_eq_true rfl) d_Mo_isReserved_33 rfl (fun q z => by unfold f_Mo_isReserved; rw [if_pos cb_1, if_pos c_2, bndM_l z]) (fun r_3 mo_3 H locs w_3 hP hD hS => ?_)
    refine lv_if_ne (tgt := 49) hx hb d_Mo_isReserved_36 (by decide) (fun c_4 => ?_) (fun c_4 => ?_)
    · refine lv_iconst (v := 1) hx hb d_Mo_isReserved_49 (by decide) ?_
      refine lv_goto (tgt := 54) hx hb d_Mo_isReserved_50 (by decide) ?_
      exact mr_zret (v := 1) (mo := mo_3) hx hb hr rfl hlocks hK hP hD hS (by unfold f_Mo_isReserved; rw [if_pos cb_1, if_pos c_2, bndM_r w_3, if_neg c_4]) d_Mo_isReserved_54
    · refine lv_iload_n hx hb d_Mo_isReserved_39 rfl (lv_at hl 2 rfl) ?_
      refine lv_if_eq (tgt := 53) hx hb d_Mo_isReserved_40 (by decide) (fun c_5 => ?_) (fun c_5 => ?_)
      · refine lv_iconst (v := 0) hx hb d_Mo_isReserved_53 (by decide) ?_
        exact mr_zret (v := 0) (mo := mo_3) hx hb hr rfl hlocks hK hP hD hS (by unfold f_Mo_isReserved; rw [if_pos cb_1, if_pos c_2, bndM_r w_3, if_pos c_4, if_pos c_5]) d_Mo_isReserved_54
      · refine lv_iload_n hx hb d_Mo_isReserved_43 rfl (lv_at hl 0 rfl) ?_
        refine lv_bipush (v := 35) hx hb d_Mo_isReserved_44 (by decide) ?_
        refine lv_icmp_le (tgt := 53) hx hb d_Mo_isReserved_46 (by decide) (fun c_6 => ?_) (fun c_6 => ?_)
        · refine lv_iconst (v := 0) hx hb d_Mo_isReserved_53 (by decide) ?_
          exact mr_zret (v := 0) (mo := mo_3) hx hb hr rfl hlocks hK hP hD hS (by unfold f_Mo_isReserved; rw [if_pos cb_1, if_pos c_2, bndM_r w_3, if_pos c_4, if_neg c_5, if_pos c_6]) d_Mo_isReserved_54
        · refine lv_iconst (v := 1) hx hb d_Mo_isReserved_49 (by decide) ?_
          refine lv_goto (tgt := 54) hx hb d_Mo_isReserved_50 (by decide) ?_
          exact mr_zret (v := 1) (mo := mo_3) hx hb hr rfl hlocks hK hP hD hS (by unfold f_Mo_isReserved; rw [if_pos cb_1, if_pos c_2, bndM_r w_3, if_pos c_4, if_neg c_5, if_neg c_6]) d_Mo_isReserved_54
  · refine lv_iconst (v := (-1)) hx hb d_Mo_isReserved_12 (by decide) ?_
    refine lv_goto (tgt := 28) hx hb d_Mo_isReserved_13 (by decide) ?_
    refine lv_istore_n (lv' := [(2, .int (-1)), (0, .ref hm), (1, .int strictly)]) hx hb d_Mo_isReserved_28 rfl hl (by decide) rfl (fun ls hl => ?_)
    refine lv_iload_n hx hb d_Mo_isReserved_29 rfl (lv_at hl 0 rfl) ?_
    refine lv_iconst (v := 0) hx hb d_Mo_isReserved_30 (by decide) ?_
    refine lv_bipush (v := 35) hx hb d_Mo_isReserved_31 (by decide) ?_
    refine mr_Si (g := (f_Mo_isIn mo (-1) 0 35)) (As := [.int (-1), .int 0, .int 35]) (rest := []) ⟨hx, hb, hml, hown, hts0⟩ (m_Mo_isIn l hlt dC dI cI cZ sa rk hm ma mo _ (-1) 0 35 (fun z => hg (by unfold f_Mo_isReserved; rw [if_pos cb_1, if_neg c_2, bndM_n z]))) hP hD hK hS hA hC hZ hnt hlocks L_1023 L_1024 L_90 L_1025 k_Mo_isIn ⟨(by show _ ≤ 1; omega), (by show _ ≤ 22; omega)⟩ rfl rfl hl.1 (Nat.le_of_ble_eq_true rfl) d_Mo_isReserved_33 rfl (fun q z => by unfold f_Mo_isReserved; rw [if_pos cb_1, if_neg c_2, bndM_l z]) (fun r_7 mo_7 H locs w_7 hP hD hS => ?_)
    refine lv_if_ne (tgt := 49) hx hb d_Mo_isReserved_36 (by decide) (fun c_8 => ?_) (fun c_8 => ?_)
    · refine lv_iconst (v := 1) hx hb d_Mo_isReserved_49 (by decide) ?_
      refine lv_goto (tgt := 54) hx hb d_Mo_isReserved_50 (by decide) ?_
      exact mr_zret (v := 1) (mo := mo_7) hx hb hr rfl hlocks hK hP hD hS (by unfold f_Mo_isReserved; rw [if_pos cb_1, if_neg c_2, bndM_r w_7, if_neg c_8]) d_Mo_isReserved_54
    · refine lv_iload_n hx hb d_Mo_isReserved_39 rfl (lv_at hl 2 rfl) ?_
      refine lv_if_eq (tgt := 53) hx hb d_Mo_isReserved_40 (by decide) (fun c_9 => ?_) (fun c_9 => ?_)
      · refine lv_iconst (v := 0) hx hb d_Mo_isReserved_53 (by decide) ?_
        exact mr_zret (v := 0) (mo := mo_7) hx hb hr rfl hlocks hK hP hD hS (by unfold f_Mo_isReserved; rw [if_pos cb_1, if_neg c_2, bndM_r w_7, if_pos c_8, if_pos c_9]) d_Mo_isReserved_54
      · refine lv_iload_n hx hb d_Mo_isReserved_43 rfl (lv_at hl 0 rfl) ?_
        refine lv_bipush (v := 35) hx hb d_Mo_isReserved_44 (by decide) ?_
        refine lv_icmp_le (tgt := 53) hx hb d_Mo_isReserved_46 (by decide) (fun _ => ?_) (fun q9 => absurd q9 (by decide))
        refine lv_iconst (v := 0) hx hb d_Mo_isReserved_53 (by decide) ?_
        exact mr_zret (v := 0) (mo := mo_7) hx hb hr rfl hlocks hK hP hD hS (by unfold f_Mo_isReserved; rw [if_pos cb_1, if_neg c_2, bndM_r w_7, if_pos c_8, if_neg c_9]) d_Mo_isReserved_54
def f_Mo_identifier (mo : MO)  : Rm := (bndM (f_Mo_isKind mo 1) (fun r_1 mo_1 => (if r_1 = 0 then (bndM (f_Mo_refuse mo_1 (q_at mo_1)) (fun _ mo_3 => (if inb (((q_at mo_3) + 1) - 1) 1001 then (some (.inr (((q_names mo_3) ((((q_at mo_3) + 1) - 1) : Int32).toNatClampNeg), (s_at mo_3 ((q_at mo_3) + 1))))) else none))) else (bndM (f_Mo_isReserved mo_1 (q_strict mo_1)) (fun r_5 mo_5 => (if r_5 = 0 then (if inb (((q_at mo_5) + 1) - 1) 1001 then (some (.inr (((q_names mo_5) ((((q_at mo_5) + 1) - 1) : Int32).toNatClampNeg), (s_at mo_5 ((q_at mo_5) + 1))))) else none) else (bndM (f_Mo_refuse mo_5 (q_at mo_5)) (fun _ mo_8 => (if inb (((q_at mo_8) + 1) - 1) 1001 then (some (.inr (((q_names mo_8) ((((q_at mo_8) + 1) - 1) : Int32).toNatClampNeg), (s_at mo_8 ((q_at mo_8) + 1))))) else none)))))))))
set_option maxRecDepth 100000 in
set_option maxHeartbeats 4000000 in
theorem m_Mo_identifier (l : Launch) (hlt : l.stackTraces = false) (dC : Nat → ClassId) (dI : Nat → Nat → Nat) (cI cZ : ClassId) (sa rk hm : Nat) (ma : Nat → Nat)  (mo : MO) (sz : Nat)  (hg : (f_Mo_identifier mo) ≠ none) : cXi l y_Mo_identifier c_Mo_identifier 1 .int (7) (102) (dC, dI) cI cZ sa rk hm ma mo sz [.ref hm] (f_Mo_identifier mo) := by
  refine vx_ofW (cc := c_Mo_identifier) (maxL := 1) (ret := (some .int)) (by decide) rfl ?_
  intro p e s m args below meth c s₁ B hml hnt hv
  obtain ⟨rfl, hsz, hP, hK, hD0, hC, hZ⟩ := hv
  have hx := B.exec
  have hb := B.bytes
  have hr := B.returns
  have hts0 := atoms_spec (ws := wy y_Mo_identifier c_Mo_identifier 1 (some .int)) B.pre
  have hts := htsL hts0
  have hown : s.vm.findClass R_Mo = some m.cls := findClass_of_methodNamed B.named
  have hlocks := B.notSynchronized
  subst hsz
  have hD := hD0.self (sz := s.heap.size)
  generalize hAe : va_A (wM cI cZ hm ma mo) s.heap.size = A at hD hZ ⊢
  have hA : ∀ q : Nat, s.heap.size ≤ q → A q := fun q h => by rw [← hAe]; exact Or.inr h
  have hS : va_S A s.heap s.heap [] := va_S.rf
  have hl := lv_entry ([.ref hm]) (n := 1) (Nat.le_of_ble_eq_true rfl)
  rw [lg_entry_eq]
  generalize (lg_sl ([.ref hm]) ++ List.replicate (1 - (lg_sl ([.ref hm])).length) Slot.unset).toArray = ls at hl ⊢
  have hl : lv_has ls 1 [(0, .ref hm)] := hl
  refine lv_aload_n hx hb d_Mo_identifier_0 rfl (lv_at hl 0 rfl) ?_
  refine lv_iconst (v := 1) hx hb d_Mo_identifier_1 (by decide) ?_
  refine mr_Vi (g := (f_Mo_isKind mo 1)) (As := [.int 1]) (rest := []) ⟨hx, hb, hml, hown, hts0⟩ (m_Mo_isKind l hlt dC dI cI cZ sa rk hm ma mo _ 1 (fun z => hg (by unfold f_Mo_identifier; rw [bndM_n z]))) hP hD hK hS hA hC hZ hnt hlocks L_1057 L_1059 L_61 L_90 L_1060 k_Mo_isKind ⟨(by show _ ≤ 7; omega), (by show _ ≤ 102; omega)⟩ rfl rfl hl.1 (Nat.le_of_ble_eq_true rfl) d_Mo_identifier_2 rfl (fun q z => by unfold f_Mo_identifier; rw [bndM_l z]) (fun r_1 mo_1 H locs w_1 hP hD hS => ?_)
  refine lv_if_eq (tgt := 19) hx hb d_Mo_identifier_5 (by decide) (fun c_2 => ?_) (fun c_2 => ?_)
  · refine lv_aload_n hx hb d_Mo_identifier_19 rfl (lv_at hl 0 rfl) ?_
    refine lv_aload_n hx hb d_Mo_identifier_20 rfl (lv_at hl 0 rfl) ?_
    refine va_get (D := (dC, dI)) (ci := 6) (v := .int (q_at mo_1)) (C := R_Mo) (T := T_Mo) (N := 31) hx hb hts u_Mo hown hK hP 0 rfl rfl 6 (by decide) (hts _ L_927) (fun _ h9 => h9) rfl d_Mo_identifier_21 ?_
    refine mr_Vv (g := (f_Mo_refuse mo_1 (q_at mo_1))) (As := [.int (q_at mo_1)]) (rest := []) ⟨hx, hb, hml, hown, hts0⟩ (m_Mo_refuse l hlt dC dI cI cZ sa rk hm ma mo_1 _ (q_at mo_1) ) hP hD hK hS hA hC hZ hnt hlocks L_1072 L_1074 L_64 L_90 L_1075 k_Mo_refuse ⟨(by show _ ≤ 7; omega), (by show _ ≤ 102; omega)⟩ rfl rfl hl.1 (Nat.le_of_ble_eq_true rfl) d_Mo_identifier_24 rfl (fun q z => by unfold f_Mo_identifier; rw [bndM_r w_1, if_pos c_2, bndM_l z]) (fun mo_3 H locs w_3 hP hD hS => ?_)
    refine lv_aload_n hx hb d_Mo_identifier_27 rfl (lv_at hl 0 rfl) ?_
    refine lv_dup hx hb d_Mo_identifier_28 rfl ?_
    refine va_get (D := (dC, dI)) (ci := 6) (v := .int (q_at mo_3)) (C := R_Mo) (T := T_Mo) (N := 31) hx hb hts u_Mo hown hK hP 0 rfl rfl 6 (by decide) (hts _ L_927) (fun _ h9 => h9) rfl d_Mo_identifier_29 ?_
    refine lv_iconst (v := 1) hx hb d_Mo_identifier_32 (by decide) ?_
    refine lv_iadd hx hb d_Mo_identifier_33 ?_
    refine va_put (D := (dC, dI)) (ci := 6) (v := .int ((q_at mo_3) + 1)) (ty := .int) (C := R_Mo) (T := T_Mo) (N := 31) hx hb hts u_Mo ty_Mo tk_Mo nm_Mo hown hK hP hD hS 0 rfl rfl 6 (by decide) (hts _ L_927) (fun _ h9 => h9) rfl (by decide +kernel) rfl rfl (Nat.le_of_ble_eq_true rfl) d_Mo_identifier_34 (fun H locs hP hD hS => ?_)
    have hP : va_P (dC, dI) cls (wM cI cZ hm ma (s_at mo_3 ((q_at mo_3) + 1))) H := hP
    have hD : va_D A (wM cI cZ hm ma (s_at mo_3 ((q_at mo_3) + 1))) := hD
    refine lv_aload_n hx hb d_Mo_identifier_37 rfl (lv_at hl 0 rfl) ?_
    refine va_get (D := (dC, dI)) (ci := 6) (v := .ref (ma 2)) (C := R_Mo) (T := T_Mo) (N := 31) hx hb hts u_Mo hown hK hP 0 rfl rfl 3 (by decide) (hts _ L_924) (fun _ h9 => h9) rfl d_Mo_identifier_38 ?_
    refine lv_aload_n hx hb d_Mo_identifier_41 rfl (lv_at hl 0 rfl) ?_
    refine va_get (D := (dC, dI)) (ci := 6) (v := .int ((q_at mo_3) + 1)) (C := R_Mo) (T := T_Mo) (N := 31) hx hb hts u_Mo hown hK hP 0 rfl rfl 6 (by decide) (hts _ L_927) (fun _ h9 => h9) rfl d_Mo_identifier_42 ?_
    refine lv_iconst (v := 1) hx hb d_Mo_identifier_45 (by decide) ?_
    refine lv_isub hx hb d_Mo_identifier_46 ?_
    by_cases cb_4 : inb (((q_at mo_3) + 1) - 1) 1001
    case neg => exact absurd (by unfold f_Mo_identifier; rw [bndM_r w_1, if_pos c_2, bndM_r w_3, if_neg cb_4]) hg
    refine va_iald (D := (dC, dI)) hx hb hK hP 3 0 rfl rfl cb_4 d_Mo_identifier_47 ?_
    exact mr_iret (v := ((q_names mo_3) ((((q_at mo_3) + 1) - 1) : Int32).toNatClampNeg)) (mo := (s_at mo_3 ((q_at mo_3) + 1))) hx hb hr hlocks hK hP hD hS (by unfold f_Mo_identifier; rw [bndM_r w_1, if_pos c_2, bndM_r w_3, if_pos cb_4]) d_Mo_identifier_48
  · refine lv_aload_n hx hb d_Mo_identifier_8 rfl (lv_at hl 0 rfl) ?_
    refine lv_aload_n hx hb d_Mo_identifier_9 rfl (lv_at hl 0 rfl) ?_
    refine va_get (D := (dC, dI)) (ci := 6) (v := .int (q_strict mo_1)) (C := R_Mo) (T := T_Mo) (N := 31) hx hb hts u_Mo hown hK hP 0 rfl rfl 19 (by decide) (hts _ L_940) (fun _ h9 => h9) rfl d_Mo_identifier_10 ?_
    refine mr_Vi (g := (f_Mo_isReserved mo_1 (q_strict mo_1))) (As := [.int (q_strict mo_1)]) (rest := []) ⟨hx, hb, hml, hown, hts0⟩ (m_Mo_isReserved l hlt dC dI cI cZ sa rk hm ma mo_1 _ (q_strict mo_1) (fun z => hg (by unfold f_Mo_identifier; rw [bndM_r w_1, if_neg c_2, bndM_n z]))) hP hD hK hS hA hC hZ hnt hlocks L_1103 L_1105 L_66 L_90 L_1106 k_Mo_isReserved ⟨(by show _ ≤ 7; omega), (by show _ ≤ 102; omega)⟩ rfl rfl hl.1 (Nat.le_of_ble_eq_true rfl) d_Mo_identifier_13 rfl (fun q z => by unfold f_Mo_identifier; rw [bndM_r w_1, if_neg c_2, bndM_l z]) (fun r_5 mo_5 H locs w_5 hP hD hS => ?_)
    refine lv_if_eq (tgt := 27) hx hb d_Mo_identifier_16 (by decide) (fun c_6 => ?_) (fun c_6 => ?_)
    · refine lv_aload_n hx hb d_Mo_identifier_27 rfl (lv_at hl 0 rfl) ?_
      refine lv_dup hx hb d_Mo_identifier_28 rfl ?_
      refine va_get (D := (dC, dI)) (ci := 6) (v := .int (q_at mo_5)) (C := R_Mo) (T := T_Mo) (N := 31) hx hb hts u_Mo hown hK hP 0 rfl rfl 6 (by decide) (hts _ L_927) (fun _ h9 => h9) rfl d_Mo_identifier_29 ?_
      refine lv_iconst (v := 1) hx hb d_Mo_identifier_32 (by decide) ?_
      refine lv_iadd hx hb d_Mo_identifier_33 ?_
      refine va_put (D := (dC, dI)) (ci := 6) (v := .int ((q_at mo_5) + 1)) (ty := .int) (C := R_Mo) (T := T_Mo) (N := 31) hx hb hts u_Mo ty_Mo tk_Mo nm_Mo hown hK hP hD hS 0 rfl rfl 6 (by decide) (hts _ L_927) (fun _ h9 => h9) rfl (by decide +kernel) rfl rfl (Nat.le_of_ble_eq_true rfl) d_Mo_identifier_34 (fun H locs hP hD hS => ?_)
      have hP : va_P (dC, dI) cls (wM cI cZ hm ma (s_at mo_5 ((q_at mo_5) + 1))) H := hP
      have hD : va_D A (wM cI cZ hm ma (s_at mo_5 ((q_at mo_5) + 1))) := hD
      refine lv_aload_n hx hb d_Mo_identifier_37 rfl (lv_at hl 0 rfl) ?_
      refine va_get (D := (dC, dI)) (ci := 6) (v := .ref (ma 2)) (C := R_Mo) (T := T_Mo) (N := 31) hx hb hts u_Mo hown hK hP 0 rfl rfl 3 (by decide) (hts _ L_924) (fun _ h9 => h9) rfl d_Mo_identifier_38 ?_
      refine lv_aload_n hx hb d_Mo_identifier_41 rfl (lv_at hl 0 rfl) ?_
      refine va_get (D := (dC, dI)) (ci := 6) (v := .int ((q_at mo_5) + 1)) (C := R_Mo) (T := T_Mo) (N := 31) hx hb hts u_Mo hown hK hP 0 rfl rfl 6 (by decide) (hts _ L_927) (fun _ h9 => h9) rfl d_Mo_identifier_42 ?_
      refine lv_iconst (v := 1) hx hb d_Mo_identifier_45 (by decide) ?_
      refine lv_isub hx hb d_Mo_identifier_46 ?_
      by_cases cb_7 : inb (((q_at mo_5) + 1) - 1) 1001
      case neg => exact absurd (by unfold f_Mo_identifier; rw [bndM_r w_1, if_neg c_2, bndM_r w_5, if_pos c_6, if_neg cb_7]) hg
      refine va_iald (D := (dC, dI)) hx hb hK hP 3 0 rfl rfl cb_7 d_Mo_identifier_47 ?_
      exact mr_iret (v := ((q_names mo_5) ((((q_at mo_5) + 1) - 1) : Int32).toNatClampNeg)) (mo := (s_at mo_5 ((q_at mo_5) + 1))) hx hb hr hlocks hK hP hD hS (by unfold f_Mo_identifier; rw [bndM_r w_1, if_neg c_2, bndM_r w_5, if_pos c_6, if_pos cb_7]) d_Mo_identifier_48
    · refine lv_aload_n hx hb d_Mo_identifier_19 rfl (lv_at hl 0 rfl) ?_
      refine lv_aload_n hx hb d_Mo_identifier_20 rfl (lv_at hl 0 rfl) ?_
      refine va_get (D := (dC, dI)) (ci := 6) (v := .int (q_at mo_5)) (C := R_Mo) (T := T_Mo) (N := 31) hx hb hts u_Mo hown hK hP 0 rfl rfl 6 (by decide) (hts _ L_927) (fun _ h9 => h9) rfl d_Mo_identifier_21 ?_
      refine mr_Vv (g := (f_Mo_refuse mo_5 (q_at mo_5))) (As := [.int (q_at mo_5)]) (rest := []) ⟨hx, hb, hml, hown, hts0⟩ (m_Mo_refuse l hlt dC dI cI cZ sa rk hm ma mo_5 _ (q_at mo_5) ) hP hD hK hS hA hC hZ hnt hlocks L_1072 L_1074 L_64 L_90 L_1075 k_Mo_refuse ⟨(by show _ ≤ 7; omega), (by show _ ≤ 102; omega)⟩ rfl rfl hl.1 (Nat.le_of_ble_eq_true rfl) d_Mo_identifier_24 rfl (fun q z => by unfold f_Mo_identifier; rw [bndM_r w_1, if_neg c_2, bndM_r w_5, if_neg c_6, bndM_l z]) (fun mo_8 H locs w_8 hP hD hS => ?_)
      refine lv_aload_n hx hb d_Mo_identifier_27 rfl (lv_at hl 0 rfl) ?_
      refine lv_dup hx hb d_Mo_identifier_28 rfl ?_
      refine va_get (D := (dC, dI)) (ci := 6) (v := .int (q_at mo_8)) (C := R_Mo) (T := T_Mo) (N := 31) hx hb hts u_Mo hown hK hP 0 rfl rfl 6 (by decide) (hts _ L_927) (fun _ h9 => h9) rfl d_Mo_identifier_29 ?_
      refine lv_iconst (v := 1) hx hb d_Mo_identifier_32 (by decide) ?_
      refine lv_iadd hx hb d_Mo_identifier_33 ?_
      refine va_put (D := (dC, dI)) (ci := 6) (v := .int ((q_at mo_8) + 1)) (ty := .int) (C := R_Mo) (T := T_Mo) (N := 31) hx hb hts u_Mo ty_Mo tk_Mo nm_Mo hown hK hP hD hS 0 rfl rfl 6 (by decide) (hts _ L_927) (fun _ h9 => h9) rfl (by decide +kernel) rfl rfl (Nat.le_of_ble_eq_true rfl) d_Mo_identifier_34 (fun H locs hP hD hS => ?_)
      have hP : va_P (dC, dI) cls (wM cI cZ hm ma (s_at mo_8 ((q_at mo_8) + 1))) H := hP
      have hD : va_D A (wM cI cZ hm ma (s_at mo_8 ((q_at mo_8) + 1))) := hD
      refine lv_aload_n hx hb d_Mo_identifier_37 rfl (lv_at hl 0 rfl) ?_
      refine va_get (D := (dC, dI)) (ci := 6) (v := .ref (ma 2)) (C := R_Mo) (T := T_Mo) (N := 31) hx hb hts u_Mo hown hK hP 0 rfl rfl 3 (by decide) (hts _ L_924) (fun _ h9 => h9) rfl d_Mo_identifier_38 ?_
      refine lv_aload_n hx hb d_Mo_identifier_41 rfl (lv_at hl 0 rfl) ?_
      refine va_get (D := (dC, dI)) (ci := 6) (v := .int ((q_at mo_8) + 1)) (C := R_Mo) (T := T_Mo) (N := 31) hx hb hts u_Mo hown hK hP 0 rfl rfl 6 (by decide) (hts _ L_927) (fun _ h9 => h9) rfl d_Mo_identifier_42 ?_
      refine lv_iconst (v := 1) hx hb d_Mo_identifier_45 (by decide) ?_
      refine lv_isub hx hb d_Mo_identifier_46 ?_
      by_cases cb_9 : inb (((q_at mo_8) + 1) - 1) 1001
      case neg => exact absurd (by unfold f_Mo_identifier; rw [bndM_r w_1, if_neg c_2, bndM_r w_5, if_neg c_6, bndM_r w_8, if_neg cb_9]) hg
      refine va_iald (D := (dC, dI)) hx hb hK hP 3 0 rfl rfl cb_9 d_Mo_identifier_47 ?_
      exact mr_iret (v := ((q_names mo_8) ((((q_at mo_8) + 1) - 1) : Int32).toNatClampNeg)) (mo := (s_at mo_8 ((q_at mo_8) + 1))) hx hb hr hlocks hK hP hD hS (by unfold f_Mo_identifier; rw [bndM_r w_1, if_neg c_2, bndM_r w_5, if_neg c_6, bndM_r w_8, if_pos cb_9]) d_Mo_identifier_48
def f_Mo_declared (mo : MO)  : Rm := (bndM (f_Mo_isKind mo 1) (fun r_1 mo_1 => (if r_1 = 0 then (bndM (f_Mo_identifier mo_1) (fun r_3 mo_3 => (if (q_strict mo_3) = 0 then (if (q_loose mo_3) = 0 then (some (.inr (r_3, (s_loose mo_3 0)))) else (some (.inr (r_3, (s_loose mo_3 1))))) else (if 2 ≤ r_3 then (if (q_loose mo_3) = 0 then (some (.inr (r_3, (s_loose mo_3 0)))) else (some (.inr (r_3, (s_loose mo_3 1))))) else (bndM (f_Mo_refuse mo_3 ((q_at mo_3) - 1)) (fun _ mo_8 => (if (q_loose mo_8) = 0 then (some (.inr (r_3, (s_loose mo_8 0)))) else (some (.inr (r_3, (s_loose mo_8 1))))))))))) else (bndM (f_Mo_isReserved mo_1 1) (fun r_10 mo_10 => (if r_10 = 0 then (if inb (q_at mo_10) 1001 then (if 2 ≤ ((q_names mo_10) ((q_at mo_10) : Int32).toNatClampNeg) then (bndM (f_Mo_identifier mo_10) (fun r_21 mo_21 => (if (q_strict mo_21) = 0 then (if (q_loose mo_21) = 0 then (some (.inr (r_21, (s_loose mo_21 0)))) else (some (.inr (r_21, (s_loose mo_21 1))))) else (if 2 ≤ r_21 then (if (q_loose mo_21) = 0 then (some (.inr (r_21, (s_loose mo_21 0)))) else (some (.inr (r_21, (s_loose mo_21 1))))) else (bndM (f_Mo_refuse mo_21 ((q_at mo_21) - 1)) (fun _ mo_26 => (if (q_loose mo_26) = 0 then (some (.inr (r_21, (s_loose mo_26 0)))) else (some (.inr (r_21, (s_loose mo_26 1))))))))))) else (bndM (f_Mo_identifier mo_10) (fun r_28 mo_28 => (if (q_strict mo_28) = 0 then (if (q_loose mo_28) = 0 then (some (.inr (r_28, (s_loose mo_28 1)))) else (some (.inr (r_28, (s_loose mo_28 1))))) else (if 2 ≤ r_28 then (if (q_loose mo_28) = 0 then (some (.inr (r_28, (s_loose mo_28 1)))) else (some (.inr (r_28, (s_loose mo_28 1))))) else (bndM (f_Mo_refuse mo_28 ((q_at mo_28) - 1)) (fun _ mo_33 => (if (q_loose mo_33) = 0 then (some (.inr (r_28, (s_loose mo_33 1)))) else (some (.inr (r_28, (s_loose mo_33 1)))))))))))) else none) else (bndM (f_Mo_identifier mo_10) (fun r_12 mo_12 => (if (q_strict mo_12) = 0 then (if (q_loose mo_12) = 0 then (some (.inr (r_12, (s_loose mo_12 1)))) else (some (.inr (r_12, (s_loose mo_12 1))))) else (if 2 ≤ r_12 then (if (q_loose mo_12) = 0 then (some (.inr (r_12, (s_loose mo_12 1)))) else (some (.inr (r_12, (s_loose mo_12 1))))) else (bndM (f_Mo_refuse mo_12 ((q_at mo_12) - 1)) (fun _ mo_17 => (if (q_loose mo_17) = 0 then (some (.inr (r_12, (s_loose mo_17 1)))) else (some (.inr (r_12, (s_loose mo_17 1)))))))))))))))))
set_option maxRecDepth 100000 in
set_option maxHeartbeats 4000000 in
theorem m_Mo_declared (l : Launch) (hlt : l.stackTraces = false) (dC : Nat → ClassId) (dI : Nat → Nat → Nat) (cI cZ : ClassId) (sa rk hm : Nat) (ma : Nat → Nat)  (mo : MO) (sz : Nat)  (hg : (f_Mo_declared mo) ≠ none) : cXi l y_Mo_declared c_Mo_declared 3 .int (8) (122) (dC, dI) cI cZ sa rk hm ma mo sz [.ref hm] (f_Mo_declared mo) := by
  refine vx_ofW (cc := c_Mo_declared) (maxL := 3) (ret := (some .int)) (by decide) rfl ?_
  intro p e s m args below meth c s₁ B hml hnt hv
  obtain ⟨rfl, hsz, hP, hK, hD0, hC, hZ⟩ := hv
  have hx := B.exec
  have hb := B.bytes
  have hr := B.returns
  have hts0 := atoms_spec (ws := wy y_Mo_declared c_Mo_declared 3 (some .int)) B.pre
  have hts := htsL hts0
  have hown : s.vm.findClass R_Mo = some m.cls := findClass_of_methodNamed B.named
  have hlocks := B.notSynchronized
  subst hsz
  have hD := hD0.self (sz := s.heap.size)
  generalize hAe : va_A (wM cI cZ hm ma mo) s.heap.size = A at hD hZ ⊢
  have hA : ∀ q : Nat, s.heap.size ≤ q → A q := fun q h => by rw [← hAe]; exact Or.inr h
  have hS : va_S A s.heap s.heap [] := va_S.rf
  have hl := lv_entry ([.ref hm]) (n := 3) (Nat.le_of_ble_eq_true rfl)
  rw [lg_entry_eq]
  generalize (lg_sl ([.ref hm]) ++ List.replicate (3 - (lg_sl ([.ref hm])).length) Slot.unset).toArray = ls at hl ⊢
  have hl : lv_has ls 3 [(0, .ref hm)] := hl
  refine lv_aload_n hx hb d_Mo_declared_0 rfl (lv_at hl 0 rfl) ?_
  refine lv_iconst (v := 1) hx hb d_Mo_declared_1 (by decide) ?_
  refine mr_Vi (g := (f_Mo_isKind mo 1)) (As := [.int 1]) (rest := []) ⟨hx, hb, hml, hown, hts0⟩ (m_Mo_isKind l hlt dC dI cI cZ sa rk hm ma mo _ 1 (fun z => hg (by unfold f_Mo_declared; rw [bndM_n z]))) hP hD hK hS hA hC hZ hnt hlocks L_1057 L_1059 L_61 L_90 L_1060 k_Mo_isKind ⟨(by show _ ≤ 8; omega), (by show _ ≤ 122; omega)⟩ rfl rfl hl.1 (Nat.le_of_ble_eq_true rfl) d_Mo_declared_2 rfl (fun q z => by unfold f_Mo_declared; rw [bndM_l z]) (fun r_1 mo_1 H locs w_1 hP hD hS => ?_)
  refine lv_if_eq (tgt := 33) hx hb d_Mo_declared_5 (by decide) (fun c_2 => ?_) (fun c_2 => ?_)
  · refine lv_iconst (v := 0) hx hb d_Mo_declared_33 (by decide) ?_
    refine lv_istore_n (lv' := [(1, .int 0), (0, .ref hm)]) hx hb d_Mo_declared_34 rfl hl (by decide) rfl (fun ls hl => ?_)
    refine lv_aload_n hx hb d_Mo_declared_35 rfl (lv_at hl 1 rfl) ?_
    refine mr_Vi (g := (f_Mo_identifier mo_1)) (As := []) (rest := []) ⟨hx, hb, hml, hown, hts0⟩ (m_Mo_identifier l hlt dC dI cI cZ sa rk hm ma mo_1 _  (fun z => hg (by unfold f_Mo_declared; rw [bndM_r w_1, if_pos c_2, bndM_n z]))) hP hD hK hS hA hC hZ hnt hlocks L_1107 L_1109 L_67 L_90 L_1110 k_Mo_identifier ⟨(by show _ ≤ 8; omega), (by show _ ≤ 122; omega)⟩ rfl rfl hl.1 (Nat.le_of_ble_eq_true rfl) d_Mo_declared_36 rfl (fun q z => by unfold f_Mo_declared; rw [bndM_r w_1, if_pos c_2, bndM_l z]) (fun r_3 mo_3 H locs w_3 hP hD hS => ?_)
    refine lv_istore_n (lv' := [(2, .int r_3), (1, .int 0), (0, .ref hm)]) hx hb d_Mo_declared_39 rfl hl (by decide) rfl (fun ls hl => ?_)
    refine lv_aload_n hx hb d_Mo_declared_40 rfl (lv_at hl 2 rfl) ?_
    refine va_get (D := (dC, dI)) (ci := 6) (v := .int (q_strict mo_3)) (C := R_Mo) (T := T_Mo) (N := 31) hx hb hts u_Mo hown hK hP 0 rfl rfl 19 (by decide) (hts _ L_940) (fun _ h9 => h9) rfl d_Mo_declared_41 ?_
    refine lv_if_eq (tgt := 62) hx hb d_Mo_declared_44 (by decide) (fun c_4 => ?_) (fun c_4 => ?_)
    · refine lv_aload_n hx hb d_Mo_declared_62 rfl (lv_at hl 2 rfl) ?_
      refine lv_aload_n hx hb d_Mo_declared_63 rfl (lv_at hl 2 rfl) ?_
      refine va_get (D := (dC, dI)) (ci := 6) (v := .int (q_loose mo_3)) (C := R_Mo) (T := T_Mo) (N := 31) hx hb hts u_Mo hown hK hP 0 rfl rfl 21 (by decide) (hts _ L_942) (fun _ h9 => h9) rfl d_Mo_declared_64 ?_
      refine lv_if_ne (tgt := 74) hx hb d_Mo_declared_67 (by decide) (fun c_5 => ?_) (fun c_5 => ?_)
      · refine lv_iconst (v := 1) hx hb d_Mo_declared_74 (by decide) ?_
        refine lv_goto (tgt := 79) hx hb d_Mo_declared_75 (by decide) ?_
        refine va_put (D := (dC, dI)) (ci := 6) (v := .int 1) (ty := .boolean) (C := R_Mo) (T := T_Mo) (N := 31) hx hb hts u_Mo ty_Mo tk_Mo nm_Mo hown hK hP hD hS 0 rfl rfl 21 (by decide) (hts _ L_942) (fun _ h9 => h9) rfl (by decide +kernel) rfl rfl (Nat.le_of_ble_eq_true rfl) d_Mo_declared_79 (fun H locs hP hD hS => ?_)
        have hP : va_P (dC, dI) cls (wM cI cZ hm ma (s_loose mo_3 1)) H := hP
        have hD : va_D A (wM cI cZ hm ma (s_loose mo_3 1)) := hD
        refine lv_iload_n hx hb d_Mo_declared_82 rfl (lv_at hl 0 rfl) ?_
        exact mr_iret (v := r_3) (mo := (s_loose mo_3 1)) hx hb hr hlocks hK hP hD hS (by unfold f_Mo_declared; rw [bndM_r w_1, if_pos c_2, bndM_r w_3, if_pos c_4, if_neg c_5]) d_Mo_declared_83
      · refine lv_iload_n hx hb d_Mo_declared_70 rfl (lv_at hl 1 rfl) ?_
        refine lv_if_eq (tgt := 78) hx hb d_Mo_declared_71 (by decide) (fun _ => ?_) (fun q9 => absurd q9 (by decide))
        refine lv_iconst (v := 0) hx hb d_Mo_declared_78 (by decide) ?_
        refine va_put (D := (dC, dI)) (ci := 6) (v := .int 0) (ty := .boolean) (C := R_Mo) (T := T_Mo) (N := 31) hx hb hts u_Mo ty_Mo tk_Mo nm_Mo hown hK hP hD hS 0 rfl rfl 21 (by decide) (hts _ L_942) (fun _ h9 => h9) rfl (by decide +kernel) rfl rfl (Nat.le_of_ble_eq_true rfl) d_Mo_declared_79 (fun H locs hP hD hS => ?_)
        have hP : va_P (dC, dI) cls (wM cI cZ hm ma (s_loose mo_3 0)) H := hP
        have hD : va_D A (wM cI cZ hm ma (s_loose mo_3 0)) := hD
        refine lv_iload_n hx hb d_Mo_declared_82 rfl (lv_at hl 0 rfl) ?_
        exact mr_iret (v := r_3) (mo := (s_loose mo_3 0)) hx hb hr hlocks hK hP hD hS (by unfold f_Mo_declared; rw [bndM_r w_1, if_pos c_2, bndM_r w_3, if_pos c_4, if_pos c_5]) d_Mo_declared_83
    · refine lv_iload_n hx hb d_Mo_declared_47 rfl (lv_at hl 0 rfl) ?_
      refine lv_iconst (v := 2) hx hb d_Mo_declared_48 (by decide) ?_
      refine lv_icmp_ge (tgt := 62) hx hb d_Mo_declared_49 (by decide) (fun c_6 => ?_) (fun c_6 => ?_)
      · refine lv_aload_n hx hb d_Mo_declared_62 rfl (lv_at hl 2 rfl) ?_
        refine lv_aload_n hx hb d_Mo_declared_63 rfl (lv_at hl 2 rfl) ?_
        refine va_get (D := (dC, dI)) (ci := 6) (v := .int (q_loose mo_3)) (C := R_Mo) (T := T_Mo) (N := 31) hx hb hts u_Mo hown hK hP 0 rfl rfl 21 (by decide) (hts _ L_942) (fun _ h9 => h9) rfl d_Mo_declared_64 ?_
        refine lv_if_ne (tgt := 74) hx hb d_Mo_declared_67 (by decide) (fun c_7 => ?_) (fun c_7 => ?_)
        · refine lv_iconst (v := 1) hx hb d_Mo_declared_74 (by decide) ?_
          refine lv_goto (tgt := 79) hx hb d_Mo_declared_75 (by decide) ?_
          refine va_put (D := (dC, dI)) (ci := 6) (v := .int 1) (ty := .boolean) (C := R_Mo) (T := T_Mo) (N := 31) hx hb hts u_Mo ty_Mo tk_Mo nm_Mo hown hK hP hD hS 0 rfl rfl 21 (by decide) (hts _ L_942) (fun _ h9 => h9) rfl (by decide +kernel) rfl rfl (Nat.le_of_ble_eq_true rfl) d_Mo_declared_79 (fun H locs hP hD hS => ?_)
          have hP : va_P (dC, dI) cls (wM cI cZ hm ma (s_loose mo_3 1)) H := hP
          have hD : va_D A (wM cI cZ hm ma (s_loose mo_3 1)) := hD
          refine lv_iload_n hx hb d_Mo_declared_82 rfl (lv_at hl 0 rfl) ?_
          exact mr_iret (v := r_3) (mo := (s_loose mo_3 1)) hx hb hr hlocks hK hP hD hS (by unfold f_Mo_declared; rw [bndM_r w_1, if_pos c_2, bndM_r w_3, if_neg c_4, if_pos c_6, if_neg c_7]) d_Mo_declared_83
        · refine lv_iload_n hx hb d_Mo_declared_70 rfl (lv_at hl 1 rfl) ?_
          refine lv_if_eq (tgt := 78) hx hb d_Mo_declared_71 (by decide) (fun _ => ?_) (fun q9 => absurd q9 (by decide))
          refine lv_iconst (v := 0) hx hb d_Mo_declared_78 (by decide) ?_
          refine va_put (D := (dC, dI)) (ci := 6) (v := .int 0) (ty := .boolean) (C := R_Mo) (T := T_Mo) (N := 31) hx hb hts u_Mo ty_Mo tk_Mo nm_Mo hown hK hP hD hS 0 rfl rfl 21 (by decide) (hts _ L_942) (fun _ h9 => h9) rfl (by decide +kernel) rfl rfl (Nat.le_of_ble_eq_true rfl) d_Mo_declared_79 (fun H locs hP hD hS => ?_)
          have hP : va_P (dC, dI) cls (wM cI cZ hm ma (s_loose mo_3 0)) H := hP
          have hD : va_D A (wM cI cZ hm ma (s_loose mo_3 0)) := hD
          refine lv_iload_n hx hb d_Mo_declared_82 rfl (lv_at hl 0 rfl) ?_
          exact mr_iret (v := r_3) (mo := (s_loose mo_3 0)) hx hb hr hlocks hK hP hD hS (by unfold f_Mo_declared; rw [bndM_r w_1, if_pos c_2, bndM_r w_3, if_neg c_4, if_pos c_6, if_pos c_7]) d_Mo_declared_83
      · refine lv_aload_n hx hb d_Mo_declared_52 rfl (lv_at hl 2 rfl) ?_
        refine lv_aload_n hx hb d_Mo_declared_53 rfl (lv_at hl 2 rfl) ?_
        refine va_get (D := (dC, dI)) (ci := 6) (v := .int (q_at mo_3)) (C := R_Mo) (T := T_Mo) (N := 31) hx hb hts u_Mo hown hK hP 0 rfl rfl 6 (by decide) (hts _ L_927) (fun _ h9 => h9) rfl d_Mo_declared_54 ?_
        refine lv_iconst (v := 1) hx hb d_Mo_declared_57 (by decide) ?_
        refine lv_isub hx hb d_Mo_declared_58 ?_
        refine mr_Vv (g := (f_Mo_refuse mo_3 ((q_at mo_3) - 1))) (As := [.int ((q_at mo_3) - 1)]) (rest := []) ⟨hx, hb, hml, hown, hts0⟩ (m_Mo_refuse l hlt dC dI cI cZ sa rk hm ma mo_3 _ ((q_at mo_3) - 1) ) hP hD hK hS hA hC hZ hnt hlocks L_1072 L_1074 L_64 L_90 L_1075 k_Mo_refuse ⟨(by show _ ≤ 8; omega), (by show _ ≤ 122; omega)⟩ rfl rfl hl.1 (Nat.le_of_ble_eq_true rfl) d_Mo_declared_59 rfl (fun q z => by unfold f_Mo_declared; rw [bndM_r w_1, if_pos c_2, bndM_r w_3, if_neg c_4, if_neg c_6, bndM_l z]) (fun mo_8 H locs w_8 hP hD hS => ?_)
        refine lv_aload_n hx hb d_Mo_declared_62 rfl (lv_at hl 2 rfl) ?_
        refine lv_aload_n hx hb d_Mo_declared_63 rfl (lv_at hl 2 rfl) ?_
        refine va_get (D := (dC, dI)) (ci := 6) (v := .int (q_loose mo_8)) (C := R_Mo) (T := T_Mo) (N := 31) hx hb hts u_Mo hown hK hP 0 rfl rfl 21 (by decide) (hts _ L_942) (fun _ h9 => h9) rfl d_Mo_declared_64 ?_
        refine lv_if_ne (tgt := 74) hx hb d_Mo_declared_67 (by decide) (fun c_9 => ?_) (fun c_9 => ?_)
        · refine lv_iconst (v := 1) hx hb d_Mo_declared_74 (by decide) ?_
          refine lv_goto (tgt := 79) hx hb d_Mo_declared_75 (by decide) ?_
          refine va_put (D := (dC, dI)) (ci := 6) (v := .int 1) (ty := .boolean) (C := R_Mo) (T := T_Mo) (N := 31) hx hb hts u_Mo ty_Mo tk_Mo nm_Mo hown hK hP hD hS 0 rfl rfl 21 (by decide) (hts _ L_942) (fun _ h9 => h9) rfl (by decide +kernel) rfl rfl (Nat.le_of_ble_eq_true rfl) d_Mo_declared_79 (fun H locs hP hD hS => ?_)
          have hP : va_P (dC, dI) cls (wM cI cZ hm ma (s_loose mo_8 1)) H := hP
          have hD : va_D A (wM cI cZ hm ma (s_loose mo_8 1)) := hD
          refine lv_iload_n hx hb d_Mo_declared_82 rfl (lv_at hl 0 rfl) ?_
          exact mr_iret (v := r_3) (mo := (s_loose mo_8 1)) hx hb hr hlocks hK hP hD hS (by unfold f_Mo_declared; rw [bndM_r w_1, if_pos c_2, bndM_r w_3, if_neg c_4, if_neg c_6, bndM_r w_8, if_neg c_9]) d_Mo_declared_83
        · refine lv_iload_n hx hb d_Mo_declared_70 rfl (lv_at hl 1 rfl) ?_
          refine lv_if_eq (tgt := 78) hx hb d_Mo_declared_71 (by decide) (fun _ => ?_) (fun q9 => absurd q9 (by decide))
          refine lv_iconst (v := 0) hx hb d_Mo_declared_78 (by decide) ?_
          refine va_put (D := (dC, dI)) (ci := 6) (v := .int 0) (ty := .boolean) (C := R_Mo) (T := T_Mo) (N := 31) hx hb hts u_Mo ty_Mo tk_Mo nm_Mo hown hK hP hD hS 0 rfl rfl 21 (by decide) (hts _ L_942) (fun _ h9 => h9) rfl (by decide +kernel) rfl rfl (Nat.le_of_ble_eq_true rfl) d_Mo_declared_79 (fun H locs hP hD hS => ?_)
          have hP : va_P (dC, dI) cls (wM cI cZ hm ma (s_loose mo_8 0)) H := hP
          have hD : va_D A (wM cI cZ hm ma (s_loose mo_8 0)) := hD
          refine lv_iload_n hx hb d_Mo_declared_82 rfl (lv_at hl 0 rfl) ?_
          exact mr_iret (v := r_3) (mo := (s_loose mo_8 0)) hx hb hr hlocks hK hP hD hS (by unfold f_Mo_declared; rw [bndM_r w_1, if_pos c_2, bndM_r w_3, if_neg c_4, if_neg c_6, bndM_r w_8, if_pos c_9]) d_Mo_declared_83
  · refine lv_aload_n hx hb d_Mo_declared_8 rfl (lv_at hl 0 rfl) ?_
    refine lv_iconst (v := 1) hx hb d_Mo_declared_9 (by decide) ?_
    refine mr_Vi (g := (f_Mo_isReserved mo_1 1)) (As := [.int 1]) (rest := []) ⟨hx, hb, hml, hown, hts0⟩ (m_Mo_isReserved l hlt dC dI cI cZ sa rk hm ma mo_1 _ 1 (fun z => hg (by unfold f_Mo_declared; rw [bndM_r w_1, if_neg c_2, bndM_n z]))) hP hD hK hS hA hC hZ hnt hlocks L_1103 L_1105 L_66 L_90 L_1106 k_Mo_isReserved ⟨(by show _ ≤ 8; omega), (by show _ ≤ 122; omega)⟩ rfl rfl hl.1 (Nat.le_of_ble_eq_true rfl) d_Mo_declared_10 rfl (fun q z => by unfold f_Mo_declared; rw [bndM_r w_1, if_neg c_2, bndM_l z]) (fun r_10 mo_10 H locs w_10 hP hD hS => ?_)
    refine lv_if_ne (tgt := 29) hx hb d_Mo_declared_13 (by decide) (fun c_11 => ?_) (fun c_11 => ?_)
    · refine lv_iconst (v := 1) hx hb d_Mo_declared_29 (by decide) ?_
      refine lv_goto (tgt := 34) hx hb d_Mo_declared_30 (by decide) ?_
      refine lv_istore_n (lv' := [(1, .int 1), (0, .ref hm)]) hx hb d_Mo_declared_34 rfl hl (by decide) rfl (fun ls hl => ?_)
      refine lv_aload_n hx hb d_Mo_declared_35 rfl (lv_at hl 1 rfl) ?_
      refine mr_Vi (g := (f_Mo_identifier mo_10)) (As := []) (rest := []) ⟨hx, hb, hml, hown, hts0⟩ (m_Mo_identifier l hlt dC dI cI cZ sa rk hm ma mo_10 _  (fun z => hg (by unfold f_Mo_declared; rw [bndM_r w_1, if_neg c_2, bndM_r w_10, if_neg c_11, bndM_n z]))) hP hD hK hS hA hC hZ hnt hlocks L_1107 L_1109 L_67 L_90 L_1110 k_Mo_identifier ⟨(by show _ ≤ 8; omega), (by show _ ≤ 122; omega)⟩ rfl rfl hl.1 (Nat.le_of_ble_eq_true rfl) d_Mo_declared_36 rfl (fun q z => by unfold f_Mo_declared; rw [bndM_r w_1, if_neg c_2, bndM_r w_10, if_neg c_11, bndM_l z]) (fun r_12 mo_12 H locs w_12 hP hD hS => ?_)
      refine lv_istore_n (lv' := [(2, .int r_12), (1, .int 1), (0, .ref hm)]) hx hb d_Mo_declared_39 rfl hl (by decide) rfl (fun ls hl => ?_)
      refine lv_aload_n hx hb d_Mo_declared_40 rfl (lv_at hl 2 rfl) ?_
      refine va_get (D := (dC, dI)) (ci := 6) (v := .int (q_strict mo_12)) (C := R_Mo) (T := T_Mo) (N := 31) hx hb hts u_Mo hown hK hP 0 rfl rfl 19 (by decide) (hts _ L_940) (fun _ h9 => h9) rfl d_Mo_declared_41 ?_
      refine lv_if_eq (tgt := 62) hx hb d_Mo_declared_44 (by decide) (fun c_13 => ?_) (fun c_13 => ?_)
      · refine lv_aload_n hx hb d_Mo_declared_62 rfl (lv_at hl 2 rfl) ?_
        refine lv_aload_n hx hb d_Mo_declared_63 rfl (lv_at hl 2 rfl) ?_
        refine va_get (D := (dC, dI)) (ci := 6) (v := .int (q_loose mo_12)) (C := R_Mo) (T := T_Mo) (N := 31) hx hb hts u_Mo hown hK hP 0 rfl rfl 21 (by decide) (hts _ L_942) (fun _ h9 => h9) rfl d_Mo_declared_64 ?_
        refine lv_if_ne (tgt := 74) hx hb d_Mo_declared_67 (by decide) (fun c_14 => ?_) (fun c_14 => ?_)
        · refine lv_iconst (v := 1) hx hb d_Mo_declared_74 (by decide) ?_
          refine lv_goto (tgt := 79) hx hb d_Mo_declared_75 (by decide) ?_
          refine va_put (D := (dC, dI)) (ci := 6) (v := .int 1) (ty := .boolean) (C := R_Mo) (T := T_Mo) (N := 31) hx hb hts u_Mo ty_Mo tk_Mo nm_Mo hown hK hP hD hS 0 rfl rfl 21 (by decide) (hts _ L_942) (fun _ h9 => h9) rfl (by decide +kernel) rfl rfl (Nat.le_of_ble_eq_true rfl) d_Mo_declared_79 (fun H locs hP hD hS => ?_)
          have hP : va_P (dC, dI) cls (wM cI cZ hm ma (s_loose mo_12 1)) H := hP
          have hD : va_D A (wM cI cZ hm ma (s_loose mo_12 1)) := hD
          refine lv_iload_n hx hb d_Mo_declared_82 rfl (lv_at hl 0 rfl) ?_
          exact mr_iret (v := r_12) (mo := (s_loose mo_12 1)) hx hb hr hlocks hK hP hD hS (by unfold f_Mo_declared; rw [bndM_r w_1, if_neg c_2, bndM_r w_10, if_neg c_11, bndM_r w_12, if_pos c_13, if_neg c_14]) d_Mo_declared_83
        · refine lv_iload_n hx hb d_Mo_declared_70 rfl (lv_at hl 1 rfl) ?_
          refine lv_if_eq (tgt := 78) hx hb d_Mo_declared_71 (by decide) (fun q9 => absurd q9 (by decide)) (fun _ => ?_)
          refine lv_iconst (v := 1) hx hb d_Mo_declared_74 (by decide) ?_
          refine lv_goto (tgt := 79) hx hb d_Mo_declared_75 (by decide) ?_
          refine va_put (D := (dC, dI)) (ci := 6) (v := .int 1) (ty := .boolean) (C := R_Mo) (T := T_Mo) (N := 31) hx hb hts u_Mo ty_Mo tk_Mo nm_Mo hown hK hP hD hS 0 rfl rfl 21 (by decide) (hts _ L_942) (fun _ h9 => h9) rfl (by decide +kernel) rfl rfl (Nat.le_of_ble_eq_true rfl) d_Mo_declared_79 (fun H locs hP hD hS => ?_)
          have hP : va_P (dC, dI) cls (wM cI cZ hm ma (s_loose mo_12 1)) H := hP
          have hD : va_D A (wM cI cZ hm ma (s_loose mo_12 1)) := hD
          refine lv_iload_n hx hb d_Mo_declared_82 rfl (lv_at hl 0 rfl) ?_
          exact mr_iret (v := r_12) (mo := (s_loose mo_12 1)) hx hb hr hlocks hK hP hD hS (by unfold f_Mo_declared; rw [bndM_r w_1, if_neg c_2, bndM_r w_10, if_neg c_11, bndM_r w_12, if_pos c_13, if_pos c_14]) d_Mo_declared_83
      · refine lv_iload_n hx hb d_Mo_declared_47 rfl (lv_at hl 0 rfl) ?_
        refine lv_iconst (v := 2) hx hb d_Mo_declared_48 (by decide) ?_
        refine lv_icmp_ge (tgt := 62) hx hb d_Mo_declared_49 (by decide) (fun c_15 => ?_) (fun c_15 => ?_)
        · refine lv_aload_n hx hb d_Mo_declared_62 rfl (lv_at hl 2 rfl) ?_
          refine lv_aload_n hx hb d_Mo_declared_63 rfl (lv_at hl 2 rfl) ?_
          refine va_get (D := (dC, dI)) (ci := 6) (v := .int (q_loose mo_12)) (C := R_Mo) (T := T_Mo) (N := 31) hx hb hts u_Mo hown hK hP 0 rfl rfl 21 (by decide) (hts _ L_942) (fun _ h9 => h9) rfl d_Mo_declared_64 ?_
          refine lv_if_ne (tgt := 74) hx hb d_Mo_declared_67 (by decide) (fun c_16 => ?_) (fun c_16 => ?_)
          · refine lv_iconst (v := 1) hx hb d_Mo_declared_74 (by decide) ?_
            refine lv_goto (tgt := 79) hx hb d_Mo_declared_75 (by decide) ?_
            refine va_put (D := (dC, dI)) (ci := 6) (v := .int 1) (ty := .boolean) (C := R_Mo) (T := T_Mo) (N := 31) hx hb hts u_Mo ty_Mo tk_Mo nm_Mo hown hK hP hD hS 0 rfl rfl 21 (by decide) (hts _ L_942) (fun _ h9 => h9) rfl (by decide +kernel) rfl rfl (Nat.le_of_ble_eq_true rfl) d_Mo_declared_79 (fun H locs hP hD hS => ?_)
            have hP : va_P (dC, dI) cls (wM cI cZ hm ma (s_loose mo_12 1)) H := hP
            have hD : va_D A (wM cI cZ hm ma (s_loose mo_12 1)) := hD
            refine lv_iload_n hx hb d_Mo_declared_82 rfl (lv_at hl 0 rfl) ?_
            exact mr_iret (v := r_12) (mo := (s_loose mo_12 1)) hx hb hr hlocks hK hP hD hS (by unfold f_Mo_declared; rw [bndM_r w_1, if_neg c_2, bndM_r w_10, if_neg c_11, bndM_r w_12, if_neg c_13, if_pos c_15, if_neg c_16]) d_Mo_declared_83
          · refine lv_iload_n hx hb d_Mo_declared_70 rfl (lv_at hl 1 rfl) ?_
            refine lv_if_eq (tgt := 78) hx hb d_Mo_declared_71 (by decide) (fun q9 => absurd q9 (by decide)) (fun _ => ?_)
            refine lv_iconst (v := 1) hx hb d_Mo_declared_74 (by decide) ?_
            refine lv_goto (tgt := 79) hx hb d_Mo_declared_75 (by decide) ?_
            refine va_put (D := (dC, dI)) (ci := 6) (v := .int 1) (ty := .boolean) (C := R_Mo) (T := T_Mo) (N := 31) hx hb hts u_Mo ty_Mo tk_Mo nm_Mo hown hK hP hD hS 0 rfl rfl 21 (by decide) (hts _ L_942) (fun _ h9 => h9) rfl (by decide +kernel) rfl rfl (Nat.le_of_ble_eq_true rfl) d_Mo_declared_79 (fun H locs hP hD hS => ?_)
            have hP : va_P (dC, dI) cls (wM cI cZ hm ma (s_loose mo_12 1)) H := hP
            have hD : va_D A (wM cI cZ hm ma (s_loose mo_12 1)) := hD
            refine lv_iload_n hx hb d_Mo_declared_82 rfl (lv_at hl 0 rfl) ?_
            exact mr_iret (v := r_12) (mo := (s_loose mo_12 1)) hx hb hr hlocks hK hP hD hS (by unfold f_Mo_declared; rw [bndM_r w_1, if_neg c_2, bndM_r w_10, if_neg c_11, bndM_r w_12, if_neg c_13, if_pos c_15, if_pos c_16]) d_Mo_declared_83
        · refine lv_aload_n hx hb d_Mo_declared_52 rfl (lv_at hl 2 rfl) ?_
          refine lv_aload_n hx hb d_Mo_declared_53 rfl (lv_at hl 2 rfl) ?_
          refine va_get (D := (dC, dI)) (ci := 6) (v := .int (q_at mo_12)) (C := R_Mo) (T := T_Mo) (N := 31) hx hb hts u_Mo hown hK hP 0 rfl rfl 6 (by decide) (hts _ L_927) (fun _ h9 => h9) rfl d_Mo_declared_54 ?_
          refine lv_iconst (v := 1) hx hb d_Mo_declared_57 (by decide) ?_
          refine lv_isub hx hb d_Mo_declared_58 ?_
          refine mr_Vv (g := (f_Mo_refuse mo_12 ((q_at mo_12) - 1))) (As := [.int ((q_at mo_12) - 1)]) (rest := []) ⟨hx, hb, hml, hown, hts0⟩ (m_Mo_refuse l hlt dC dI cI cZ sa rk hm ma mo_12 _ ((q_at mo_12) - 1) ) hP hD hK hS hA hC hZ hnt hlocks L_1072 L_1074 L_64 L_90 L_1075 k_Mo_refuse ⟨(by show _ ≤ 8; omega), (by show _ ≤ 122; omega)⟩ rfl rfl hl.1 (Nat.le_of_ble_eq_true rfl) d_Mo_declared_59 rfl (fun q z => by unfold f_Mo_declared; rw [bndM_r w_1, if_neg c_2, bndM_r w_10, if_neg c_11, bndM_r w_12, if_neg c_13, if_neg c_15, bndM_l z]) (fun mo_17 H locs w_17 hP hD hS => ?_)
          refine lv_aload_n hx hb d_Mo_declared_62 rfl (lv_at hl 2 rfl) ?_
          refine lv_aload_n hx hb d_Mo_declared_63 rfl (lv_at hl 2 rfl) ?_
          refine va_get (D := (dC, dI)) (ci := 6) (v := .int (q_loose mo_17)) (C := R_Mo) (T := T_Mo) (N := 31) hx hb hts u_Mo hown hK hP 0 rfl rfl 21 (by decide) (hts _ L_942) (fun _ h9 => h9) rfl d_Mo_declared_64 ?_
          refine lv_if_ne (tgt := 74) hx hb d_Mo_declared_67 (by decide) (fun c_18 => ?_) (fun c_18 => ?_)
          · refine lv_iconst (v := 1) hx hb d_Mo_declared_74 (by decide) ?_
            refine lv_goto (tgt := 79) hx hb d_Mo_declared_75 (by decide) ?_
            refine va_put (D := (dC, dI)) (ci := 6) (v := .int 1) (ty := .boolean) (C := R_Mo) (T := T_Mo) (N := 31) hx hb hts u_Mo ty_Mo tk_Mo nm_Mo hown hK hP hD hS 0 rfl rfl 21 (by decide) (hts _ L_942) (fun _ h9 => h9) rfl (by decide +kernel) rfl rfl (Nat.le_of_ble_eq_true rfl) d_Mo_declared_79 (fun H locs hP hD hS => ?_)
            have hP : va_P (dC, dI) cls (wM cI cZ hm ma (s_loose mo_17 1)) H := hP
            have hD : va_D A (wM cI cZ hm ma (s_loose mo_17 1)) := hD
            refine lv_iload_n hx hb d_Mo_declared_82 rfl (lv_at hl 0 rfl) ?_
            exact mr_iret (v := r_12) (mo := (s_loose mo_17 1)) hx hb hr hlocks hK hP hD hS (by unfold f_Mo_declared; rw [bndM_r w_1, if_neg c_2, bndM_r w_10, if_neg c_11, bndM_r w_12, if_neg c_13, if_neg c_15, bndM_r w_17, if_neg c_18]) d_Mo_declared_83
          · refine lv_iload_n hx hb d_Mo_declared_70 rfl (lv_at hl 1 rfl) ?_
            refine lv_if_eq (tgt := 78) hx hb d_Mo_declared_71 (by decide) (fun q9 => absurd q9 (by decide)) (fun _ => ?_)
            refine lv_iconst (v := 1) hx hb d_Mo_declared_74 (by decide) ?_
            refine lv_goto (tgt := 79) hx hb d_Mo_declared_75 (by decide) ?_
            refine va_put (D := (dC, dI)) (ci := 6) (v := .int 1) (ty := .boolean) (C := R_Mo) (T := T_Mo) (N := 31) hx hb hts u_Mo ty_Mo tk_Mo nm_Mo hown hK hP hD hS 0 rfl rfl 21 (by decide) (hts _ L_942) (fun _ h9 => h9) rfl (by decide +kernel) rfl rfl (Nat.le_of_ble_eq_true rfl) d_Mo_declared_79 (fun H locs hP hD hS => ?_)
            have hP : va_P (dC, dI) cls (wM cI cZ hm ma (s_loose mo_17 1)) H := hP
            have hD : va_D A (wM cI cZ hm ma (s_loose mo_17 1)) := hD
            refine lv_iload_n hx hb d_Mo_declared_82 rfl (lv_at hl 0 rfl) ?_
            exact mr_iret (v := r_12) (mo := (s_loose mo_17 1)) hx hb hr hlocks hK hP hD hS (by unfold f_Mo_declared; rw [bndM_r w_1, if_neg c_2, bndM_r w_10, if_neg c_11, bndM_r w_12, if_neg c_13, if_neg c_15, bndM_r w_17, if_pos c_18]) d_Mo_declared_83
    · refine lv_aload_n hx hb d_Mo_declared_16 rfl (lv_at hl 0 rfl) ?_
      refine va_get (D := (dC, dI)) (ci := 6) (v := .ref (ma 2)) (C := R_Mo) (T := T_Mo) (N := 31) hx hb hts u_Mo hown hK hP 0 rfl rfl 3 (by decide) (hts _ L_924) (fun _ h9 => h9) rfl d_Mo_declared_17 ?_
      refine lv_aload_n hx hb d_Mo_declared_20 rfl (lv_at hl 0 rfl) ?_
      refine va_get (D := (dC, dI)) (ci := 6) (v := .int (q_at mo_10)) (C := R_Mo) (T := T_Mo) (N := 31) hx hb hts u_Mo hown hK hP 0 rfl rfl 6 (by decide) (hts _ L_927) (fun _ h9 => h9) rfl d_Mo_declared_21 ?_
      by_cases cb_19 : inb (q_at mo_10) 1001
      case neg => exact absurd (by unfold f_Mo_declared; rw [bndM_r w_1, if_neg c_2, bndM_r w_10, if_pos c_11, if_neg cb_19]) hg
      refine va_iald (D := (dC, dI)) hx hb hK hP 3 0 rfl rfl cb_19 d_Mo_declared_24 ?_
      refine lv_iconst (v := 2) hx hb d_Mo_declared_25 (by decide) ?_
      refine lv_icmp_ge (tgt := 33) hx hb d_Mo_declared_26 (by decide) (fun c_20 => ?_) (fun c_20 => ?_)
      · refine lv_iconst (v := 0) hx hb d_Mo_declared_33 (by decide) ?_
        refine lv_istore_n (lv' := [(1, .int 0), (0, .ref hm)]) hx hb d_Mo_declared_34 rfl hl (by decide) rfl (fun ls hl => ?_)
        refine lv_aload_n hx hb d_Mo_declared_35 rfl (lv_at hl 1 rfl) ?_
        refine mr_Vi (g := (f_Mo_identifier mo_10)) (As := []) (rest := []) ⟨hx, hb, hml, hown, hts0⟩ (m_Mo_identifier l hlt dC dI cI cZ sa rk hm ma mo_10 _  (fun z => hg (by unfold f_Mo_declared; rw [bndM_r w_1, if_neg c_2, bndM_r w_10, if_pos c_11, if_pos cb_19, if_pos c_20, bndM_n z]))) hP hD hK hS hA hC hZ hnt hlocks L_1107 L_1109 L_67 L_90 L_1110 k_Mo_identifier ⟨(by show _ ≤ 8; omega), (by show _ ≤ 122; omega)⟩ rfl rfl hl.1 (Nat.le_of_ble_eq_true rfl) d_Mo_declared_36 rfl (fun q z => by unfold f_Mo_declared; rw [bndM_r w_1, if_neg c_2, bndM_r w_10, if_pos c_11, if_pos cb_19, if_pos c_20, bndM_l z]) (fun r_21 mo_21 H locs w_21 hP hD hS => ?_)
        refine lv_istore_n (lv' := [(2, .int r_21), (1, .int 0), (0, .ref hm)]) hx hb d_Mo_declared_39 rfl hl (by decide) rfl (fun ls hl => ?_)
        refine lv_aload_n hx hb d_Mo_declared_40 rfl (lv_at hl 2 rfl) ?_
        refine va_get (D := (dC, dI)) (ci := 6) (v := .int (q_strict mo_21)) (C := R_Mo) (T := T_Mo) (N := 31) hx hb hts u_Mo hown hK hP 0 rfl rfl 19 (by decide) (hts _ L_940) (fun _ h9 => h9) rfl d_Mo_declared_41 ?_
        refine lv_if_eq (tgt := 62) hx hb d_Mo_declared_44 (by decide) (fun c_22 => ?_) (fun c_22 => ?_)
        · refine lv_aload_n hx hb d_Mo_declared_62 rfl (lv_at hl 2 rfl) ?_
          refine lv_aload_n hx hb d_Mo_declared_63 rfl (lv_at hl 2 rfl) ?_
          refine va_get (D := (dC, dI)) (ci := 6) (v := .int (q_loose mo_21)) (C := R_Mo) (T := T_Mo) (N := 31) hx hb hts u_Mo hown hK hP 0 rfl rfl 21 (by decide) (hts _ L_942) (fun _ h9 => h9) rfl d_Mo_declared_64 ?_
          refine lv_if_ne (tgt := 74) hx hb d_Mo_declared_67 (by decide) (fun c_23 => ?_) (fun c_23 => ?_)
          · refine lv_iconst (v := 1) hx hb d_Mo_declared_74 (by decide) ?_
            refine lv_goto (tgt := 79) hx hb d_Mo_declared_75 (by decide) ?_
            refine va_put (D := (dC, dI)) (ci := 6) (v := .int 1) (ty := .boolean) (C := R_Mo) (T := T_Mo) (N := 31) hx hb hts u_Mo ty_Mo tk_Mo nm_Mo hown hK hP hD hS 0 rfl rfl 21 (by decide) (hts _ L_942) (fun _ h9 => h9) rfl (by decide +kernel) rfl rfl (Nat.le_of_ble_eq_true rfl) d_Mo_declared_79 (fun H locs hP hD hS => ?_)
            have hP : va_P (dC, dI) cls (wM cI cZ hm ma (s_loose mo_21 1)) H := hP
            have hD : va_D A (wM cI cZ hm ma (s_loose mo_21 1)) := hD
            refine lv_iload_n hx hb d_Mo_declared_82 rfl (lv_at hl 0 rfl) ?_
            exact mr_iret (v := r_21) (mo := (s_loose mo_21 1)) hx hb hr hlocks hK hP hD hS (by unfold f_Mo_declared; rw [bndM_r w_1, if_neg c_2, bndM_r w_10, if_pos c_11, if_pos cb_19, if_pos c_20, bndM_r w_21, if_pos c_22, if_neg c_23]) d_Mo_declared_83
          · refine lv_iload_n hx hb d_Mo_declared_70 rfl (lv_at hl 1 rfl) ?_
            refine lv_if_eq (tgt := 78) hx hb d_Mo_declared_71 (by decide) (fun _ => ?_) (fun q9 => absurd q9 (by decide))
            refine lv_iconst (v := 0) hx hb d_Mo_declared_78 (by decide) ?_
            refine va_put (D := (dC, dI)) (ci := 6) (v := .int 0) (ty := .boolean) (C := R_Mo) (T := T_Mo) (N := 31) hx hb hts u_Mo ty_Mo tk_Mo nm_Mo hown hK hP hD hS 0 rfl rfl 21 (by decide) (hts _ L_942) (fun _ h9 => h9) rfl (by decide +kernel) rfl rfl (Nat.le_of_ble_eq_true rfl) d_Mo_declared_79 (fun H locs hP hD hS => ?_)
            have hP : va_P (dC, dI) cls (wM cI cZ hm ma (s_loose mo_21 0)) H := hP
            have hD : va_D A (wM cI cZ hm ma (s_loose mo_21 0)) := hD
            refine lv_iload_n hx hb d_Mo_declared_82 rfl (lv_at hl 0 rfl) ?_
            exact mr_iret (v := r_21) (mo := (s_loose mo_21 0)) hx hb hr hlocks hK hP hD hS (by unfold f_Mo_declared; rw [bndM_r w_1, if_neg c_2, bndM_r w_10, if_pos c_11, if_pos cb_19, if_pos c_20, bndM_r w_21, if_pos c_22, if_pos c_23]) d_Mo_declared_83
        · refine lv_iload_n hx hb d_Mo_declared_47 rfl (lv_at hl 0 rfl) ?_
          refine lv_iconst (v := 2) hx hb d_Mo_declared_48 (by decide) ?_
          refine lv_icmp_ge (tgt := 62) hx hb d_Mo_declared_49 (by decide) (fun c_24 => ?_) (fun c_24 => ?_)
          · refine lv_aload_n hx hb d_Mo_declared_62 rfl (lv_at hl 2 rfl) ?_
            refine lv_aload_n hx hb d_Mo_declared_63 rfl (lv_at hl 2 rfl) ?_
            refine va_get (D := (dC, dI)) (ci := 6) (v := .int (q_loose mo_21)) (C := R_Mo) (T := T_Mo) (N := 31) hx hb hts u_Mo hown hK hP 0 rfl rfl 21 (by decide) (hts _ L_942) (fun _ h9 => h9) rfl d_Mo_declared_64 ?_
            refine lv_if_ne (tgt := 74) hx hb d_Mo_declared_67 (by decide) (fun c_25 => ?_) (fun c_25 => ?_)
            · refine lv_iconst (v := 1) hx hb d_Mo_declared_74 (by decide) ?_
              refine lv_goto (tgt := 79) hx hb d_Mo_declared_75 (by decide) ?_
              refine va_put (D := (dC, dI)) (ci := 6) (v := .int 1) (ty := .boolean) (C := R_Mo) (T := T_Mo) (N := 31) hx hb hts u_Mo ty_Mo tk_Mo nm_Mo hown hK hP hD hS 0 rfl rfl 21 (by decide) (hts _ L_942) (fun _ h9 => h9) rfl (by decide +kernel) rfl rfl (Nat.le_of_ble_eq_true rfl) d_Mo_declared_79 (fun H locs hP hD hS => ?_)
              have hP : va_P (dC, dI) cls (wM cI cZ hm ma (s_loose mo_21 1)) H := hP
              have hD : va_D A (wM cI cZ hm ma (s_loose mo_21 1)) := hD
              refine lv_iload_n hx hb d_Mo_declared_82 rfl (lv_at hl 0 rfl) ?_
              exact mr_iret (v := r_21) (mo := (s_loose mo_21 1)) hx hb hr hlocks hK hP hD hS (by unfold f_Mo_declared; rw [bndM_r w_1, if_neg c_2, bndM_r w_10, if_pos c_11, if_pos cb_19, if_pos c_20, bndM_r w_21, if_neg c_22, if_pos c_24, if_neg c_25]) d_Mo_declared_83
            · refine lv_iload_n hx hb d_Mo_declared_70 rfl (lv_at hl 1 rfl) ?_
              refine lv_if_eq (tgt := 78) hx hb d_Mo_declared_71 (by decide) (fun _ => ?_) (fun q9 => absurd q9 (by decide))
              refine lv_iconst (v := 0) hx hb d_Mo_declared_78 (by decide) ?_
              refine va_put (D := (dC, dI)) (ci := 6) (v := .int 0) (ty := .boolean) (C := R_Mo) (T := T_Mo) (N := 31) hx hb hts u_Mo ty_Mo tk_Mo nm_Mo hown hK hP hD hS 0 rfl rfl 21 (by decide) (hts _ L_942) (fun _ h9 => h9) rfl (by decide +kernel) rfl rfl (Nat.le_of_ble_eq_true rfl) d_Mo_declared_79 (fun H locs hP hD hS => ?_)
              have hP : va_P (dC, dI) cls (wM cI cZ hm ma (s_loose mo_21 0)) H := hP
              have hD : va_D A (wM cI cZ hm ma (s_loose mo_21 0)) := hD
              refine lv_iload_n hx hb d_Mo_declared_82 rfl (lv_at hl 0 rfl) ?_
              exact mr_iret (v := r_21) (mo := (s_loose mo_21 0)) hx hb hr hlocks hK hP hD hS (by unfold f_Mo_declared; rw [bndM_r w_1, if_neg c_2, bndM_r w_10, if_pos c_11, if_pos cb_19, if_pos c_20, bndM_r w_21, if_neg c_22, if_pos c_24, if_pos c_25]) d_Mo_declared_83
          · refine lv_aload_n hx hb d_Mo_declared_52 rfl (lv_at hl 2 rfl) ?_
            refine lv_aload_n hx hb d_Mo_declared_53 rfl (lv_at hl 2 rfl) ?_
            refine va_get (D := (dC, dI)) (ci := 6) (v := .int (q_at mo_21)) (C := R_Mo) (T := T_Mo) (N := 31) hx hb hts u_Mo hown hK hP 0 rfl rfl 6 (by decide) (hts _ L_927) (fun _ h9 => h9) rfl d_Mo_declared_54 ?_
            refine lv_iconst (v := 1) hx hb d_Mo_declared_57 (by decide) ?_
            refine lv_isub hx hb d_Mo_declared_58 ?_
            refine mr_Vv (g := (f_Mo_refuse mo_21 ((q_at mo_21) - 1))) (As := [.int ((q_at mo_21) - 1)]) (rest := []) ⟨hx, hb, hml, hown, hts0⟩ (m_Mo_refuse l hlt dC dI cI cZ sa rk hm ma mo_21 _ ((q_at mo_21) - 1) ) hP hD hK hS hA hC hZ hnt hlocks L_1072 L_1074 L_64 L_90 L_1075 k_Mo_refuse ⟨(by show _ ≤ 8; omega), (by show _ ≤ 122; omega)⟩ rfl rfl hl.1 (Nat.le_of_ble_eq_true rfl) d_Mo_declared_59 rfl (fun q z => by unfold f_Mo_declared; rw [bndM_r w_1, if_neg c_2, bndM_r w_10, if_pos c_11, if_pos cb_19, if_pos c_20, bndM_r w_21, if_neg c_22, if_neg c_24, bndM_l z]) (fun mo_26 H locs w_26 hP hD hS => ?_)
            refine lv_aload_n hx hb d_Mo_declared_62 rfl (lv_at hl 2 rfl) ?_
            refine lv_aload_n hx hb d_Mo_declared_63 rfl (lv_at hl 2 rfl) ?_
            refine va_get (D := (dC, dI)) (ci := 6) (v := .int (q_loose mo_26)) (C := R_Mo) (T := T_Mo) (N := 31) hx hb hts u_Mo hown hK hP 0 rfl rfl 21 (by decide) (hts _ L_942) (fun _ h9 => h9) rfl d_Mo_declared_64 ?_
            refine lv_if_ne (tgt := 74) hx hb d_Mo_declared_67 (by decide) (fun c_27 => ?_) (fun c_27 => ?_)
            · refine lv_iconst (v := 1) hx hb d_Mo_declared_74 (by decide) ?_
              refine lv_goto (tgt := 79) hx hb d_Mo_declared_75 (by decide) ?_
              refine va_put (D := (dC, dI)) (ci := 6) (v := .int 1) (ty := .boolean) (C := R_Mo) (T := T_Mo) (N := 31) hx hb hts u_Mo ty_Mo tk_Mo nm_Mo hown hK hP hD hS 0 rfl rfl 21 (by decide) (hts _ L_942) (fun _ h9 => h9) rfl (by decide +kernel) rfl rfl (Nat.le_of_ble_eq_true rfl) d_Mo_declared_79 (fun H locs hP hD hS => ?_)
              have hP : va_P (dC, dI) cls (wM cI cZ hm ma (s_loose mo_26 1)) H := hP
              have hD : va_D A (wM cI cZ hm ma (s_loose mo_26 1)) := hD
              refine lv_iload_n hx hb d_Mo_declared_82 rfl (lv_at hl 0 rfl) ?_
              exact mr_iret (v := r_21) (mo := (s_loose mo_26 1)) hx hb hr hlocks hK hP hD hS (by unfold f_Mo_declared; rw [bndM_r w_1, if_neg c_2, bndM_r w_10, if_pos c_11, if_pos cb_19, if_pos c_20, bndM_r w_21, if_neg c_22, if_neg c_24, bndM_r w_26, if_neg c_27]) d_Mo_declared_83
            · refine lv_iload_n hx hb d_Mo_declared_70 rfl (lv_at hl 1 rfl) ?_
              refine lv_if_eq (tgt := 78) hx hb d_Mo_declared_71 (by decide) (fun _ => ?_) (fun q9 => absurd q9 (by decide))
              refine lv_iconst (v := 0) hx hb d_Mo_declared_78 (by decide) ?_
              refine va_put (D := (dC, dI)) (ci := 6) (v := .int 0) (ty := .boolean) (C := R_Mo) (T := T_Mo) (N := 31) hx hb hts u_Mo ty_Mo tk_Mo nm_Mo hown hK hP hD hS 0 rfl rfl 21 (by decide) (hts _ L_942) (fun _ h9 => h9) rfl (by decide +kernel) rfl rfl (Nat.le_of_ble_eq_true rfl) d_Mo_declared_79 (fun H locs hP hD hS => ?_)
              have hP : va_P (dC, dI) cls (wM cI cZ hm ma (s_loose mo_26 0)) H := hP
              have hD : va_D A (wM cI cZ hm ma (s_loose mo_26 0)) := hD
              refine lv_iload_n hx hb d_Mo_declared_82 rfl (lv_at hl 0 rfl) ?_
              exact mr_iret (v := r_21) (mo := (s_loose mo_26 0)) hx hb hr hlocks hK hP hD hS (by unfold f_Mo_declared; rw [bndM_r w_1, if_neg c_2, bndM_r w_10, if_pos c_11, if_pos cb_19, if_pos c_20, bndM_r w_21, if_neg c_22, if_neg c_24, bndM_r w_26, if_pos c_27]) d_Mo_declared_83
      · refine lv_iconst (v := 1) hx hb d_Mo_declared_29 (by decide) ?_
        refine lv_goto (tgt := 34) hx hb d_Mo_declared_30 (by decide) ?_
        refine lv_istore_n (lv' := [(1, .int 1), (0, .ref hm)]) hx hb d_Mo_declared_34 rfl hl (by decide) rfl (fun ls hl => ?_)
        refine lv_aload_n hx hb d_Mo_declared_35 rfl (lv_at hl 1 rfl) ?_
        refine mr_Vi (g := (f_Mo_identifier mo_10)) (As := []) (rest := []) ⟨hx, hb, hml, hown, hts0⟩ (m_Mo_identifier l hlt dC dI cI cZ sa rk hm ma mo_10 _  (fun z => hg (by unfold f_Mo_declared; rw [bndM_r w_1, if_neg c_2, bndM_r w_10, if_pos c_11, if_pos cb_19, if_neg c_20, bndM_n z]))) hP hD hK hS hA hC hZ hnt hlocks L_1107 L_1109 L_67 L_90 L_1110 k_Mo_identifier ⟨(by show _ ≤ 8; omega), (by show _ ≤ 122; omega)⟩ rfl rfl hl.1 (Nat.le_of_ble_eq_true rfl) d_Mo_declared_36 rfl (fun q z => by unfold f_Mo_declared; rw [bndM_r w_1, if_neg c_2, bndM_r w_10, if_pos c_11, if_pos cb_19, if_neg c_20, bndM_l z]) (fun r_28 mo_28 H locs w_28 hP hD hS => ?_)
        refine lv_istore_n (lv' := [(2, .int r_28), (1, .int 1), (0, .ref hm)]) hx hb d_Mo_declared_39 rfl hl (by decide) rfl (fun ls hl => ?_)
        refine lv_aload_n hx hb d_Mo_declared_40 rfl (lv_at hl 2 rfl) ?_
        refine va_get (D := (dC, dI)) (ci := 6) (v := .int (q_strict mo_28)) (C := R_Mo) (T := T_Mo) (N := 31) hx hb hts u_Mo hown hK hP 0 rfl rfl 19 (by decide) (hts _ L_940) (fun _ h9 => h9) rfl d_Mo_declared_41 ?_
        refine lv_if_eq (tgt := 62) hx hb d_Mo_declared_44 (by decide) (fun c_29 => ?_) (fun c_29 => ?_)
        · refine lv_aload_n hx hb d_Mo_declared_62 rfl (lv_at hl 2 rfl) ?_
          refine lv_aload_n hx hb d_Mo_declared_63 rfl (lv_at hl 2 rfl) ?_
          refine va_get (D := (dC, dI)) (ci := 6) (v := .int (q_loose mo_28)) (C := R_Mo) (T := T_Mo) (N := 31) hx hb hts u_Mo hown hK hP 0 rfl rfl 21 (by decide) (hts _ L_942) (fun _ h9 => h9) rfl d_Mo_declared_64 ?_
          refine lv_if_ne (tgt := 74) hx hb d_Mo_declared_67 (by decide) (fun c_30 => ?_) (fun c_30 => ?_)
          · refine lv_iconst (v := 1) hx hb d_Mo_declared_74 (by decide) ?_
            refine lv_goto (tgt := 79) hx hb d_Mo_declared_75 (by decide) ?_
            refine va_put (D := (dC, dI)) (ci := 6) (v := .int 1) (ty := .boolean) (C := R_Mo) (T := T_Mo) (N := 31) hx hb hts u_Mo ty_Mo tk_Mo nm_Mo hown hK hP hD hS 0 rfl rfl 21 (by decide) (hts _ L_942) (fun _ h9 => h9) rfl (by decide +kernel) rfl rfl (Nat.le_of_ble_eq_true rfl) d_Mo_declared_79 (fun H locs hP hD hS => ?_)
            have hP : va_P (dC, dI) cls (wM cI cZ hm ma (s_loose mo_28 1)) H := hP
            have hD : va_D A (wM cI cZ hm ma (s_loose mo_28 1)) := hD
            refine lv_iload_n hx hb d_Mo_declared_82 rfl (lv_at hl 0 rfl) ?_
            exact mr_iret (v := r_28) (mo := (s_loose mo_28 1)) hx hb hr hlocks hK hP hD hS (by unfold f_Mo_declared; rw [bndM_r w_1, if_neg c_2, bndM_r w_10, if_pos c_11, if_pos cb_19, if_neg c_20, bndM_r w_28, if_pos c_29, if_neg c_30]) d_Mo_declared_83
          · refine lv_iload_n hx hb d_Mo_declared_70 rfl (lv_at hl 1 rfl) ?_
            refine lv_if_eq (tgt := 78) hx hb d_Mo_declared_71 (by decide) (fun q9 => absurd q9 (by decide)) (fun _ => ?_)
            refine lv_iconst (v := 1) hx hb d_Mo_declared_74 (by decide) ?_
            refine lv_goto (tgt := 79) hx hb d_Mo_declared_75 (by decide) ?_
            refine va_put (D := (dC, dI)) (ci := 6) (v := .int 1) (ty := .boolean) (C := R_Mo) (T := T_Mo) (N := 31) hx hb hts u_Mo ty_Mo tk_Mo nm_Mo hown hK hP hD hS 0 rfl rfl 21 (by decide) (hts _ L_942) (fun _ h9 => h9) rfl (by decide +kernel) rfl rfl (Nat.le_of_ble_eq_true rfl) d_Mo_declared_79 (fun H locs hP hD hS => ?_)
            have hP : va_P (dC, dI) cls (wM cI cZ hm ma (s_loose mo_28 1)) H := hP
            have hD : va_D A (wM cI cZ hm ma (s_loose mo_28 1)) := hD
            refine lv_iload_n hx hb d_Mo_declared_82 rfl (lv_at hl 0 rfl) ?_
            exact mr_iret (v := r_28) (mo := (s_loose mo_28 1)) hx hb hr hlocks hK hP hD hS (by unfold f_Mo_declared; rw [bndM_r w_1, if_neg c_2, bndM_r w_10, if_pos c_11, if_pos cb_19, if_neg c_20, bndM_r w_28, if_pos c_29, if_pos c_30]) d_Mo_declared_83
        · refine lv_iload_n hx hb d_Mo_declared_47 rfl (lv_at hl 0 rfl) ?_
          refine lv_iconst (v := 2) hx hb d_Mo_declared_48 (by decide) ?_
          refine lv_icmp_ge (tgt := 62) hx hb d_Mo_declared_49 (by decide) (fun c_31 => ?_) (fun c_31 => ?_)
          · refine lv_aload_n hx hb d_Mo_declared_62 rfl (lv_at hl 2 rfl) ?_
            refine lv_aload_n hx hb d_Mo_declared_63 rfl (lv_at hl 2 rfl) ?_
            refine va_get (D := (dC, dI)) (ci := 6) (v := .int (q_loose mo_28)) (C := R_Mo) (T := T_Mo) (N := 31) hx hb hts u_Mo hown hK hP 0 rfl rfl 21 (by decide) (hts _ L_942) (fun _ h9 => h9) rfl d_Mo_declared_64 ?_
            refine lv_if_ne (tgt := 74) hx hb d_Mo_declared_67 (by decide) (fun c_32 => ?_) (fun c_32 => ?_)
            · refine lv_iconst (v := 1) hx hb d_Mo_declared_74 (by decide) ?_
              refine lv_goto (tgt := 79) hx hb d_Mo_declared_75 (by decide) ?_
              refine va_put (D := (dC, dI)) (ci := 6) (v := .int 1) (ty := .boolean) (C := R_Mo) (T := T_Mo) (N := 31) hx hb hts u_Mo ty_Mo tk_Mo nm_Mo hown hK hP hD hS 0 rfl rfl 21 (by decide) (hts _ L_942) (fun _ h9 => h9) rfl (by decide +kernel) rfl rfl (Nat.le_of_ble_eq_true rfl) d_Mo_declared_79 (fun H locs hP hD hS => ?_)
              have hP : va_P (dC, dI) cls (wM cI cZ hm ma (s_loose mo_28 1)) H := hP
              have hD : va_D A (wM cI cZ hm ma (s_loose mo_28 1)) := hD
              refine lv_iload_n hx hb d_Mo_declared_82 rfl (lv_at hl 0 rfl) ?_
              exact mr_iret (v := r_28) (mo := (s_loose mo_28 1)) hx hb hr hlocks hK hP hD hS (by unfold f_Mo_declared; rw [bndM_r w_1, if_neg c_2, bndM_r w_10, if_pos c_11, if_pos cb_19, if_neg c_20, bndM_r w_28, if_neg c_29, if_pos c_31, if_neg c_32]) d_Mo_declared_83
            · refine lv_iload_n hx hb d_Mo_declared_70 rfl (lv_at hl 1 rfl) ?_
              refine lv_if_eq (tgt := 78) hx hb d_Mo_declared_71 (by decide) (fun q9 => absurd q9 (by decide)) (fun _ => ?_)
              refine lv_iconst (v := 1) hx hb d_Mo_declared_74 (by decide) ?_
              refine lv_goto (tgt := 79) hx hb d_Mo_declared_75 (by decide) ?_
              refine va_put (D := (dC, dI)) (ci := 6) (v := .int 1) (ty := .boolean) (C := R_Mo) (T := T_Mo) (N := 31) hx hb hts u_Mo ty_Mo tk_Mo nm_Mo hown hK hP hD hS 0 rfl rfl 21 (by decide) (hts _ L_942) (fun _ h9 => h9) rfl (by decide +kernel) rfl rfl (Nat.le_of_ble_eq_true rfl) d_Mo_declared_79 (fun H locs hP hD hS => ?_)
              have hP : va_P (dC, dI) cls (wM cI cZ hm ma (s_loose mo_28 1)) H := hP
              have hD : va_D A (wM cI cZ hm ma (s_loose mo_28 1)) := hD
              refine lv_iload_n hx hb d_Mo_declared_82 rfl (lv_at hl 0 rfl) ?_
              exact mr_iret (v := r_28) (mo := (s_loose mo_28 1)) hx hb hr hlocks hK hP hD hS (by unfold f_Mo_declared; rw [bndM_r w_1, if_neg c_2, bndM_r w_10, if_pos c_11, if_pos cb_19, if_neg c_20, bndM_r w_28, if_neg c_29, if_pos c_31, if_pos c_32]) d_Mo_declared_83
          · refine lv_aload_n hx hb d_Mo_declared_52 rfl (lv_at hl 2 rfl) ?_
            refine lv_aload_n hx hb d_Mo_declared_53 rfl (lv_at hl 2 rfl) ?_
            refine va_get (D := (dC, dI)) (ci := 6) (v := .int (q_at mo_28)) (C := R_Mo) (T := T_Mo) (N := 31) hx hb hts u_Mo hown hK hP 0 rfl rfl 6 (by decide) (hts _ L_927) (fun _ h9 => h9) rfl d_Mo_declared_54 ?_
            refine lv_iconst (v := 1) hx hb d_Mo_declared_57 (by decide) ?_
            refine lv_isub hx hb d_Mo_declared_58 ?_
            refine mr_Vv (g := (f_Mo_refuse mo_28 ((q_at mo_28) - 1))) (As := [.int ((q_at mo_28) - 1)]) (rest := []) ⟨hx, hb, hml, hown, hts0⟩ (m_Mo_refuse l hlt dC dI cI cZ sa rk hm ma mo_28 _ ((q_at mo_28) - 1) ) hP hD hK hS hA hC hZ hnt hlocks L_1072 L_1074 L_64 L_90 L_1075 k_Mo_refuse ⟨(by show _ ≤ 8; omega), (by show _ ≤ 122; omega)⟩ rfl rfl hl.1 (Nat.le_of_ble_eq_true rfl) d_Mo_declared_59 rfl (fun q z => by unfold f_Mo_declared; rw [bndM_r w_1, if_neg c_2, bndM_r w_10, if_pos c_11, if_pos cb_19, if_neg c_20, bndM_r w_28, if_neg c_29, if_neg c_31, bndM_l z]) (fun mo_33 H locs w_33 hP hD hS => ?_)
            refine lv_aload_n hx hb d_Mo_declared_62 rfl (lv_at hl 2 rfl) ?_
            refine lv_aload_n hx hb d_Mo_declared_63 rfl (lv_at hl 2 rfl) ?_
            refine va_get (D := (dC, dI)) (ci := 6) (v := .int (q_loose mo_33)) (C := R_Mo) (T := T_Mo) (N := 31) hx hb hts u_Mo hown hK hP 0 rfl rfl 21 (by decide) (hts _ L_942) (fun _ h9 => h9) rfl d_Mo_declared_64 ?_
            refine lv_if_ne (tgt := 74) hx hb d_Mo_declared_67 (by decide) (fun c_34 => ?_) (fun c_34 => ?_)
            · refine lv_iconst (v := 1) hx hb d_Mo_declared_74 (by decide) ?_
              refine lv_goto (tgt := 79) hx hb d_Mo_declared_75 (by decide) ?_
              refine va_put (D := (dC, dI)) (ci := 6) (v := .int 1) (ty := .boolean) (C := R_Mo) (T := T_Mo) (N := 31) hx hb hts u_Mo ty_Mo tk_Mo nm_Mo hown hK hP hD hS 0 rfl rfl 21 (by decide) (hts _ L_942) (fun _ h9 => h9) rfl (by decide +kernel) rfl rfl (Nat.le_of_ble_eq_true rfl) d_Mo_declared_79 (fun H locs hP hD hS => ?_)
              have hP : va_P (dC, dI) cls (wM cI cZ hm ma (s_loose mo_33 1)) H := hP
              have hD : va_D A (wM cI cZ hm ma (s_loose mo_33 1)) := hD
              refine lv_iload_n hx hb d_Mo_declared_82 rfl (lv_at hl 0 rfl) ?_
              exact mr_iret (v := r_28) (mo := (s_loose mo_33 1)) hx hb hr hlocks hK hP hD hS (by unfold f_Mo_declared; rw [bndM_r w_1, if_neg c_2, bndM_r w_10, if_pos c_11, if_pos cb_19, if_neg c_20, bndM_r w_28, if_neg c_29, if_neg c_31, bndM_r w_33, if_neg c_34]) d_Mo_declared_83
            · refine lv_iload_n hx hb d_Mo_declared_70 rfl (lv_at hl 1 rfl) ?_
              refine lv_if_eq (tgt := 78) hx hb d_Mo_declared_71 (by decide) (fun q9 => absurd q9 (by decide)) (fun _ => ?_)
              refine lv_iconst (v := 1) hx hb d_Mo_declared_74 (by decide) ?_
              refine lv_goto (tgt := 79) hx hb d_Mo_declared_75 (by decide) ?_
              refine va_put (D := (dC, dI)) (ci := 6) (v := .int 1) (ty := .boolean) (C := R_Mo) (T := T_Mo) (N := 31) hx hb hts u_Mo ty_Mo tk_Mo nm_Mo hown hK hP hD hS 0 rfl rfl 21 (by decide) (hts _ L_942) (fun _ h9 => h9) rfl (by decide +kernel) rfl rfl (Nat.le_of_ble_eq_true rfl) d_Mo_declared_79 (fun H locs hP hD hS => ?_)
              have hP : va_P (dC, dI) cls (wM cI cZ hm ma (s_loose mo_33 1)) H := hP
              have hD : va_D A (wM cI cZ hm ma (s_loose mo_33 1)) := hD
              refine lv_iload_n hx hb d_Mo_declared_82 rfl (lv_at hl 0 rfl) ?_
              exact mr_iret (v := r_28) (mo := (s_loose mo_33 1)) hx hb hr hlocks hK hP hD hS (by unfold f_Mo_declared; rw [bndM_r w_1, if_neg c_2, bndM_r w_10, if_pos c_11, if_pos cb_19, if_neg c_20, bndM_r w_28, if_neg c_29, if_neg c_31, bndM_r w_33, if_pos c_34]) d_Mo_declared_83
def f_Mo_semicolon (mo : MO)  : Rm := (bndM (f_Mo_isSign mo 67) (fun r_1 mo_1 => (if r_1 = 0 then (if (q_count mo_1) ≤ (q_at mo_1) then (some (.inr (0, mo_1))) else (bndM (f_Mo_isSign mo_1 65) (fun r_4 mo_4 => (if r_4 = 0 then (if inb (q_at mo_4) 1001 then (if ((q_lines mo_4) ((q_at mo_4) : Int32).toNatClampNeg) = 0 then (bndM (f_Mo_refuse mo_4 (q_at mo_4)) (fun _ mo_8 => (some (.inr (0, mo_8))))) else (some (.inr (0, mo_4)))) else none) else (some (.inr (0, mo_4))))))) else (some (.inr (0, (s_at mo_1 ((q_at mo_1) + 1))))))))
set_option maxRecDepth 100000 in
set_option maxHeartbeats 4000000 in
theorem m_Mo_semicolon (l : Launch) (hlt : l.stackTraces = false) (dC : Nat → ClassId) (dI : Nat → Nat → Nat) (cI cZ : ClassId) (sa rk hm : Nat) (ma : Nat → Nat)  (mo : MO) (sz : Nat)  (hg : (f_Mo_semicolon mo) ≠ none) : cXv l y_Mo_semicolon c_Mo_semicolon 1 (7) (102) (dC, dI) cI cZ sa rk hm ma mo sz [.ref hm] (f_Mo_semicolon mo) := by
  refine vx_ofW (cc := c_Mo_semicolon) (maxL := 1) (ret := none) (by decide) rfl ?_
  intro p e s m args below meth c s₁ B hml hnt hv
  obtain ⟨rfl, hsz, hP, hK, hD0, hC, hZ⟩ := hv
  have hx := B.exec
  have hb := B.bytes
  have hr := B.returns
  have hts0 := atoms_spec (ws := wy y_Mo_semicolon c_Mo_semicolon 1 none) B.pre
  have hts := htsL hts0
  have hown : s.vm.findClass R_Mo = some m.cls := findClass_of_methodNamed B.named
  have hlocks := B.notSynchronized
  subst hsz
  have hD := hD0.self (sz := s.heap.size)
  generalize hAe : va_A (wM cI cZ hm ma mo) s.heap.size = A at hD hZ ⊢
  have hA : ∀ q : Nat, s.heap.size ≤ q → A q := fun q h => by rw [← hAe]; exact Or.inr h
  have hS : va_S A s.heap s.heap [] := va_S.rf
  have hl := lv_entry ([.ref hm]) (n := 1) (Nat.le_of_ble_eq_true rfl)
  rw [lg_entry_eq]
  generalize (lg_sl ([.ref hm]) ++ List.replicate (1 - (lg_sl ([.ref hm])).length) Slot.unset).toArray = ls at hl ⊢
  have hl : lv_has ls 1 [(0, .ref hm)] := hl
  refine lv_aload_n hx hb d_Mo_semicolon_0 rfl (lv_at hl 0 rfl) ?_
  refine lv_bipush (v := 67) hx hb d_Mo_semicolon_1 (by decide) ?_
  refine mr_Vi (g := (f_Mo_isSign mo 67)) (As := [.int 67]) (rest := []) ⟨hx, hb, hml, hown, hts0⟩ (m_Mo_isSign l hlt dC dI cI cZ sa rk hm ma mo _ 67 (fun z => hg (by unfold f_Mo_semicolon; rw [bndM_n z]))) hP hD hK hS hA hC hZ hnt hlocks L_1053 L_1055 L_60 L_90 L_1056 k_Mo_isSign ⟨(by show _ ≤ 7; omega), (by show _ ≤ 102; omega)⟩ rfl rfl hl.1 (Nat.le_of_ble_eq_true rfl) d_Mo_semicolon_3 rfl (fun q z => by unfold f_Mo_semicolon; rw [bndM_l z]) (fun r_1 mo_1 H locs w_1 hP hD hS => ?_)
  refine lv_if_eq (tgt := 22) hx hb d_Mo_semicolon_6 (by decide) (fun c_2 => ?_) (fun c_2 => ?_)
  · refine lv_aload_n hx hb d_Mo_semicolon_22 rfl (lv_at hl 0 rfl) ?_
    refine va_get (D := (dC, dI)) (ci := 6) (v := .int (q_at mo_1)) (C := R_Mo) (T := T_Mo) (N := 31) hx hb hts u_Mo hown hK hP 0 rfl rfl 6 (by decide) (hts _ L_927) (fun _ h9 => h9) rfl d_Mo_semicolon_23 ?_
    refine lv_aload_n hx hb d_Mo_semicolon_26 rfl (lv_at hl 0 rfl) ?_
    refine va_get (D := (dC, dI)) (ci := 6) (v := .int (q_count mo_1)) (C := R_Mo) (T := T_Mo) (N := 31) hx hb hts u_Mo hown hK hP 0 rfl rfl 5 (by decide) (hts _ L_926) (fun _ h9 => h9) rfl d_Mo_semicolon_27 ?_
    refine lv_icmp_ge (tgt := 62) hx hb d_Mo_semicolon_30 (by decide) (fun c_3 => ?_) (fun c_3 => ?_)
    · exact mr_vret (mo := mo_1) hx hb hr hlocks hK hP hD hS (by unfold f_Mo_semicolon; rw [bndM_r w_1, if_pos c_2, if_pos c_3]) d_Mo_semicolon_62
    · refine lv_aload_n hx hb d_Mo_semicolon_33 rfl (lv_at hl 0 rfl) ?_
      refine lv_bipush (v := 65) hx hb d_Mo_semicolon_34 (by decide) ?_
      refine mr_Vi (g := (f_Mo_isSign mo_1 65)) (As := [.int 65]) (rest := []) ⟨hx, hb, hml, hown, hts0⟩ (m_Mo_isSign l hlt dC dI cI cZ sa rk hm ma mo_1 _ 65 (fun z => hg (by unfold f_Mo_semicolon; rw [bndM_r w_1, if_pos c_2, if_neg c_3, bndM_n z]))) hP hD hK hS hA hC hZ hnt hlocks L_1053 L_1055 L_60 L_90 L_1056 k_Mo_isSign ⟨(by show _ ≤ 7; omega), (by show _ ≤ 102; omega)⟩ rfl rfl hl.1 (Nat.le_of_ble_eq_true rfl) d_Mo_semicolon_36 rfl (fun q z => by unfold f_Mo_semicolon; rw [bndM_r w_1, if_pos c_2, if_neg c_3, bndM_l z]) (fun r_4 mo_4 H locs w_4 hP hD hS => ?_)
      refine lv_if_ne (tgt := 62) hx hb d_Mo_semicolon_39 (by decide) (fun c_5 => ?_) (fun c_5 => ?_)
      · exact mr_vret (mo := mo_4) hx hb hr hlocks hK hP hD hS (by unfold f_Mo_semicolon; rw [bndM_r w_1, if_pos c_2, if_neg c_3, bndM_r w_4, if_neg c_5]) d_Mo_semicolon_62
      · refine lv_aload_n hx hb d_Mo_semicolon_42 rfl (lv_at hl 0 rfl) ?_
        refine va_get (D := (dC, dI)) (ci := 6) (v := .ref (ma 3)) (C := R_Mo) (T := T_Mo) (N := 31) hx hb hts u_Mo hown hK hP 0 rfl rfl 4 (by decide) (hts _ L_925) (fun _ h9 => h9) rfl d_Mo_semicolon_43 ?_
        refine lv_aload_n hx hb d_Mo_semicolon_46 rfl (lv_at hl 0 rfl) ?_
        refine va_get (D := (dC, dI)) (ci := 6) (v := .int (q_at mo_4)) (C := R_Mo) (T := T_Mo) (N := 31) hx hb hts u_Mo hown hK hP 0 rfl rfl 6 (by decide) (hts _ L_927) (fun _ h9 => h9) rfl d_Mo_semicolon_47 ?_
        by_cases cb_6 : inb (q_at mo_4) 1001
        case neg => exact absurd (by unfold f_Mo_semicolon; rw [bndM_r w_1, if_pos c_2, if_neg c_3, bndM_r w_4, if_pos c_5, if_neg cb_6]) hg
        refine va_zald (D := (dC, dI)) hx hb hK hP 4 1 rfl rfl cb_6 d_Mo_semicolon_50 ?_
        refine lv_if_ne (tgt := 62) hx hb d_Mo_semicolon_51 (by decide) (fun c_7 => ?_) (fun c_7 => ?_)
        · exact mr_vret (mo := mo_4) hx hb hr hlocks hK hP hD hS (by unfold f_Mo_semicolon; rw [bndM_r w_1, if_pos c_2, if_neg c_3, bndM_r w_4, if_pos c_5, if_pos cb_6, if_neg c_7]) d_Mo_semicolon_62
        · refine lv_aload_n hx hb d_Mo_semicolon_54 rfl (lv_at hl 0 rfl) ?_
          refine lv_aload_n hx hb d_Mo_semicolon_55 rfl (lv_at hl 0 rfl) ?_
          refine va_get (D := (dC, dI)) (ci := 6) (v := .int (q_at mo_4)) (C := R_Mo) (T := T_Mo) (N := 31) hx hb hts u_Mo hown hK hP 0 rfl rfl 6 (by decide) (hts _ L_927) (fun _ h9 => h9) rfl d_Mo_semicolon_56 ?_
          refine mr_Vv (g := (f_Mo_refuse mo_4 (q_at mo_4))) (As := [.int (q_at mo_4)]) (rest := []) ⟨hx, hb, hml, hown, hts0⟩ (m_Mo_refuse l hlt dC dI cI cZ sa rk hm ma mo_4 _ (q_at mo_4) ) hP hD hK hS hA hC hZ hnt hlocks L_1072 L_1074 L_64 L_90 L_1075 k_Mo_refuse ⟨(by show _ ≤ 7; omega), (by show _ ≤ 102; omega)⟩ rfl rfl hl.1 (Nat.le_of_ble_eq_true rfl) d_Mo_semicolon_59 rfl (fun q z => by unfold f_Mo_semicolon; rw [bndM_r w_1, if_pos c_2, if_neg c_3, bndM_r w_4, if_pos c_5, if_pos cb_6, if_pos c_7, bndM_l z]) (fun mo_8 H locs w_8 hP hD hS => ?_)
          exact mr_vret (mo := mo_8) hx hb hr hlocks hK hP hD hS (by unfold f_Mo_semicolon; rw [bndM_r w_1, if_pos c_2, if_neg c_3, bndM_r w_4, if_pos c_5, if_pos cb_6, if_pos c_7, bndM_r w_8]) d_Mo_semicolon_62
  · refine lv_aload_n hx hb d_Mo_semicolon_9 rfl (lv_at hl 0 rfl) ?_
    refine lv_dup hx hb d_Mo_semicolon_10 rfl ?_
    refine va_get (D := (dC, dI)) (ci := 6) (v := .int (q_at mo_1)) (C := R_Mo) (T := T_Mo) (N := 31) hx hb hts u_Mo hown hK hP 0 rfl rfl 6 (by decide) (hts _ L_927) (fun _ h9 => h9) rfl d_Mo_semicolon_11 ?_
    refine lv_iconst (v := 1) hx hb d_Mo_semicolon_14 (by decide) ?_
    refine lv_iadd hx hb d_Mo_semicolon_15 ?_
    refine va_put (D := (dC, dI)) (ci := 6) (v := .int ((q_at mo_1) + 1)) (ty := .int) (C := R_Mo) (T := T_Mo) (N := 31) hx hb hts u_Mo ty_Mo tk_Mo nm_Mo hown hK hP hD hS 0 rfl rfl 6 (by decide) (hts _ L_927) (fun _ h9 => h9) rfl (by decide +kernel) rfl rfl (Nat.le_of_ble_eq_true rfl) d_Mo_semicolon_16 (fun H locs hP hD hS => ?_)
    have hP : va_P (dC, dI) cls (wM cI cZ hm ma (s_at mo_1 ((q_at mo_1) + 1))) H := hP
    have hD : va_D A (wM cI cZ hm ma (s_at mo_1 ((q_at mo_1) + 1))) := hD
    refine lv_goto (tgt := 62) hx hb d_Mo_semicolon_19 (by decide) ?_
    exact mr_vret (mo := (s_at mo_1 ((q_at mo_1) + 1))) hx hb hr hlocks hK hP hD hS (by unfold f_Mo_semicolon; rw [bndM_r w_1, if_neg c_2]) d_Mo_semicolon_62
def f_Mo_make (mo : MO) (k : Int32) (v : Int32) (token : Int32) : Rm := (if inb (q_made mo) 2600 then (some (.inr ((((q_made mo) + 1) - 1), (s_made (s_next (s_last (s_first (s_spot (s_value (s_kind mo (upd (q_kind mo) ((q_made mo) : Int32).toNatClampNeg k)) (upd (q_value mo) ((q_made mo) : Int32).toNatClampNeg v)) (upd (q_spot mo) ((q_made mo) : Int32).toNatClampNeg token)) (upd (q_first mo) ((q_made mo) : Int32).toNatClampNeg (-1))) (upd (q_last mo) ((q_made mo) : Int32).toNatClampNeg (-1))) (upd (q_next mo) ((q_made mo) : Int32).toNatClampNeg (-1))) ((q_made mo) + 1))))) else none)
set_option maxRecDepth 100000 in
set_option maxHeartbeats 4000000 in
theorem m_Mo_make (l : Launch) (hlt : l.stackTraces = false) (dC : Nat → ClassId) (dI : Nat → Nat → Nat) (cI cZ : ClassId) (sa rk hm : Nat) (ma : Nat → Nat)  (mo : MO) (sz : Nat) (k : Int32) (v : Int32) (token : Int32) (hg : (f_Mo_make mo k v token) ≠ none) : cXi l y_Mo_make c_Mo_make 4 .int (0) (0) (dC, dI) cI cZ sa rk hm ma mo sz [.ref hm, .int k, .int v, .int token] (f_Mo_make mo k v token) := by
  refine vx_ofW (cc := c_Mo_make) (maxL := 4) (ret := (some .int)) (by decide) rfl ?_
  intro p e s m args below meth c s₁ B hml hnt hv
  obtain ⟨rfl, hsz, hP, hK, hD0, hC, hZ⟩ := hv
  have hx := B.exec
  have hb := B.bytes
  have hr := B.returns
  have hts0 := atoms_spec (ws := wy y_Mo_make c_Mo_make 4 (some .int)) B.pre
  have hts := htsL hts0
  have hown : s.vm.findClass R_Mo = some m.cls := findClass_of_methodNamed B.named
  have hlocks := B.notSynchronized
  subst hsz
  have hD := hD0.self (sz := s.heap.size)
  generalize hAe : va_A (wM cI cZ hm ma mo) s.heap.size = A at hD hZ ⊢
  have hA : ∀ q : Nat, s.heap.size ≤ q → A q := fun q h => by rw [← hAe]; exact Or.inr h
  have hS : va_S A s.heap s.heap [] := va_S.rf
  have hl := lv_entry ([.ref hm, .int k, .int v, .int token]) (n := 4) (Nat.le_of_ble_eq_true rfl)
  rw [lg_entry_eq]
  generalize (lg_sl ([.ref hm, .int k, .int v, .int token]) ++ List.replicate (4 - (lg_sl ([.ref hm, .int k, .int v, .int token])).length) Slot.unset).toArray = ls at hl ⊢
  have hl : lv_has ls 4 [(0, .ref hm), (1, .int k), (2, .int v), (3, .int token)] := hl
  refine lv_aload_n hx hb d_Mo_make_0 rfl (lv_at hl 0 rfl) ?_
  refine va_get (D := (dC, dI)) (ci := 6) (v := .ref (ma 4)) (C := R_Mo) (T := T_Mo) (N := 31) hx hb hts u_Mo hown hK hP 0 rfl rfl 9 (by decide) (hts _ L_930) (fun _ h9 => h9) rfl d_Mo_make_1 ?_
  refine lv_aload_n hx hb d_Mo_make_4 rfl (lv_at hl 0 rfl) ?_
  refine va_get (D := (dC, dI)) (ci := 6) (v := .int (q_made mo)) (C := R_Mo) (T := T_Mo) (N := 31) hx hb hts u_Mo hown hK hP 0 rfl rfl 8 (by decide) (hts _ L_929) (fun _ h9 => h9) rfl d_Mo_make_5 ?_
  refine lv_iload_n hx hb d_Mo_make_8 rfl (lv_at hl 1 rfl) ?_
  by_cases cb_1 : inb (q_made mo) 2600
  case neg => exact absurd (by unfold f_Mo_make; rw [if_neg cb_1]) hg
  refine va_iast (D := (dC, dI)) hx hb hK hP hD hS 5 0 rfl rfl cb_1 d_Mo_make_9 (fun H locs hP hD hS => ?_)
  have hP : va_P (dC, dI) cls (wM cI cZ hm ma (s_kind mo (upd (q_kind mo) ((q_made mo) : Int32).toNatClampNeg k))) H := hP
  have hD : va_D A (wM cI cZ hm ma (s_kind mo (upd (q_kind mo) ((q_made mo) : Int32).toNatClampNeg k))) := hD
  refine lv_aload_n hx hb d_Mo_make_10 rfl (lv_at hl 0 rfl) ?_
  refine va_get (D := (dC, dI)) (ci := 6) (v := .ref (ma 5)) (C := R_Mo) (T := T_Mo) (N := 31) hx hb hts u_Mo hown hK hP 0 rfl rfl 10 (by decide) (hts _ L_931) (fun _ h9 => h9) rfl d_Mo_make_11 ?_
  refine lv_aload_n hx hb d_Mo_make_14 rfl (lv_at hl 0 rfl) ?_
  refine va_get (D := (dC, dI)) (ci := 6) (v := .int (q_made mo)) (C := R_Mo) (T := T_Mo) (N := 31) hx hb hts u_Mo hown hK hP 0 rfl rfl 8 (by decide) (hts _ L_929) (fun _ h9 => h9) rfl d_Mo_make_15 ?_
  refine lv_iload_n hx hb d_Mo_make_18 rfl (lv_at hl 2 rfl) ?_
  refine va_iast (D := (dC, dI)) hx hb hK hP hD hS 6 0 rfl rfl cb_1 d_Mo_make_19 (fun H locs hP hD hS => ?_)
  have hP : va_P (dC, dI) cls (wM cI cZ hm ma (s_value (s_kind mo (upd (q_kind mo) ((q_made mo) : Int32).toNatClampNeg k)) (upd (q_value mo) ((q_made mo) : Int32).toNatClampNeg v))) H := hP
  have hD : va_D A (wM cI cZ hm ma (s_value (s_kind mo (upd (q_kind mo) ((q_made mo) : Int32).toNatClampNeg k)) (upd (q_value mo) ((q_made mo) : Int32).toNatClampNeg v))) := hD
  refine lv_aload_n hx hb d_Mo_make_20 rfl (lv_at hl 0 rfl) ?_
  refine va_get (D := (dC, dI)) (ci := 6) (v := .ref (ma 6)) (C := R_Mo) (T := T_Mo) (N := 31) hx hb hts u_Mo hown hK hP 0 rfl rfl 11 (by decide) (hts _ L_932) (fun _ h9 => h9) rfl d_Mo_make_21 ?_
  refine lv_aload_n hx hb d_Mo_make_24 rfl (lv_at hl 0 rfl) ?_
  refine va_get (D := (dC, dI)) (ci := 6) (v := .int (q_made mo)) (C := R_Mo) (T := T_Mo) (N := 31) hx hb hts u_Mo hown hK hP 0 rfl rfl 8 (by decide) (hts _ L_929) (fun _ h9 => h9) rfl d_Mo_make_25 ?_
  refine lv_iload_n hx hb d_Mo_make_28 rfl (lv_at hl 3 rfl) ?_
  refine va_iast (D := (dC, dI)) hx hb hK hP hD hS 7 0 rfl rfl cb_1 d_Mo_make_29 (fun H locs hP hD hS => ?_)
  have hP : va_P (dC, dI) cls (wM cI cZ hm ma (s_spot (s_value (s_kind mo (upd (q_kind mo) ((q_made mo) : Int32).toNatClampNeg k)) (upd (q_value mo) ((q_made mo) : Int32).toNatClampNeg v)) (upd (q_spot mo) ((q_made mo) : Int32).toNatClampNeg token))) H := hP
  have hD : va_D A (wM cI cZ hm ma (s_spot (s_value (s_kind mo (upd (q_kind mo) ((q_made mo) : Int32).toNatClampNeg k)) (upd (q_value mo) ((q_made mo) : Int32).toNatClampNeg v)) (upd (q_spot mo) ((q_made mo) : Int32).toNatClampNeg token))) := hD
  refine lv_aload_n hx hb d_Mo_make_30 rfl (lv_at hl 0 rfl) ?_
  refine va_get (D := (dC, dI)) (ci := 6) (v := .ref (ma 7)) (C := R_Mo) (T := T_Mo) (N := 31) hx hb hts u_Mo hown hK hP 0 rfl rfl 12 (by decide) (hts _ L_933) (fun _ h9 => h9) rfl d_Mo_make_31 ?_
  refine lv_aload_n hx hb d_Mo_make_34 rfl (lv_at hl 0 rfl) ?_
  refine va_get (D := (dC, dI)) (ci := 6) (v := .int (q_made mo)) (C := R_Mo) (T := T_Mo) (N := 31) hx hb hts u_Mo hown hK hP 0 rfl rfl 8 (by decide) (hts _ L_929) (fun _ h9 => h9) rfl d_Mo_make_35 ?_
  refine lv_iconst (v := (-1)) hx hb d_Mo_make_38 (by decide) ?_
  refine va_iast (D := (dC, dI)) hx hb hK hP hD hS 8 0 rfl rfl cb_1 d_Mo_make_39 (fun H locs hP hD hS => ?_)
  have hP : va_P (dC, dI) cls (wM cI cZ hm ma (s_first (s_spot (s_value (s_kind mo (upd (q_kind mo) ((q_made mo) : Int32).toNatClampNeg k)) (upd (q_value mo) ((q_made mo) : Int32).toNatClampNeg v)) (upd (q_spot mo) ((q_made mo) : Int32).toNatClampNeg token)) (upd (q_first mo) ((q_made mo) : Int32).toNatClampNeg (-1)))) H := hP
  have hD : va_D A (wM cI cZ hm ma (s_first (s_spot (s_value (s_kind mo (upd (q_kind mo) ((q_made mo) : Int32).toNatClampNeg k)) (upd (q_value mo) ((q_made mo) : Int32).toNatClampNeg v)) (upd (q_spot mo) ((q_made mo) : Int32).toNatClampNeg token)) (upd (q_first mo) ((q_made mo) : Int32).toNatClampNeg (-1)))) := hD
  refine lv_aload_n hx hb d_Mo_make_40 rfl (lv_at hl 0 rfl) ?_
  refine va_get (D := (dC, dI)) (ci := 6) (v := .ref (ma 8)) (C := R_Mo) (T := T_Mo) (N := 31) hx hb hts u_Mo hown hK hP 0 rfl rfl 13 (by decide) (hts _ L_934) (fun _ h9 => h9) rfl d_Mo_make_41 ?_
  refine lv_aload_n hx hb d_Mo_make_44 rfl (lv_at hl 0 rfl) ?_
  refine va_get (D := (dC, dI)) (ci := 6) (v := .int (q_made mo)) (C := R_Mo) (T := T_Mo) (N := 31) hx hb hts u_Mo hown hK hP 0 rfl rfl 8 (by decide) (hts _ L_929) (fun _ h9 => h9) rfl d_Mo_make_45 ?_
  refine lv_iconst (v := (-1)) hx hb d_Mo_make_48 (by decide) ?_
  refine va_iast (D := (dC, dI)) hx hb hK hP hD hS 9 0 rfl rfl cb_1 d_Mo_make_49 (fun H locs hP hD hS => ?_)
  have hP : va_P (dC, dI) cls (wM cI cZ hm ma (s_last (s_first (s_spot (s_value (s_kind mo (upd (q_kind mo) ((q_made mo) : Int32).toNatClampNeg k)) (upd (q_value mo) ((q_made mo) : Int32).toNatClampNeg v)) (upd (q_spot mo) ((q_made mo) : Int32).toNatClampNeg token)) (upd (q_first mo) ((q_made mo) : Int32).toNatClampNeg (-1))) (upd (q_last mo) ((q_made mo) : Int32).toNatClampNeg (-1)))) H := hP
  have hD : va_D A (wM cI cZ hm ma (s_last (s_first (s_spot (s_value (s_kind mo (upd (q_kind mo) ((q_made mo) : Int32).toNatClampNeg k)) (upd (q_value mo) ((q_made mo) : Int32).toNatClampNeg v)) (upd (q_spot mo) ((q_made mo) : Int32).toNatClampNeg token)) (upd (q_first mo) ((q_made mo) : Int32).toNatClampNeg (-1))) (upd (q_last mo) ((q_made mo) : Int32).toNatClampNeg (-1)))) := hD
  refine lv_aload_n hx hb d_Mo_make_50 rfl (lv_at hl 0 rfl) ?_
  refine va_get (D := (dC, dI)) (ci := 6) (v := .ref (ma 9)) (C := R_Mo) (T := T_Mo) (N := 31) hx hb hts u_Mo hown hK hP 0 rfl rfl 14 (by decide) (hts _ L_935) (fun _ h9 => h9) rfl d_Mo_make_51 ?_
  refine lv_aload_n hx hb d_Mo_make_54 rfl (lv_at hl 0 rfl) ?_
  refine va_get (D := (dC, dI)) (ci := 6) (v := .int (q_made mo)) (C := R_Mo) (T := T_Mo) (N := 31) hx hb hts u_Mo hown hK hP 0 rfl rfl 8 (by decide) (hts _ L_929) (fun _ h9 => h9) rfl d_Mo_make_55 ?_
  refine lv_iconst (v := (-1)) hx hb d_Mo_make_58 (by decide) ?_
  refine va_iast (D := (dC, dI)) hx hb hK hP hD hS 10 0 rfl rfl cb_1 d_Mo_make_59 (fun H locs hP hD hS => ?_)
  have hP : va_P (dC, dI) cls (wM cI cZ hm ma (s_next (s_last (s_first (s_spot (s_value (s_kind mo (upd (q_kind mo) ((q_made mo) : Int32).toNatClampNeg k)) (upd (q_value mo) ((q_made mo) : Int32).toNatClampNeg v)) (upd (q_spot mo) ((q_made mo) : Int32).toNatClampNeg token)) (upd (q_first mo) ((q_made mo) : Int32).toNatClampNeg (-1))) (upd (q_last mo) ((q_made mo) : Int32).toNatClampNeg (-1))) (upd (q_next mo) ((q_made mo) : Int32).toNatClampNeg (-1)))) H := hP
  have hD : va_D A (wM cI cZ hm ma (s_next (s_last (s_first (s_spot (s_value (s_kind mo (upd (q_kind mo) ((q_made mo) : Int32).toNatClampNeg k)) (upd (q_value mo) ((q_made mo) : Int32).toNatClampNeg v)) (upd (q_spot mo) ((q_made mo) : Int32).toNatClampNeg token)) (upd (q_first mo) ((q_made mo) : Int32).toNatClampNeg (-1))) (upd (q_last mo) ((q_made mo) : Int32).toNatClampNeg (-1))) (upd (q_next mo) ((q_made mo) : Int32).toNatClampNeg (-1)))) := hD
  refine lv_aload_n hx hb d_Mo_make_60 rfl (lv_at hl 0 rfl) ?_
  refine lv_dup hx hb d_Mo_make_61 rfl ?_
  refine va_get (D := (dC, dI)) (ci := 6) (v := .int (q_made mo)) (C := R_Mo) (T := T_Mo) (N := 31) hx hb hts u_Mo hown hK hP 0 rfl rfl 8 (by decide) (hts _ L_929) (fun _ h9 => h9) rfl d_Mo_make_62 ?_
  refine lv_iconst (v := 1) hx hb d_Mo_make_65 (by decide) ?_
  refine lv_iadd hx hb d_Mo_make_66 ?_
  refine va_put (D := (dC, dI)) (ci := 6) (v := .int ((q_made mo) + 1)) (ty := .int) (C := R_Mo) (T := T_Mo) (N := 31) hx hb hts u_Mo ty_Mo tk_Mo nm_Mo hown hK hP hD hS 0 rfl rfl 8 (by decide) (hts _ L_929) (fun _ h9 => h9) rfl (by decide +kernel) rfl rfl (Nat.le_of_ble_eq_true rfl) d_Mo_make_67 (fun H locs hP hD hS => ?_)
  have hP : va_P (dC, dI) cls (wM cI cZ hm ma (s_made (s_next (s_last (s_first (s_spot (s_value (s_kind mo (upd (q_kind mo) ((q_made mo) : Int32).toNatClampNeg k)) (upd (q_value mo) ((q_made mo) : Int32).toNatClampNeg v)) (upd (q_spot mo) ((q_made mo) : Int32).toNatClampNeg token)) (upd (q_first mo) ((q_made mo) : Int32).toNatClampNeg (-1))) (upd (q_last mo) ((q_made mo) : Int32).toNatClampNeg (-1))) (upd (q_next mo) ((q_made mo) : Int32).toNatClampNeg (-1))) ((q_made mo) + 1))) H := hP
  have hD : va_D A (wM cI cZ hm ma (s_made (s_next (s_last (s_first (s_spot (s_value (s_kind mo (upd (q_kind mo) ((q_made mo) : Int32).toNatClampNeg k)) (upd (q_value mo) ((q_made mo) : Int32).toNatClampNeg v)) (upd (q_spot mo) ((q_made mo) : Int32).toNatClampNeg token)) (upd (q_first mo) ((q_made mo) : Int32).toNatClampNeg (-1))) (upd (q_last mo) ((q_made mo) : Int32).toNatClampNeg (-1))) (upd (q_next mo) ((q_made mo) : Int32).toNatClampNeg (-1))) ((q_made mo) + 1))) := hD
  refine lv_aload_n hx hb d_Mo_make_70 rfl (lv_at hl 0 rfl) ?_
  refine va_get (D := (dC, dI)) (ci := 6) (v := .int ((q_made mo) + 1)) (C := R_Mo) (T := T_Mo) (N := 31) hx hb hts u_Mo hown hK hP 0 rfl rfl 8 (by decide) (hts _ L_929) (fun _ h9 => h9) rfl d_Mo_make_71 ?_
  refine lv_iconst (v := 1) hx hb d_Mo_make_74 (by decide) ?_
  refine lv_isub hx hb d_Mo_make_75 ?_
  exact mr_iret (v := (((q_made mo) + 1) - 1)) (mo := (s_made (s_next (s_last (s_first (s_spot (s_value (s_kind mo (upd (q_kind mo) ((q_made mo) : Int32).toNatClampNeg k)) (upd (q_value mo) ((q_made mo) : Int32).toNatClampNeg v)) (upd (q_spot mo) ((q_made mo) : Int32).toNatClampNeg token)) (upd (q_first mo) ((q_made mo) : Int32).toNatClampNeg (-1))) (upd (q_last mo) ((q_made mo) : Int32).toNatClampNeg (-1))) (upd (q_next mo) ((q_made mo) : Int32).toNatClampNeg (-1))) ((q_made mo) + 1))) hx hb hr hlocks hK hP hD hS (by unfold f_Mo_make; rw [if_pos cb_1]) d_Mo_make_76
def f_Mo_hang (mo : MO) (parent : Int32) (ch : Int32) : Rm := (if inb parent 2600 then (if 0 ≤ ((q_first mo) (parent : Int32).toNatClampNeg) then (if inb ((q_last mo) (parent : Int32).toNatClampNeg) 2600 then (some (.inr (0, (s_next (s_last mo (upd (q_last mo) (parent : Int32).toNatClampNeg ch)) (upd (q_next mo) (((q_last mo) (parent : Int32).toNatClampNeg) : Int32).toNatClampNeg ch))))) else none) else (some (.inr (0, (s_last (s_first mo (upd (q_first mo) (parent : Int32).toNatClampNeg ch)) (upd (q_last mo) (parent : Int32).toNatClampNeg ch)))))) else none)
set_option maxRecDepth 100000 in
set_option maxHeartbeats 4000000 in
theorem m_Mo_hang (l : Launch) (hlt : l.stackTraces = false) (dC : Nat → ClassId) (dI : Nat → Nat → Nat) (cI cZ : ClassId) (sa rk hm : Nat) (ma : Nat → Nat)  (mo : MO) (sz : Nat) (parent : Int32) (ch : Int32) (hg : (f_Mo_hang mo parent ch) ≠ none) : cXv l y_Mo_hang c_Mo_hang 3 (0) (0) (dC, dI) cI cZ sa rk hm ma mo sz [.ref hm, .int parent, .int ch] (f_Mo_hang mo parent ch) := by
  refine vx_ofW (cc := c_Mo_hang) (maxL := 3) (ret := none) (by decide) rfl ?_
  intro p e s m args below meth c s₁ B hml hnt hv
  obtain ⟨rfl, hsz, hP, hK, hD0, hC, hZ⟩ := hv
  have hx := B.exec
  have hb := B.bytes
  have hr := B.returns
  have hts0 := atoms_spec (ws := wy y_Mo_hang c_Mo_hang 3 none) B.pre
  have hts := htsL hts0
  have hown : s.vm.findClass R_Mo = some m.cls := findClass_of_methodNamed B.named
  have hlocks := B.notSynchronized
  subst hsz
  have hD := hD0.self (sz := s.heap.size)
  generalize hAe : va_A (wM cI cZ hm ma mo) s.heap.size = A at hD hZ ⊢
  have hA : ∀ q : Nat, s.heap.size ≤ q → A q := fun q h => by rw [← hAe]; exact Or.inr h
  have hS : va_S A s.heap s.heap [] := va_S.rf
  have hl := lv_entry ([.ref hm, .int parent, .int ch]) (n := 3) (Nat.le_of_ble_eq_true rfl)
  rw [lg_entry_eq]
  generalize (lg_sl ([.ref hm, .int parent, .int ch]) ++ List.replicate (3 - (lg_sl ([.ref hm, .int parent, .int ch])).length) Slot.unset).toArray = ls at hl ⊢
  have hl : lv_has ls 3 [(0, .ref hm), (1, .int parent), (2, .int ch)] := hl
  refine lv_aload_n hx hb d_Mo_hang_0 rfl (lv_at hl 0 rfl) ?_
  refine va_get (D := (dC, dI)) (ci := 6) (v := .ref (ma 7)) (C := R_Mo) (T := T_Mo) (N := 31) hx hb hts u_Mo hown hK hP 0 rfl rfl 12 (by decide) (hts _ L_933) (fun _ h9 => h9) rfl d_Mo_hang_1 ?_
  refine lv_iload_n hx hb d_Mo_hang_4 rfl (lv_at hl 1 rfl) ?_
  by_cases cb_1 : inb parent 2600
  case neg => exact absurd (by unfold f_Mo_hang; rw [if_neg cb_1]) hg
  refine va_iald (D := (dC, dI)) hx hb hK hP 8 0 rfl rfl cb_1 d_Mo_hang_5 ?_
  refine lv_if_ge (tgt := 19) hx hb d_Mo_hang_6 (by decide) (fun c_2 => ?_) (fun c_2 => ?_)
  · refine lv_aload_n hx hb d_Mo_hang_19 rfl (lv_at hl 0 rfl) ?_
    refine va_get (D := (dC, dI)) (ci := 6) (v := .ref (ma 9)) (C := R_Mo) (T := T_Mo) (N := 31) hx hb hts u_Mo hown hK hP 0 rfl rfl 14 (by decide) (hts _ L_935) (fun _ h9 => h9) rfl d_Mo_hang_20 ?_
    refine lv_aload_n hx hb d_Mo_hang_23 rfl (lv_at hl 0 rfl) ?_
    refine va_get (D := (dC, dI)) (ci := 6) (v := .ref (ma 8)) (C := R_Mo) (T := T_Mo) (N := 31) hx hb hts u_Mo hown hK hP 0 rfl rfl 13 (by decide) (hts _ L_934) (fun _ h9 => h9) rfl d_Mo_hang_24 ?_
    refine lv_iload_n hx hb d_Mo_hang_27 rfl (lv_at hl 1 rfl) ?_
    refine va_iald (D := (dC, dI)) hx hb hK hP 9 0 rfl rfl cb_1 d_Mo_hang_28 ?_
    refine lv_iload_n hx hb d_Mo_hang_29 rfl (lv_at hl 2 rfl) ?_
    by_cases cb_3 : inb ((q_last mo) (parent : Int32).toNatClampNeg) 2600
    case neg => exact absurd (by unfold f_Mo_hang; rw [if_pos cb_1, if_pos c_2, if_neg cb_3]) hg
    refine va_iast (D := (dC, dI)) hx hb hK hP hD hS 10 0 rfl rfl cb_3 d_Mo_hang_30 (fun H locs hP hD hS => ?_)
    have hP : va_P (dC, dI) cls (wM cI cZ hm ma (s_next mo (upd (q_next mo) (((q_last mo) (parent : Int32).toNatClampNeg) : Int32).toNatClampNeg ch))) H := hP
    have hD : va_D A (wM cI cZ hm ma (s_next mo (upd (q_next mo) (((q_last mo) (parent : Int32).toNatClampNeg) : Int32).toNatClampNeg ch))) := hD
    refine lv_aload_n hx hb d_Mo_hang_31 rfl (lv_at hl 0 rfl) ?_
    refine va_get (D := (dC, dI)) (ci := 6) (v := .ref (ma 8)) (C := R_Mo) (T := T_Mo) (N := 31) hx hb hts u_Mo hown hK hP 0 rfl rfl 13 (by decide) (hts _ L_934) (fun _ h9 => h9) rfl d_Mo_hang_32 ?_
    refine lv_iload_n hx hb d_Mo_hang_35 rfl (lv_at hl 1 rfl) ?_
    refine lv_iload_n hx hb d_Mo_hang_36 rfl (lv_at hl 2 rfl) ?_
    refine va_iast (D := (dC, dI)) hx hb hK hP hD hS 9 0 rfl rfl cb_1 d_Mo_hang_37 (fun H locs hP hD hS => ?_)
    have hP : va_P (dC, dI) cls (wM cI cZ hm ma (s_next (s_last mo (upd (q_last mo) (parent : Int32).toNatClampNeg ch)) (upd (q_next mo) (((q_last mo) (parent : Int32).toNatClampNeg) : Int32).toNatClampNeg ch))) H := hP
    have hD : va_D A (wM cI cZ hm ma (s_next (s_last mo (upd (q_last mo) (parent : Int32).toNatClampNeg ch)) (upd (q_next mo) (((q_last mo) (parent : Int32).toNatClampNeg) : Int32).toNatClampNeg ch))) := hD
    exact mr_vret (mo := (s_next (s_last mo (upd (q_last mo) (parent : Int32).toNatClampNeg ch)) (upd (q_next mo) (((q_last mo) (parent : Int32).toNatClampNeg) : Int32).toNatClampNeg ch))) hx hb hr hlocks hK hP hD hS (by unfold f_Mo_hang; rw [if_pos cb_1, if_pos c_2, if_pos cb_3]) d_Mo_hang_38
  · refine lv_aload_n hx hb d_Mo_hang_9 rfl (lv_at hl 0 rfl) ?_
    refine va_get (D := (dC, dI)) (ci := 6) (v := .ref (ma 7)) (C := R_Mo) (T := T_Mo) (N := 31) hx hb hts u_Mo hown hK hP 0 rfl rfl 12 (by decide) (hts _ L_933) (fun _ h9 => h9) rfl d_Mo_hang_10 ?_
    refine lv_iload_n hx hb d_Mo_hang_13 rfl (lv_at hl 1 rfl) ?_
    refine lv_iload_n hx hb d_Mo_hang_14 rfl (lv_at hl 2 rfl) ?_
    refine va_iast (D := (dC, dI)) hx hb hK hP hD hS 8 0 rfl rfl cb_1 d_Mo_hang_15 (fun H locs hP hD hS => ?_)
    have hP : va_P (dC, dI) cls (wM cI cZ hm ma (s_first mo (upd (q_first mo) (parent : Int32).toNatClampNeg ch))) H := hP
    have hD : va_D A (wM cI cZ hm ma (s_first mo (upd (q_first mo) (parent : Int32).toNatClampNeg ch))) := hD
    refine lv_goto (tgt := 31) hx hb d_Mo_hang_16 (by decide) ?_
    refine lv_aload_n hx hb d_Mo_hang_31 rfl (lv_at hl 0 rfl) ?_
    refine va_get (D := (dC, dI)) (ci := 6) (v := .ref (ma 8)) (C := R_Mo) (T := T_Mo) (N := 31) hx hb hts u_Mo hown hK hP 0 rfl rfl 13 (by decide) (hts _ L_934) (fun _ h9 => h9) rfl d_Mo_hang_32 ?_
    refine lv_iload_n hx hb d_Mo_hang_35 rfl (lv_at hl 1 rfl) ?_
    refine lv_iload_n hx hb d_Mo_hang_36 rfl (lv_at hl 2 rfl) ?_
    refine va_iast (D := (dC, dI)) hx hb hK hP hD hS 9 0 rfl rfl cb_1 d_Mo_hang_37 (fun H locs hP hD hS => ?_)
    have hP : va_P (dC, dI) cls (wM cI cZ hm ma (s_last (s_first mo (upd (q_first mo) (parent : Int32).toNatClampNeg ch)) (upd (q_last mo) (parent : Int32).toNatClampNeg ch))) H := hP
    have hD : va_D A (wM cI cZ hm ma (s_last (s_first mo (upd (q_first mo) (parent : Int32).toNatClampNeg ch)) (upd (q_last mo) (parent : Int32).toNatClampNeg ch))) := hD
    exact mr_vret (mo := (s_last (s_first mo (upd (q_first mo) (parent : Int32).toNatClampNeg ch)) (upd (q_last mo) (parent : Int32).toNatClampNeg ch))) hx hb hr hlocks hK hP hD hS (by unfold f_Mo_hang; rw [if_pos cb_1, if_neg c_2]) d_Mo_hang_38
def f_Mo_none (mo : MO) (parent : Int32) : Rm := (bndM (f_Mo_make mo 59 0 (q_at mo)) (fun r_1 mo_1 => (bndM (f_Mo_hang mo_1 parent r_1) (fun _ mo_2 => (some (.inr (0, mo_2)))))))
set_option maxRecDepth 100000 in
set_option maxHeartbeats 4000000 in
theorem m_Mo_none (l : Launch) (hlt : l.stackTraces = false) (dC : Nat → ClassId) (dI : Nat → Nat → Nat) (cI cZ : ClassId) (sa rk hm : Nat) (ma : Nat → Nat)  (mo : MO) (sz : Nat) (parent : Int32) (hg : (f_Mo_none mo parent) ≠ none) : cXv l y_Mo_none c_Mo_none 2 (1) (23) (dC, dI) cI cZ sa rk hm ma mo sz [.ref hm, .int parent] (f_Mo_none mo parent) := by
  refine vx_ofW (cc := c_Mo_none) (maxL := 2) (ret := none) (by decide) rfl ?_
  intro p e s m args below meth c s₁ B hml hnt hv
  obtain ⟨rfl, hsz, hP, hK, hD0, hC, hZ⟩ := hv
  have hx := B.exec
  have hb := B.bytes
  have hr := B.returns
  have hts0 := atoms_spec (ws := wy y_Mo_none c_Mo_none 2 none) B.pre
  have hts := htsL hts0
  have hown : s.vm.findClass R_Mo = some m.cls := findClass_of_methodNamed B.named
  have hlocks := B.notSynchronized
  subst hsz
  have hD := hD0.self (sz := s.heap.size)
  generalize hAe : va_A (wM cI cZ hm ma mo) s.heap.size = A at hD hZ ⊢
  have hA : ∀ q : Nat, s.heap.size ≤ q → A q := fun q h => by rw [← hAe]; exact Or.inr h
  have hS : va_S A s.heap s.heap [] := va_S.rf
  have hl := lv_entry ([.ref hm, .int parent]) (n := 2) (Nat.le_of_ble_eq_true rfl)
  rw [lg_entry_eq]
  generalize (lg_sl ([.ref hm, .int parent]) ++ List.replicate (2 - (lg_sl ([.ref hm, .int parent])).length) Slot.unset).toArray = ls at hl ⊢
  have hl : lv_has ls 2 [(0, .ref hm), (1, .int parent)] := hl
  refine lv_aload_n hx hb d_Mo_none_0 rfl (lv_at hl 0 rfl) ?_
  refine lv_iload_n hx hb d_Mo_none_1 rfl (lv_at hl 1 rfl) ?_
  refine lv_aload_n hx hb d_Mo_none_2 rfl (lv_at hl 0 rfl) ?_
  refine lv_bipush (v := 59) hx hb d_Mo_none_3 (by decide) ?_
  refine lv_iconst (v := 0) hx hb d_Mo_none_5 (by decide) ?_
  refine lv_aload_n hx hb d_Mo_none_6 rfl (lv_at hl 0 rfl) ?_
  refine va_get (D := (dC, dI)) (ci := 6) (v := .int (q_at mo)) (C := R_Mo) (T := T_Mo) (N := 31) hx hb hts u_Mo hown hK hP 0 rfl rfl 6 (by decide) (hts _ L_927) (fun _ h9 => h9) rfl d_Mo_none_7 ?_
  refine mr_Vi (g := (f_Mo_make mo 59 0 (q_at mo))) (As := [.int 59, .int 0, .int (q_at mo)]) (rest := [.int parent, .ref hm]) ⟨hx, hb, hml, hown, hts0⟩ (m_Mo_make l hlt dC dI cI cZ sa rk hm ma mo _ 59 0 (q_at mo) (fun z => hg (by unfold f_Mo_none; rw [bndM_n z]))) hP hD hK hS hA hC hZ hnt hlocks L_1046 L_1048 L_59 L_90 L_1049 k_Mo_make ⟨(by show _ ≤ 1; omega), (by show _ ≤ 23; omega)⟩ rfl rfl hl.1 (Nat.le_of_ble_eq_true rfl) d_Mo_none_10 rfl (fun q z => by unfold f_Mo_none; rw [bndM_l z]) (fun r_1 mo_1 H locs w_1 hP hD hS => ?_)
  refine mr_Vv (g := (f_Mo_hang mo_1 parent r_1)) (As := [.int parent, .int r_1]) (rest := []) ⟨hx, hb, hml, hown, hts0⟩ (m_Mo_hang l hlt dC dI cI cZ sa rk hm ma mo_1 _ parent r_1 (fun z => hg (by unfold f_Mo_none; rw [bndM_r w_1, bndM_n z]))) hP hD hK hS hA hC hZ hnt hlocks L_1115 L_1117 L_69 L_90 L_1118 k_Mo_hang ⟨(by show _ ≤ 1; omega), (by show _ ≤ 23; omega)⟩ rfl rfl hl.1 (Nat.le_of_ble_eq_true rfl) d_Mo_none_13 rfl (fun q z => by unfold f_Mo_none; rw [bndM_r w_1, bndM_l z]) (fun mo_2 H locs w_2 hP hD hS => ?_)
  exact mr_vret (mo := mo_2) hx hb hr hlocks hK hP hD hS (by unfold f_Mo_none; rw [bndM_r w_1, bndM_r w_2]) d_Mo_none_16
def f_Mo_deep (mo : MO) (depth : Int32) : Rm := (if depth ≤ 100 then (some (.inr (0, mo))) else (bndM (f_Mo_refuse mo (q_at mo)) (fun _ mo_2 => (some (.inr (0, mo_2))))))
set_option maxRecDepth 100000 in
set_option maxHeartbeats 4000000 in
theorem m_Mo_deep (l : Launch) (hlt : l.stackTraces = false) (dC : Nat → ClassId) (dI : Nat → Nat → Nat) (cI cZ : ClassId) (sa rk hm : Nat) (ma : Nat → Nat)  (mo : MO) (sz : Nat) (depth : Int32) (hg : (f_Mo_deep mo depth) ≠ none) : cXv l y_Mo_deep c_Mo_deep 2 (7) (102) (dC, dI) cI cZ sa rk hm ma mo sz [.ref hm, .int depth] (f_Mo_deep mo depth) := by
  refine vx_ofW (cc := c_Mo_deep) (maxL := 2) (ret := none) (by decide) rfl ?_
  intro p e s m args below meth c s₁ B hml hnt hv
  obtain ⟨rfl, hsz, hP, hK, hD0, hC, hZ⟩ := hv
  have hx := B.exec
  have hb := B.bytes
  have hr := B.returns
  have hts0 := atoms_spec (ws := wy y_Mo_deep c_Mo_deep 2 none) B.pre
  have hts := htsL hts0
  have hown : s.vm.findClass R_Mo = some m.cls := findClass_of_methodNamed B.named
  have hlocks := B.notSynchronized
  subst hsz
  have hD := hD0.self (sz := s.heap.size)
  generalize hAe : va_A (wM cI cZ hm ma mo) s.heap.size = A at hD hZ ⊢
  have hA : ∀ q : Nat, s.heap.size ≤ q → A q := fun q h => by rw [← hAe]; exact Or.inr h
  have hS : va_S A s.heap s.heap [] := va_S.rf
  have hl := lv_entry ([.ref hm, .int depth]) (n := 2) (Nat.le_of_ble_eq_true rfl)
  rw [lg_entry_eq]
  generalize (lg_sl ([.ref hm, .int depth]) ++ List.replicate (2 - (lg_sl ([.ref hm, .int depth])).length) Slot.unset).toArray = ls at hl ⊢
  have hl : lv_has ls 2 [(0, .ref hm), (1, .int depth)] := hl
  refine lv_iload_n hx hb d_Mo_deep_0 rfl (lv_at hl 1 rfl) ?_
  refine lv_bipush (v := 100) hx hb d_Mo_deep_1 (by decide) ?_
  refine lv_icmp_le (tgt := 14) hx hb d_Mo_deep_3 (by decide) (fun c_1 => ?_) (fun c_1 => ?_)
  · exact mr_vret (mo := mo) hx hb hr hlocks hK hP hD hS (by unfold f_Mo_deep; rw [if_pos c_1]) d_Mo_deep_14
  · refine lv_aload_n hx hb d_Mo_deep_6 rfl (lv_at hl 0 rfl) ?_
    refine lv_aload_n hx hb d_Mo_deep_7 rfl (lv_at hl 0 rfl) ?_
    refine va_get (D := (dC, dI)) (ci := 6) (v := .int (q_at mo)) (C := R_Mo) (T := T_Mo) (N := 31) hx hb hts u_Mo hown hK hP 0 rfl rfl 6 (by decide) (hts _ L_927) (fun _ h9 => h9) rfl d_Mo_deep_8 ?_
    refine mr_Vv (g := (f_Mo_refuse mo (q_at mo))) (As := [.int (q_at mo)]) (rest := []) ⟨hx, hb, hml, hown, hts0⟩ (m_Mo_refuse l hlt dC dI cI cZ sa rk hm ma mo _ (q_at mo) ) hP hD hK hS hA hC hZ hnt hlocks L_1072 L_1074 L_64 L_90 L_1075 k_Mo_refuse ⟨(by show _ ≤ 7; omega), (by show _ ≤ 102; omega)⟩ rfl rfl hl.1 (Nat.le_of_ble_eq_true rfl) d_Mo_deep_11 rfl (fun q z => by unfold f_Mo_deep; rw [if_neg c_1, bndM_l z]) (fun mo_2 H locs w_2 hP hD hS => ?_)
    exact mr_vret (mo := mo_2) hx hb hr hlocks hK hP hD hS (by unfold f_Mo_deep; rw [if_neg c_1, bndM_r w_2]) d_Mo_deep_14
def f_Mo_isPlace (mo : MO) (n : Int32) : Rm := (if inb n 2600 then (if ((q_kind mo) (n : Int32).toNatClampNeg) = 28 then (some (.inr (1, mo))) else (if ((q_kind mo) (n : Int32).toNatClampNeg) = 36 then (some (.inr (1, mo))) else (if ((q_kind mo) (n : Int32).toNatClampNeg) = 37 then (some (.inr (1, mo))) else (some (.inr (0, mo)))))) else none)
set_option maxRecDepth 100000 in
set_option maxHeartbeats 4000000 in
theorem m_Mo_isPlace (l : Launch) (hlt : l.stackTraces = false) (dC : Nat → ClassId) (dI : Nat → Nat → Nat) (cI cZ : ClassId) (sa rk hm : Nat) (ma : Nat → Nat)  (mo : MO) (sz : Nat) (n : Int32) (hg : (f_Mo_isPlace mo n) ≠ none) : cXi l y_Mo_isPlace c_Mo_isPlace 2 .boolean (0) (0) (dC, dI) cI cZ sa rk hm ma mo sz [.ref hm, .int n] (f_Mo_isPlace mo n) := by
  refine vx_ofW (cc := c_Mo_isPlace) (maxL := 2) (ret := (some .boolean)) (by decide) rfl ?_
  intro p e s m args below meth c s₁ B hml hnt hv
  obtain ⟨rfl, hsz, hP, hK, hD0, hC, hZ⟩ := hv
  have hx := B.exec
  have hb := B.bytes
  have hr := B.returns
  have hts0 := atoms_spec (ws := wy y_Mo_isPlace c_Mo_isPlace 2 (some .boolean)) B.pre
  have hts := htsL hts0
  have hown : s.vm.findClass R_Mo = some m.cls := findClass_of_methodNamed B.named
  have hlocks := B.notSynchronized
  subst hsz
  have hD := hD0.self (sz := s.heap.size)
  generalize hAe : va_A (wM cI cZ hm ma mo) s.heap.size = A at hD hZ ⊢
  have hA : ∀ q : Nat, s.heap.size ≤ q → A q := fun q h => by rw [← hAe]; exact Or.inr h
  have hS : va_S A s.heap s.heap [] := va_S.rf
  have hl := lv_entry ([.ref hm, .int n]) (n := 2) (Nat.le_of_ble_eq_true rfl)
  rw [lg_entry_eq]
  generalize (lg_sl ([.ref hm, .int n]) ++ List.replicate (2 - (lg_sl ([.ref hm, .int n])).length) Slot.unset).toArray = ls at hl ⊢
  have hl : lv_has ls 2 [(0, .ref hm), (1, .int n)] := hl
  refine lv_aload_n hx hb d_Mo_isPlace_0 rfl (lv_at hl 0 rfl) ?_
  refine va_get (D := (dC, dI)) (ci := 6) (v := .ref (ma 4)) (C := R_Mo) (T := T_Mo) (N := 31) hx hb hts u_Mo hown hK hP 0 rfl rfl 9 (by decide) (hts _ L_930) (fun _ h9 => h9) rfl d_Mo_isPlace_1 ?_
  refine lv_iload_n hx hb d_Mo_isPlace_4 rfl (lv_at hl 1 rfl) ?_
  by_cases cb_1 : inb n 2600
  case neg => exact absurd (by unfold f_Mo_isPlace; rw [if_neg cb_1]) hg
  refine va_iald (D := (dC, dI)) hx hb hK hP 5 0 rfl rfl cb_1 d_Mo_isPlace_5 ?_
  refine lv_bipush (v := 28) hx hb d_Mo_isPlace_6 (by decide) ?_
  refine lv_icmp_eq (tgt := 33) hx hb d_Mo_isPlace_8 (by decide) (fun c_2 => ?_) (fun c_2 => ?_)
  · refine lv_iconst (v := 1) hx hb d_Mo_isPlace_33 (by decide) ?_
    refine lv_goto (tgt := 38) hx hb d_Mo_isPlace_34 (by decide) ?_
    exact mr_zret (v := 1) (mo := mo) hx hb hr rfl hlocks hK hP hD hS (by unfold f_Mo_isPlace; rw [if_pos cb_1, if_pos c_2]) d_Mo_isPlace_38
  · refine lv_aload_n hx hb d_Mo_isPlace_11 rfl (lv_at hl 0 rfl) ?_
    refine va_get (D := (dC, dI)) (ci := 6) (v := .ref (ma 4)) (C := R_Mo) (T := T_Mo) (N := 31) hx hb hts u_Mo hown hK hP 0 rfl rfl 9 (by decide) (hts _ L_930) (fun _ h9 => h9) rfl d_Mo_isPlace_12 ?_
    refine lv_iload_n hx hb d_Mo_isPlace_15 rfl (lv_at hl 1 rfl) ?_
    refine va_iald (D := (dC, dI)) hx hb hK hP 5 0 rfl rfl cb_1 d_Mo_isPlace_16 ?_
    refine lv_bipush (v := 36) hx hb d_Mo_isPlace_17 (by decide) ?_
    refine lv_icmp_eq (tgt := 33) hx hb d_Mo_isPlace_19 (by decide) (fun c_3 => ?_) (fun c_3 => ?_)
    · refine lv_iconst (v := 1) hx hb d_Mo_isPlace_33 (by decide) ?_
      refine lv_goto (tgt := 38) hx hb d_Mo_isPlace_34 (by decide) ?_
      exact mr_zret (v := 1) (mo := mo) hx hb hr rfl hlocks hK hP hD hS (by unfold f_Mo_isPlace; rw [if_pos cb_1, if_neg c_2, if_pos c_3]) d_Mo_isPlace_38
    · refine lv_aload_n hx hb d_Mo_isPlace_22 rfl (lv_at hl 0 rfl) ?_
      refine va_get (D := (dC, dI)) (ci := 6) (v := .ref (ma 4)) (C := R_Mo) (T := T_Mo) (N := 31) hx hb hts u_Mo hown hK hP 0 rfl rfl 9 (by decide) (hts _ L_930) (fun _ h9 => h9) rfl d_Mo_isPlace_23 ?_
      refine lv_iload_n hx hb d_Mo_isPlace_26 rfl (lv_at hl 1 rfl) ?_
      refine va_iald (D := (dC, dI)) hx hb hK hP 5 0 rfl rfl cb_1 d_Mo_isPlace_27 ?_
      refine lv_bipush (v := 37) hx hb d_Mo_isPlace_28 (by decide) ?_
      refine lv_icmp_ne (tgt := 37) hx hb d_Mo_isPlace_30 (by decide) (fun c_4 => ?_) (fun c_4 => ?_)
      · refine lv_iconst (v := 0) hx hb d_Mo_isPlace_37 (by decide) ?_
        exact mr_zret (v := 0) (mo := mo) hx hb hr rfl hlocks hK hP hD hS (by unfold f_Mo_isPlace; rw [if_pos cb_1, if_neg c_2, if_neg c_3, if_neg c_4]) d_Mo_isPlace_38
      · refine lv_iconst (v := 1) hx hb d_Mo_isPlace_33 (by decide) ?_
        refine lv_goto (tgt := 38) hx hb d_Mo_isPlace_34 (by decide) ?_
        exact mr_zret (v := 1) (mo := mo) hx hb hr rfl hlocks hK hP hD hS (by unfold f_Mo_isPlace; rw [if_pos cb_1, if_neg c_2, if_neg c_3, if_pos c_4]) d_Mo_isPlace_38
def f_Mo_changed (mo : MO) (n : Int32) (operator : Int32) : Rm := (bndM (f_Mo_isPlace mo n) (fun r_1 mo_1 => (if r_1 = 0 then (bndM (f_Mo_refuse mo_1 operator) (fun _ mo_3 => (some (.inr (0, mo_3))))) else (if (q_strict mo_1) = 0 then (some (.inr (0, mo_1))) else (if inb n 2600 then (if ((q_kind mo_1) (n : Int32).toNatClampNeg) = 28 then (if 2 ≤ ((q_value mo_1) (n : Int32).toNatClampNeg) then (some (.inr (0, mo_1))) else (bndM (f_Mo_refuse mo_1 operator) (fun _ mo_8 => (some (.inr (0, mo_8)))))) else (some (.inr (0, mo_1)))) else none)))))
set_option maxRecDepth 100000 in
set_option maxHeartbeats 4000000 in
theorem m_Mo_changed (l : Launch) (hlt : l.stackTraces = false) (dC : Nat → ClassId) (dI : Nat → Nat → Nat) (cI cZ : ClassId) (sa rk hm : Nat) (ma : Nat → Nat)  (mo : MO) (sz : Nat) (n : Int32) (operator : Int32) (hg : (f_Mo_changed mo n operator) ≠ none) : cXv l y_Mo_changed c_Mo_changed 3 (7) (102) (dC, dI) cI cZ sa rk hm ma mo sz [.ref hm, .int n, .int operator] (f_Mo_changed mo n operator) := by
  refine vx_ofW (cc := c_Mo_changed) (maxL := 3) (ret := none) (by decide) rfl ?_
  intro p e s m args below meth c s₁ B hml hnt hv
  obtain ⟨rfl, hsz, hP, hK, hD0, hC, hZ⟩ := hv
  have hx := B.exec
  have hb := B.bytes
  have hr := B.returns
  have hts0 := atoms_spec (ws := wy y_Mo_changed c_Mo_changed 3 none) B.pre
  have hts := htsL hts0
  have hown : s.vm.findClass R_Mo = some m.cls := findClass_of_methodNamed B.named
  have hlocks := B.notSynchronized
  subst hsz
  have hD := hD0.self (sz := s.heap.size)
  generalize hAe : va_A (wM cI cZ hm ma mo) s.heap.size = A at hD hZ ⊢
  have hA : ∀ q : Nat, s.heap.size ≤ q → A q := fun q h => by rw [← hAe]; exact Or.inr h
  have hS : va_S A s.heap s.heap [] := va_S.rf
  have hl := lv_entry ([.ref hm, .int n, .int operator]) (n := 3) (Nat.le_of_ble_eq_true rfl)
  rw [lg_entry_eq]
  generalize (lg_sl ([.ref hm, .int n, .int operator]) ++ List.replicate (3 - (lg_sl ([.ref hm, .int n, .int operator])).length) Slot.unset).toArray = ls at hl ⊢
  have hl : lv_has ls 3 [(0, .ref hm), (1, .int n), (2, .int operator)] := hl
  refine lv_aload_n hx hb d_Mo_changed_0 rfl (lv_at hl 0 rfl) ?_
  refine lv_iload_n hx hb d_Mo_changed_1 rfl (lv_at hl 1 rfl) ?_
  refine mr_Vi (g := (f_Mo_isPlace mo n)) (As := [.int n]) (rest := []) ⟨hx, hb, hml, hown, hts0⟩ (m_Mo_isPlace l hlt dC dI cI cZ sa rk hm ma mo _ n (fun z => hg (by unfold f_Mo_changed; rw [bndM_n z]))) hP hD hK hS hA hC hZ hnt hlocks L_1195 L_1197 L_77 L_90 L_1198 k_Mo_isPlace ⟨(by show _ ≤ 7; omega), (by show _ ≤ 102; omega)⟩ rfl rfl hl.1 (Nat.le_of_ble_eq_true rfl) d_Mo_changed_2 rfl (fun q z => by unfold f_Mo_changed; rw [bndM_l z]) (fun r_1 mo_1 H locs w_1 hP hD hS => ?_)
  refine lv_if_eq (tgt := 36) hx hb d_Mo_changed_5 (by decide) (fun c_2 => ?_) (fun c_2 => ?_)
  · refine lv_aload_n hx hb d_Mo_changed_36 rfl (lv_at hl 0 rfl) ?_
    refine lv_iload_n hx hb d_Mo_changed_37 rfl (lv_at hl 2 rfl) ?_
    refine mr_Vv (g := (f_Mo_refuse mo_1 operator)) (As := [.int operator]) (rest := []) ⟨hx, hb, hml, hown, hts0⟩ (m_Mo_refuse l hlt dC dI cI cZ sa rk hm ma mo_1 _ operator ) hP hD hK hS hA hC hZ hnt hlocks L_1072 L_1074 L_64 L_90 L_1075 k_Mo_refuse ⟨(by show _ ≤ 7; omega), (by show _ ≤ 102; omega)⟩ rfl rfl hl.1 (Nat.le_of_ble_eq_true rfl) d_Mo_changed_38 rfl (fun q z => by unfold f_Mo_changed; rw [bndM_r w_1, if_pos c_2, bndM_l z]) (fun mo_3 H locs w_3 hP hD hS => ?_)
    exact mr_vret (mo := mo_3) hx hb hr hlocks hK hP hD hS (by unfold f_Mo_changed; rw [bndM_r w_1, if_pos c_2, bndM_r w_3]) d_Mo_changed_41
  · refine lv_aload_n hx hb d_Mo_changed_8 rfl (lv_at hl 0 rfl) ?_
    refine va_get (D := (dC, dI)) (ci := 6) (v := .int (q_strict mo_1)) (C := R_Mo) (T := T_Mo) (N := 31) hx hb hts u_Mo hown hK hP 0 rfl rfl 19 (by decide) (hts _ L_940) (fun _ h9 => h9) rfl d_Mo_changed_9 ?_
    refine lv_if_eq (tgt := 41) hx hb d_Mo_changed_12 (by decide) (fun c_4 => ?_) (fun c_4 => ?_)
    · exact mr_vret (mo := mo_1) hx hb hr hlocks hK hP hD hS (by unfold f_Mo_changed; rw [bndM_r w_1, if_neg c_2, if_pos c_4]) d_Mo_changed_41
    · refine lv_aload_n hx hb d_Mo_changed_15 rfl (lv_at hl 0 rfl) ?_
      refine va_get (D := (dC, dI)) (ci := 6) (v := .ref (ma 4)) (C := R_Mo) (T := T_Mo) (N := 31) hx hb hts u_Mo hown hK hP 0 rfl rfl 9 (by decide) (hts _ L_930) (fun _ h9 => h9) rfl d_Mo_changed_16 ?_
      refine lv_iload_n hx hb d_Mo_changed_19 rfl (lv_at hl 1 rfl) ?_
      by_cases cb_5 : inb n 2600
      case neg => exact absurd (by unfold f_Mo_changed; rw [bndM_r w_1, if_neg c_2, if_neg c_4, if_neg cb_5]) hg
      refine va_iald (D := (dC, dI)) hx hb hK hP 5 0 rfl rfl cb_5 d_Mo_changed_20 ?_
      refine lv_bipush (v := 28) hx hb d_Mo_changed_21 (by decide) ?_
      refine lv_icmp_ne (tgt := 41) hx hb d_Mo_changed_23 (by decide) (fun c_6 => ?_) (fun c_6 => ?_)
      · exact mr_vret (mo := mo_1) hx hb hr hlocks hK hP hD hS (by unfold f_Mo_changed; rw [bndM_r w_1, if_neg c_2, if_neg c_4, if_pos cb_5, if_neg c_6]) d_Mo_changed_41
      · refine lv_aload_n hx hb d_Mo_changed_26 rfl (lv_at hl 0 rfl) ?_
        refine va_get (D := (dC, dI)) (ci := 6) (v := .ref (ma 5)) (C := R_Mo) (T := T_Mo) (N := 31) hx hb hts u_Mo hown hK hP 0 rfl rfl 10 (by decide) (hts _ L_931) (fun _ h9 => h9) rfl d_Mo_changed_27 ?_
        refine lv_iload_n hx hb d_Mo_changed_30 rfl (lv_at hl 1 rfl) ?_
        refine va_iald (D := (dC, dI)) hx hb hK hP 6 0 rfl rfl cb_5 d_Mo_changed_31 ?_
        refine lv_iconst (v := 2) hx hb d_Mo_changed_32 (by decide) ?_
        refine lv_icmp_ge (tgt := 41) hx hb d_Mo_changed_33 (by decide) (fun c_7 => ?_) (fun c_7 => ?_)
        · exact mr_vret (mo := mo_1) hx hb hr hlocks hK hP hD hS (by unfold f_Mo_changed; rw [bndM_r w_1, if_neg c_2, if_neg c_4, if_pos cb_5, if_pos c_6, if_pos c_7]) d_Mo_changed_41
        · refine lv_aload_n hx hb d_Mo_changed_36 rfl (lv_at hl 0 rfl) ?_
          refine lv_iload_n hx hb d_Mo_changed_37 rfl (lv_at hl 2 rfl) ?_
          refine mr_Vv (g := (f_Mo_refuse mo_1 operator)) (As := [.int operator]) (rest := []) ⟨hx, hb, hml, hown, hts0⟩ (m_Mo_refuse l hlt dC dI cI cZ sa rk hm ma mo_1 _ operator ) hP hD hK hS hA hC hZ hnt hlocks L_1072 L_1074 L_64 L_90 L_1075 k_Mo_refuse ⟨(by show _ ≤ 7; omega), (by show _ ≤ 102; omega)⟩ rfl rfl hl.1 (Nat.le_of_ble_eq_true rfl) d_Mo_changed_38 rfl (fun q z => by unfold f_Mo_changed; rw [bndM_r w_1, if_neg c_2, if_neg c_4, if_pos cb_5, if_pos c_6, if_neg c_7, bndM_l z]) (fun mo_8 H locs w_8 hP hD hS => ?_)
          exact mr_vret (mo := mo_8) hx hb hr hlocks hK hP hD hS (by unfold f_Mo_changed; rw [bndM_r w_1, if_neg c_2, if_neg c_4, if_pos cb_5, if_pos c_6, if_neg c_7, bndM_r w_8]) d_Mo_changed_41
def f_Mo_operator (mo : MO) (inn : Int32) : Rm := (bndM (f_Mo_isWord mo 14) (fun r_1 mo_1 => (if r_1 = 0 then (bndM (f_Mo_isWord mo_1 13) (fun r_3 mo_3 => (if r_3 = 0 then (bndM (f_Mo_isKind mo_3 4) (fun r_5 mo_5 => (if r_5 = 0 then (some (.inr (0, mo_5))) else (if inb (q_at mo_5) 1001 then (if 30 ≤ ((q_words mo_5) ((q_at mo_5) : Int32).toNatClampNeg) then (some (.inr (0, mo_5))) else (some (.inr (((q_words mo_5) ((q_at mo_5) : Int32).toNatClampNeg), mo_5)))) else none)))) else (if inn = 0 then (some (.inr (0, mo_3))) else (some (.inr (15, mo_3))))))) else (some (.inr (14, mo_1))))))
set_option maxRecDepth 100000 in
set_option maxHeartbeats 4000000 in
theorem m_Mo_operator (l : Launch) (hlt : l.stackTraces = false) (dC : Nat → ClassId) (dI : Nat → Nat → Nat) (cI cZ : ClassId) (sa rk hm : Nat) (ma : Nat → Nat)  (mo : MO) (sz : Nat) (inn : Int32) (hg : (f_Mo_operator mo inn) ≠ none) : cXi l y_Mo_operator c_Mo_operator 2 .int (2) (42) (dC, dI) cI cZ sa rk hm ma mo sz [.ref hm, .int inn] (f_Mo_operator mo inn) := by
  refine vx_ofW (cc := c_Mo_operator) (maxL := 2) (ret := (some .int)) (by decide) rfl ?_
  intro p e s m args below meth c s₁ B hml hnt hv
  obtain ⟨rfl, hsz, hP, hK, hD0, hC, hZ⟩ := hv
  have hx := B.exec
  have hb := B.bytes
  have hr := B.returns
  have hts0 := atoms_spec (ws := wy y_Mo_operator c_Mo_operator 2 (some .int)) B.pre
  have hts := htsL hts0
  have hown : s.vm.findClass R_Mo = some m.cls := findClass_of_methodNamed B.named
  have hlocks := B.notSynchronized
  subst hsz
  have hD := hD0.self (sz := s.heap.size)
  generalize hAe : va_A (wM cI cZ hm ma mo) s.heap.size = A at hD hZ ⊢
  have hA : ∀ q : Nat, s.heap.size ≤ q → A q := fun q h => by rw [← hAe]; exact Or.inr h
  have hS : va_S A s.heap s.heap [] := va_S.rf
  have hl := lv_entry ([.ref hm, .int inn]) (n := 2) (Nat.le_of_ble_eq_true rfl)
  rw [lg_entry_eq]
  generalize (lg_sl ([.ref hm, .int inn]) ++ List.replicate (2 - (lg_sl ([.ref hm, .int inn])).length) Slot.unset).toArray = ls at hl ⊢
  have hl : lv_has ls 2 [(0, .ref hm), (1, .int inn)] := hl
  refine lv_aload_n hx hb d_Mo_operator_0 rfl (lv_at hl 0 rfl) ?_
  refine lv_bipush (v := 14) hx hb d_Mo_operator_1 (by decide) ?_
  refine mr_Vi (g := (f_Mo_isWord mo 14)) (As := [.int 14]) (rest := []) ⟨hx, hb, hml, hown, hts0⟩ (m_Mo_isWord l hlt dC dI cI cZ sa rk hm ma mo _ 14 (fun z => hg (by unfold f_Mo_operator; rw [bndM_n z]))) hP hD hK hS hA hC hZ hnt hlocks L_1061 L_1063 L_62 L_90 L_1064 k_Mo_isWord ⟨(by show _ ≤ 2; omega), (by show _ ≤ 42; omega)⟩ rfl rfl hl.1 (Nat.le_of_ble_eq_true rfl) d_Mo_operator_3 rfl (fun q z => by unfold f_Mo_operator; rw [bndM_l z]) (fun r_1 mo_1 H locs w_1 hP hD hS => ?_)
  refine lv_if_eq (tgt := 12) hx hb d_Mo_operator_6 (by decide) (fun c_2 => ?_) (fun c_2 => ?_)
  · refine lv_aload_n hx hb d_Mo_operator_12 rfl (lv_at hl 0 rfl) ?_
    refine lv_bipush (v := 13) hx hb d_Mo_operator_13 (by decide) ?_
    refine mr_Vi (g := (f_Mo_isWord mo_1 13)) (As := [.int 13]) (rest := []) ⟨hx, hb, hml, hown, hts0⟩ (m_Mo_isWord l hlt dC dI cI cZ sa rk hm ma mo_1 _ 13 (fun z => hg (by unfold f_Mo_operator; rw [bndM_r w_1, if_pos c_2, bndM_n z]))) hP hD hK hS hA hC hZ hnt hlocks L_1061 L_1063 L_62 L_90 L_1064 k_Mo_isWord ⟨(by show _ ≤ 2; omega), (by show _ ≤ 42; omega)⟩ rfl rfl hl.1 (Nat.le_of_ble_eq_true rfl) d_Mo_operator_15 rfl (fun q z => by unfold f_Mo_operator; rw [bndM_r w_1, if_pos c_2, bndM_l z]) (fun r_3 mo_3 H locs w_3 hP hD hS => ?_)
    refine lv_if_eq (tgt := 32) hx hb d_Mo_operator_18 (by decide) (fun c_4 => ?_) (fun c_4 => ?_)
    · refine lv_aload_n hx hb d_Mo_operator_32 rfl (lv_at hl 0 rfl) ?_
      refine lv_iconst (v := 4) hx hb d_Mo_operator_33 (by decide) ?_
      refine mr_Vi (g := (f_Mo_isKind mo_3 4)) (As := [.int 4]) (rest := []) ⟨hx, hb, hml, hown, hts0⟩ (m_Mo_isKind l hlt dC dI cI cZ sa rk hm ma mo_3 _ 4 (fun z => hg (by unfold f_Mo_operator; rw [bndM_r w_1, if_pos c_2, bndM_r w_3, if_pos c_4, bndM_n z]))) hP hD hK hS hA hC hZ hnt hlocks L_1057 L_1059 L_61 L_90 L_1060 k_Mo_isKind ⟨(by show _ ≤ 2; omega), (by show _ ≤ 42; omega)⟩ rfl rfl hl.1 (Nat.le_of_ble_eq_true rfl) d_Mo_operator_34 rfl (fun q z => by unfold f_Mo_operator; rw [bndM_r w_1, if_pos c_2, bndM_r w_3, if_pos c_4, bndM_l z]) (fun r_5 mo_5 H locs w_5 hP hD hS => ?_)
      refine lv_if_eq (tgt := 66) hx hb d_Mo_operator_37 (by decide) (fun c_6 => ?_) (fun c_6 => ?_)
      · refine lv_iconst (v := 0) hx hb d_Mo_operator_66 (by decide) ?_
        exact mr_iret (v := 0) (mo := mo_5) hx hb hr hlocks hK hP hD hS (by unfold f_Mo_operator; rw [bndM_r w_1, if_pos c_2, bndM_r w_3, if_pos c_4, bndM_r w_5, if_pos c_6]) d_Mo_operator_67
      · refine lv_aload_n hx hb d_Mo_operator_40 rfl (lv_at hl 0 rfl) ?_
        refine va_get (D := (dC, dI)) (ci := 6) (v := .ref (ma 1)) (C := R_Mo) (T := T_Mo) (N := 31) hx hb hts u_Mo hown hK hP 0 rfl rfl 2 (by decide) (hts _ L_923) (fun _ h9 => h9) rfl d_Mo_operator_41 ?_
        refine lv_aload_n hx hb d_Mo_operator_44 rfl (lv_at hl 0 rfl) ?_
        refine va_get (D := (dC, dI)) (ci := 6) (v := .int (q_at mo_5)) (C := R_Mo) (T := T_Mo) (N := 31) hx hb hts u_Mo hown hK hP 0 rfl rfl 6 (by decide) (hts _ L_927) (fun _ h9 => h9) rfl d_Mo_operator_45 ?_
        by_cases cb_7 : inb (q_at mo_5) 1001
        case neg => exact absurd (by unfold f_Mo_operator; rw [bndM_r w_1, if_pos c_2, bndM_r w_3, if_pos c_4, bndM_r w_5, if_neg c_6, if_neg cb_7]) hg
        refine va_iald (D := (dC, dI)) hx hb hK hP 2 0 rfl rfl cb_7 d_Mo_operator_48 ?_
        refine lv_bipush (v := 30) hx hb d_Mo_operator_49 (by decide) ?_
        refine lv_icmp_ge (tgt := 66) hx hb d_Mo_operator_51 (by decide) (fun c_8 => ?_) (fun c_8 => ?_)
        · refine lv_iconst (v := 0) hx hb d_Mo_operator_66 (by decide) ?_
          exact mr_iret (v := 0) (mo := mo_5) hx hb hr hlocks hK hP hD hS (by unfold f_Mo_operator; rw [bndM_r w_1, if_pos c_2, bndM_r w_3, if_pos c_4, bndM_r w_5, if_neg c_6, if_pos cb_7, if_pos c_8]) d_Mo_operator_67
        · refine lv_aload_n hx hb d_Mo_operator_54 rfl (lv_at hl 0 rfl) ?_
          refine va_get (D := (dC, dI)) (ci := 6) (v := .ref (ma 1)) (C := R_Mo) (T := T_Mo) (N := 31) hx hb hts u_Mo hown hK hP 0 rfl rfl 2 (by decide) (hts _ L_923) (fun _ h9 => h9) rfl d_Mo_operator_55 ?_
          refine lv_aload_n hx hb d_Mo_operator_58 rfl (lv_at hl 0 rfl) ?_
          refine va_get (D := (dC, dI)) (ci := 6) (v := .int (q_at mo_5)) (C := R_Mo) (T := T_Mo) (N := 31) hx hb hts u_Mo hown hK hP 0 rfl rfl 6 (by decide) (hts _ L_927) (fun _ h9 => h9) rfl d_Mo_operator_59 ?_
          refine va_iald (D := (dC, dI)) hx hb hK hP 2 0 rfl rfl cb_7 d_Mo_operator_62 ?_
          refine lv_goto (tgt := 67) hx hb d_Mo_operator_63 (by decide) ?_
          exact mr_iret (v := ((q_words mo_5) ((q_at mo_5) : Int32).toNatClampNeg)) (mo := mo_5) hx hb hr hlocks hK hP hD hS (by unfold f_Mo_operator; rw [bndM_r w_1, if_pos c_2, bndM_r w_3, if_pos c_4, bndM_r w_5, if_neg c_6, if_pos cb_7, if_neg c_8]) d_Mo_operator_67
    · refine lv_iload_n hx hb d_Mo_operator_21 rfl (lv_at hl 1 rfl) ?_
      refine lv_if_eq (tgt := 30) hx hb d_Mo_operator_22 (by decide) (fun c_9 => ?_) (fun c_9 => ?_)
      · refine lv_iconst (v := 0) hx hb d_Mo_operator_30 (by decide) ?_
        exact mr_iret (v := 0) (mo := mo_3) hx hb hr hlocks hK hP hD hS (by unfold f_Mo_operator; rw [bndM_r w_1, if_pos c_2, bndM_r w_3, if_neg c_4, if_pos c_9]) d_Mo_operator_31
      · refine lv_bipush (v := 15) hx hb d_Mo_operator_25 (by decide) ?_
        refine lv_goto (tgt := 31) hx hb d_Mo_operator_27 (by decide) ?_
        exact mr_iret (v := 15) (mo := mo_3) hx hb hr hlocks hK hP hD hS (by unfold f_Mo_operator; rw [bndM_r w_1, if_pos c_2, bndM_r w_3, if_neg c_4, if_neg c_9]) d_Mo_operator_31
  · refine lv_bipush (v := 14) hx hb d_Mo_operator_9 (by decide) ?_
    exact mr_iret (v := 14) (mo := mo_1) hx hb hr hlocks hK hP hD hS (by unfold f_Mo_operator; rw [bndM_r w_1, if_neg c_2]) d_Mo_operator_11
def f_Mo_strength (mo : MO) (operator : Int32) : Rm := (if 6 ≤ operator then (if 10 ≤ operator then (if 16 ≤ operator then (if 19 ≤ operator then (if 21 ≤ operator then (some (.inr (10, mo))) else (some (.inr (9, mo)))) else (some (.inr (8, mo)))) else (some (.inr (7, mo)))) else (some (.inr (6, mo)))) else (some (.inr (operator, mo))))
set_option maxRecDepth 100000 in
set_option maxHeartbeats 4000000 in
theorem m_Mo_strength (l : Launch) (hlt : l.stackTraces = false) (dC : Nat → ClassId) (dI : Nat → Nat → Nat) (cI cZ : ClassId) (sa rk hm : Nat) (ma : Nat → Nat)  (mo : MO) (sz : Nat) (operator : Int32) (hg : (f_Mo_strength mo operator) ≠ none) : cXi l y_Mo_strength c_Mo_strength 1 .int (0) (0) (dC, dI) cI cZ sa rk hm ma mo sz [.int operator] (f_Mo_strength mo operator) := by
  refine vx_ofW (cc := c_Mo_strength) (maxL := 1) (ret := (some .int)) (by decide) rfl ?_
  intro p e s m args below meth c s₁ B hml hnt hv
  obtain ⟨rfl, hsz, hP, hK, hD0, hC, hZ⟩ := hv
  have hx := B.exec
  have hb := B.bytes
  have hr := B.returns
  have hts0 := atoms_spec (ws := wy y_Mo_strength c_Mo_strength 1 (some .int)) B.pre
  have hts := htsL hts0
  have hown : s.vm.findClass R_Mo = some m.cls := findClass_of_methodNamed B.named
  have hlocks := B.notSynchronized
  subst hsz
  have hD := hD0.self (sz := s.heap.size)
  generalize hAe : va_A (wM cI cZ hm ma mo) s.heap.size = A at hD hZ ⊢
  have hA : ∀ q : Nat, s.heap.size ≤ q → A q := fun q h => by rw [← hAe]; exact Or.inr h
  have hS : va_S A s.heap s.heap [] := va_S.rf
  have hl := lv_entry ([.int operator]) (n := 1) (Nat.le_of_ble_eq_true rfl)
  rw [lg_entry_eq]
  generalize (lg_sl ([.int operator]) ++ List.replicate (1 - (lg_sl ([.int operator])).length) Slot.unset).toArray = ls at hl ⊢
  have hl : lv_has ls 1 [(0, .int operator)] := hl
  refine lv_iload_n hx hb d_Mo_strength_0 rfl (lv_at hl 0 rfl) ?_
  refine lv_bipush (v := 6) hx hb d_Mo_strength_1 (by decide) ?_
  refine lv_icmp_ge (tgt := 10) hx hb d_Mo_strength_3 (by decide) (fun c_1 => ?_) (fun c_1 => ?_)
  · refine lv_iload_n hx hb d_Mo_strength_10 rfl (lv_at hl 0 rfl) ?_
    refine lv_bipush (v := 10) hx hb d_Mo_strength_11 (by decide) ?_
    refine lv_icmp_ge (tgt := 21) hx hb d_Mo_strength_13 (by decide) (fun c_2 => ?_) (fun c_2 => ?_)
    · refine lv_iload_n hx hb d_Mo_strength_21 rfl (lv_at hl 0 rfl) ?_
      refine lv_bipush (v := 16) hx hb d_Mo_strength_22 (by decide) ?_
      refine lv_icmp_ge (tgt := 32) hx hb d_Mo_strength_24 (by decide) (fun c_3 => ?_) (fun c_3 => ?_)
      · refine lv_iload_n hx hb d_Mo_strength_32 rfl (lv_at hl 0 rfl) ?_
        refine lv_bipush (v := 19) hx hb d_Mo_strength_33 (by decide) ?_
        refine lv_icmp_ge (tgt := 43) hx hb d_Mo_strength_35 (by decide) (fun c_4 => ?_) (fun c_4 => ?_)
        · refine lv_iload_n hx hb d_Mo_strength_43 rfl (lv_at hl 0 rfl) ?_
          refine lv_bipush (v := 21) hx hb d_Mo_strength_44 (by decide) ?_
          refine lv_icmp_ge (tgt := 54) hx hb d_Mo_strength_46 (by decide) (fun c_5 => ?_) (fun c_5 => ?_)
          · refine lv_bipush (v := 10) hx hb d_Mo_strength_54 (by decide) ?_
            exact mr_iret (v := 10) (mo := mo) hx hb hr hlocks hK hP hD hS (by unfold f_Mo_strength; rw [if_pos c_1, if_pos c_2, if_pos c_3, if_pos c_4, if_pos c_5]) d_Mo_strength_56
          · refine lv_bipush (v := 9) hx hb d_Mo_strength_49 (by decide) ?_
            refine lv_goto (tgt := 56) hx hb d_Mo_strength_51 (by decide) ?_
            exact mr_iret (v := 9) (mo := mo) hx hb hr hlocks hK hP hD hS (by unfold f_Mo_strength; rw [if_pos c_1, if_pos c_2, if_pos c_3, if_pos c_4, if_neg c_5]) d_Mo_strength_56
        · refine lv_bipush (v := 8) hx hb d_Mo_strength_38 (by decide) ?_
          refine lv_goto (tgt := 56) hx hb d_Mo_strength_40 (by decide) ?_
          exact mr_iret (v := 8) (mo := mo) hx hb hr hlocks hK hP hD hS (by unfold f_Mo_strength; rw [if_pos c_1, if_pos c_2, if_pos c_3, if_neg c_4]) d_Mo_strength_56
      · refine lv_bipush (v := 7) hx hb d_Mo_strength_27 (by decide) ?_
        refine lv_goto (tgt := 56) hx hb d_Mo_strength_29 (by decide) ?_
        exact mr_iret (v := 7) (mo := mo) hx hb hr hlocks hK hP hD hS (by unfold f_Mo_strength; rw [if_pos c_1, if_pos c_2, if_neg c_3]) d_Mo_strength_56
    · refine lv_bipush (v := 6) hx hb d_Mo_strength_16 (by decide) ?_
      refine lv_goto (tgt := 56) hx hb d_Mo_strength_18 (by decide) ?_
      exact mr_iret (v := 6) (mo := mo) hx hb hr hlocks hK hP hD hS (by unfold f_Mo_strength; rw [if_pos c_1, if_neg c_2]) d_Mo_strength_56
  · refine lv_iload_n hx hb d_Mo_strength_6 rfl (lv_at hl 0 rfl) ?_
    refine lv_goto (tgt := 56) hx hb d_Mo_strength_7 (by decide) ?_
    exact mr_iret (v := operator) (mo := mo) hx hb hr hlocks hK hP hD hS (by unfold f_Mo_strength; rw [if_neg c_1]) d_Mo_strength_56
def f_Mo_prefix (mo : MO)  : Rm := (bndM (f_Mo_isKind mo 1) (fun r_1 mo_1 => (if r_1 = 0 then (bndM (f_Mo_isKind mo_1 4) (fun r_3 mo_3 => (if r_3 = 0 then (some (.inr ((-1), mo_3))) else (if inb (q_at mo_3) 1001 then (if ((q_words mo_3) ((q_at mo_3) : Int32).toNatClampNeg) = 73 then (some (.inr (3, mo_3))) else (if ((q_words mo_3) ((q_at mo_3) : Int32).toNatClampNeg) = 74 then (some (.inr (4, mo_3))) else (if ((q_words mo_3) ((q_at mo_3) : Int32).toNatClampNeg) = 19 then (some (.inr (5, mo_3))) else (if ((q_words mo_3) ((q_at mo_3) : Int32).toNatClampNeg) = 20 then (some (.inr (6, mo_3))) else (if ((q_words mo_3) ((q_at mo_3) : Int32).toNatClampNeg) = 72 then (some (.inr (7, mo_3))) else (if ((q_words mo_3) ((q_at mo_3) : Int32).toNatClampNeg) = 71 then (some (.inr (8, mo_3))) else (some (.inr ((-1), mo_3))))))))) else none)))) else (if inb (q_at mo_1) 1001 then (if ((q_words mo_1) ((q_at mo_1) : Int32).toNatClampNeg) = 6 then (some (.inr (0, mo_1))) else (if ((q_words mo_1) ((q_at mo_1) : Int32).toNatClampNeg) = 23 then (some (.inr (1, mo_1))) else (if ((q_words mo_1) ((q_at mo_1) : Int32).toNatClampNeg) = 21 then (some (.inr (2, mo_1))) else (some (.inr ((-1), mo_1)))))) else none))))
set_option maxRecDepth 100000 in
set_option maxHeartbeats 4000000 in
theorem m_Mo_prefix (l : Launch) (hlt : l.stackTraces = false) (dC : Nat → ClassId) (dI : Nat → Nat → Nat) (cI cZ : ClassId) (sa rk hm : Nat) (ma : Nat → Nat)  (mo : MO) (sz : Nat)  (hg : (f_Mo_prefix mo) ≠ none) : cXi l y_Mo_prefix c_Mo_prefix 2 .int (1) (21) (dC, dI) cI cZ sa rk hm ma mo sz [.ref hm] (f_Mo_prefix mo) := by
  refine vx_ofW (cc := c_Mo_prefix) (maxL := 2) (ret := (some .int)) (by decide) rfl ?_
  intro p e s m args below meth c s₁ B hml hnt hv
  obtain ⟨rfl, hsz, hP, hK, hD0, hC, hZ⟩ := hv
  have hx := B.exec
  have hb := B.bytes
  have hr := B.returns
  have hts0 := atoms_spec (ws := wy y_Mo_prefix c_Mo_prefix 2 (some .int)) B.pre
  have hts := htsL hts0
  have hown : s.vm.findClass R_Mo = some m.cls := findClass_of_methodNamed B.named
  have hlocks := B.notSynchronized
  subst hsz
  have hD := hD0.self (sz := s.heap.size)
  generalize hAe : va_A (wM cI cZ hm ma mo) s.heap.size = A at hD hZ ⊢
  have hA : ∀ q : Nat, s.heap.size ≤ q → A q := fun q h => by rw [← hAe]; exact Or.inr h
  have hS : va_S A s.heap s.heap [] := va_S.rf
  have hl := lv_entry ([.ref hm]) (n := 2) (Nat.le_of_ble_eq_true rfl)
  rw [lg_entry_eq]
  generalize (lg_sl ([.ref hm]) ++ List.replicate (2 - (lg_sl ([.ref hm])).length) Slot.unset).toArray = ls at hl ⊢
  have hl : lv_has ls 2 [(0, .ref hm)] := hl
  refine lv_aload_n hx hb d_Mo_prefix_0 rfl (lv_at hl 0 rfl) ?_
  refine lv_iconst (v := 1) hx hb d_Mo_prefix_1 (by decide) ?_
  refine mr_Vi (g := (f_Mo_isKind mo 1)) (As := [.int 1]) (rest := []) ⟨hx, hb, hml, hown, hts0⟩ (m_Mo_isKind l hlt dC dI cI cZ sa rk hm ma mo _ 1 (fun z => hg (by unfold f_Mo_prefix; rw [bndM_n z]))) hP hD hK hS hA hC hZ hnt hlocks L_1057 L_1059 L_61 L_90 L_1060 k_Mo_isKind ⟨(by show _ ≤ 1; omega), (by show _ ≤ 21; omega)⟩ rfl rfl hl.1 (Nat.le_of_ble_eq_true rfl) d_Mo_prefix_2 rfl (fun q z => by unfold f_Mo_prefix; rw [bndM_l z]) (fun r_1 mo_1 H locs w_1 hP hD hS => ?_)
  refine lv_if_eq (tgt := 64) hx hb d_Mo_prefix_5 (by decide) (fun c_2 => ?_) (fun c_2 => ?_)
  · refine lv_aload_n hx hb d_Mo_prefix_64 rfl (lv_at hl 0 rfl) ?_
    refine lv_iconst (v := 4) hx hb d_Mo_prefix_65 (by decide) ?_
    refine mr_Vi (g := (f_Mo_isKind mo_1 4)) (As := [.int 4]) (rest := []) ⟨hx, hb, hml, hown, hts0⟩ (m_Mo_isKind l hlt dC dI cI cZ sa rk hm ma mo_1 _ 4 (fun z => hg (by unfold f_Mo_prefix; rw [bndM_r w_1, if_pos c_2, bndM_n z]))) hP hD hK hS hA hC hZ hnt hlocks L_1057 L_1059 L_61 L_90 L_1060 k_Mo_isKind ⟨(by show _ ≤ 1; omega), (by show _ ≤ 21; omega)⟩ rfl rfl hl.1 (Nat.le_of_ble_eq_true rfl) d_Mo_prefix_66 rfl (fun q z => by unfold f_Mo_prefix; rw [bndM_r w_1, if_pos c_2, bndM_l z]) (fun r_3 mo_3 H locs w_3 hP hD hS => ?_)
    refine lv_if_ne (tgt := 74) hx hb d_Mo_prefix_69 (by decide) (fun c_4 => ?_) (fun c_4 => ?_)
    · refine lv_aload_n hx hb d_Mo_prefix_74 rfl (lv_at hl 0 rfl) ?_
      refine va_get (D := (dC, dI)) (ci := 6) (v := .ref (ma 1)) (C := R_Mo) (T := T_Mo) (N := 31) hx hb hts u_Mo hown hK hP 0 rfl rfl 2 (by decide) (hts _ L_923) (fun _ h9 => h9) rfl d_Mo_prefix_75 ?_
      refine lv_aload_n hx hb d_Mo_prefix_78 rfl (lv_at hl 0 rfl) ?_
      refine va_get (D := (dC, dI)) (ci := 6) (v := .int (q_at mo_3)) (C := R_Mo) (T := T_Mo) (N := 31) hx hb hts u_Mo hown hK hP 0 rfl rfl 6 (by decide) (hts _ L_927) (fun _ h9 => h9) rfl d_Mo_prefix_79 ?_
      by_cases cb_5 : inb (q_at mo_3) 1001
      case neg => exact absurd (by unfold f_Mo_prefix; rw [bndM_r w_1, if_pos c_2, bndM_r w_3, if_neg c_4, if_neg cb_5]) hg
      refine va_iald (D := (dC, dI)) hx hb hK hP 2 0 rfl rfl cb_5 d_Mo_prefix_82 ?_
      refine lv_istore_n (lv' := [(1, .int ((q_words mo_3) ((q_at mo_3) : Int32).toNatClampNeg)), (0, .ref hm)]) hx hb d_Mo_prefix_83 rfl hl (by decide) rfl (fun ls hl => ?_)
      refine lv_iload_n hx hb d_Mo_prefix_84 rfl (lv_at hl 0 rfl) ?_
      refine lv_bipush (v := 73) hx hb d_Mo_prefix_85 (by decide) ?_
      refine lv_icmp_ne (tgt := 94) hx hb d_Mo_prefix_87 (by decide) (fun c_6 => ?_) (fun c_6 => ?_)
      · refine lv_iload_n hx hb d_Mo_prefix_94 rfl (lv_at hl 0 rfl) ?_
        refine lv_bipush (v := 74) hx hb d_Mo_prefix_95 (by decide) ?_
        refine lv_icmp_ne (tgt := 104) hx hb d_Mo_prefix_97 (by decide) (fun c_7 => ?_) (fun c_7 => ?_)
        · refine lv_iload_n hx hb d_Mo_prefix_104 rfl (lv_at hl 0 rfl) ?_
          refine lv_bipush (v := 19) hx hb d_Mo_prefix_105 (by decide) ?_
          refine lv_icmp_ne (tgt := 114) hx hb d_Mo_prefix_107 (by decide) (fun c_8 => ?_) (fun c_8 => ?_)
          · refine lv_iload_n hx hb d_Mo_prefix_114 rfl (lv_at hl 0 rfl) ?_
            refine lv_bipush (v := 20) hx hb d_Mo_prefix_115 (by decide) ?_
            refine lv_icmp_ne (tgt := 125) hx hb d_Mo_prefix_117 (by decide) (fun c_9 => ?_) (fun c_9 => ?_)
            · refine lv_iload_n hx hb d_Mo_prefix_125 rfl (lv_at hl 0 rfl) ?_
              refine lv_bipush (v := 72) hx hb d_Mo_prefix_126 (by decide) ?_
              refine lv_icmp_ne (tgt := 136) hx hb d_Mo_prefix_128 (by decide) (fun c_10 => ?_) (fun c_10 => ?_)
              · refine lv_iload_n hx hb d_Mo_prefix_136 rfl (lv_at hl 0 rfl) ?_
                refine lv_bipush (v := 71) hx hb d_Mo_prefix_137 (by decide) ?_
                refine lv_icmp_ne (tgt := 147) hx hb d_Mo_prefix_139 (by decide) (fun c_11 => ?_) (fun c_11 => ?_)
                · refine lv_iconst (v := (-1)) hx hb d_Mo_prefix_147 (by decide) ?_
                  exact mr_iret (v := (-1)) (mo := mo_3) hx hb hr hlocks hK hP hD hS (by unfold f_Mo_prefix; rw [bndM_r w_1, if_pos c_2, bndM_r w_3, if_neg c_4, if_pos cb_5, if_neg c_6, if_neg c_7, if_neg c_8, if_neg c_9, if_neg c_10, if_neg c_11]) d_Mo_prefix_148
                · refine lv_bipush (v := 8) hx hb d_Mo_prefix_142 (by decide) ?_
                  refine lv_goto (tgt := 148) hx hb d_Mo_prefix_144 (by decide) ?_
                  exact mr_iret (v := 8) (mo := mo_3) hx hb hr hlocks hK hP hD hS (by unfold f_Mo_prefix; rw [bndM_r w_1, if_pos c_2, bndM_r w_3, if_neg c_4, if_pos cb_5, if_neg c_6, if_neg c_7, if_neg c_8, if_neg c_9, if_neg c_10, if_pos c_11]) d_Mo_prefix_148
              · refine lv_bipush (v := 7) hx hb d_Mo_prefix_131 (by decide) ?_
                refine lv_goto (tgt := 148) hx hb d_Mo_prefix_133 (by decide) ?_
                exact mr_iret (v := 7) (mo := mo_3) hx hb hr hlocks hK hP hD hS (by unfold f_Mo_prefix; rw [bndM_r w_1, if_pos c_2, bndM_r w_3, if_neg c_4, if_pos cb_5, if_neg c_6, if_neg c_7, if_neg c_8, if_neg c_9, if_pos c_10]) d_Mo_prefix_148
            · refine lv_bipush (v := 6) hx hb d_Mo_prefix_120 (by decide) ?_
              refine lv_goto (tgt := 148) hx hb d_Mo_prefix_122 (by decide) ?_
              exact mr_iret (v := 6) (mo := mo_3) hx hb hr hlocks hK hP hD hS (by unfold f_Mo_prefix; rw [bndM_r w_1, if_pos c_2, bndM_r w_3, if_neg c_4, if_pos cb_5, if_neg c_6, if_neg c_7, if_neg c_8, if_pos c_9]) d_Mo_prefix_148
          · refine lv_iconst (v := 5) hx hb d_Mo_prefix_110 (by decide) ?_
            refine lv_goto (tgt := 148) hx hb d_Mo_prefix_111 (by decide) ?_
            exact mr_iret (v := 5) (mo := mo_3) hx hb hr hlocks hK hP hD hS (by unfold f_Mo_prefix; rw [bndM_r w_1, if_pos c_2, bndM_r w_3, if_neg c_4, if_pos cb_5, if_neg c_6, if_neg c_7, if_pos c_8]) d_Mo_prefix_148
        · refine lv_iconst (v := 4) hx hb d_Mo_prefix_100 (by decide) ?_
          refine lv_goto (tgt := 148) hx hb d_Mo_prefix_101 (by decide) ?_
          exact mr_iret (v := 4) (mo := mo_3) hx hb hr hlocks hK hP hD hS (by unfold f_Mo_prefix; rw [bndM_r w_1, if_pos c_2, bndM_r w_3, if_neg c_4, if_pos cb_5, if_neg c_6, if_pos c_7]) d_Mo_prefix_148
      · refine lv_iconst (v := 3) hx hb d_Mo_prefix_90 (by decide) ?_
        refine lv_goto (tgt := 148) hx hb d_Mo_prefix_91 (by decide) ?_
        exact mr_iret (v := 3) (mo := mo_3) hx hb hr hlocks hK hP hD hS (by unfold f_Mo_prefix; rw [bndM_r w_1, if_pos c_2, bndM_r w_3, if_neg c_4, if_pos cb_5, if_pos c_6]) d_Mo_prefix_148
    · refine lv_iconst (v := (-1)) hx hb d_Mo_prefix_72 (by decide) ?_
      exact mr_iret (v := (-1)) (mo := mo_3) hx hb hr hlocks hK hP hD hS (by unfold f_Mo_prefix; rw [bndM_r w_1, if_pos c_2, bndM_r w_3, if_pos c_4]) d_Mo_prefix_73
  · refine lv_aload_n hx hb d_Mo_prefix_8 rfl (lv_at hl 0 rfl) ?_
    refine va_get (D := (dC, dI)) (ci := 6) (v := .ref (ma 1)) (C := R_Mo) (T := T_Mo) (N := 31) hx hb hts u_Mo hown hK hP 0 rfl rfl 2 (by decide) (hts _ L_923) (fun _ h9 => h9) rfl d_Mo_prefix_9 ?_
    refine lv_aload_n hx hb d_Mo_prefix_12 rfl (lv_at hl 0 rfl) ?_
    refine va_get (D := (dC, dI)) (ci := 6) (v := .int (q_at mo_1)) (C := R_Mo) (T := T_Mo) (N := 31) hx hb hts u_Mo hown hK hP 0 rfl rfl 6 (by decide) (hts _ L_927) (fun _ h9 => h9) rfl d_Mo_prefix_13 ?_
    by_cases cb_12 : inb (q_at mo_1) 1001
    case neg => exact absurd (by unfold f_Mo_prefix; rw [bndM_r w_1, if_neg c_2, if_neg cb_12]) hg
    refine va_iald (D := (dC, dI)) hx hb hK hP 2 0 rfl rfl cb_12 d_Mo_prefix_16 ?_
    refine lv_bipush (v := 6) hx hb d_Mo_prefix_17 (by decide) ?_
    refine lv_icmp_ne (tgt := 26) hx hb d_Mo_prefix_19 (by decide) (fun c_13 => ?_) (fun c_13 => ?_)
    · refine lv_aload_n hx hb d_Mo_prefix_26 rfl (lv_at hl 0 rfl) ?_
      refine va_get (D := (dC, dI)) (ci := 6) (v := .ref (ma 1)) (C := R_Mo) (T := T_Mo) (N := 31) hx hb hts u_Mo hown hK hP 0 rfl rfl 2 (by decide) (hts _ L_923) (fun _ h9 => h9) rfl d_Mo_prefix_27 ?_
      refine lv_aload_n hx hb d_Mo_prefix_30 rfl (lv_at hl 0 rfl) ?_
      refine va_get (D := (dC, dI)) (ci := 6) (v := .int (q_at mo_1)) (C := R_Mo) (T := T_Mo) (N := 31) hx hb hts u_Mo hown hK hP 0 rfl rfl 6 (by decide) (hts _ L_927) (fun _ h9 => h9) rfl d_Mo_prefix_31 ?_
      refine va_iald (D := (dC, dI)) hx hb hK hP 2 0 rfl rfl cb_12 d_Mo_prefix_34 ?_
      refine lv_bipush (v := 23) hx hb d_Mo_prefix_35 (by decide) ?_
      refine lv_icmp_ne (tgt := 44) hx hb d_Mo_prefix_37 (by decide) (fun c_14 => ?_) (fun c_14 => ?_)
      · refine lv_aload_n hx hb d_Mo_prefix_44 rfl (lv_at hl 0 rfl) ?_
        refine va_get (D := (dC, dI)) (ci := 6) (v := .ref (ma 1)) (C := R_Mo) (T := T_Mo) (N := 31) hx hb hts u_Mo hown hK hP 0 rfl rfl 2 (by decide) (hts _ L_923) (fun _ h9 => h9) rfl d_Mo_prefix_45 ?_
        refine lv_aload_n hx hb d_Mo_prefix_48 rfl (lv_at hl 0 rfl) ?_
        refine va_get (D := (dC, dI)) (ci := 6) (v := .int (q_at mo_1)) (C := R_Mo) (T := T_Mo) (N := 31) hx hb hts u_Mo hown hK hP 0 rfl rfl 6 (by decide) (hts _ L_927) (fun _ h9 => h9) rfl d_Mo_prefix_49 ?_
        refine va_iald (D := (dC, dI)) hx hb hK hP 2 0 rfl rfl cb_12 d_Mo_prefix_52 ?_
        refine lv_bipush (v := 21) hx hb d_Mo_prefix_53 (by decide) ?_
        refine lv_icmp_ne (tgt := 62) hx hb d_Mo_prefix_55 (by decide) (fun c_15 => ?_) (fun c_15 => ?_)
        · refine lv_iconst (v := (-1)) hx hb d_Mo_prefix_62 (by decide) ?_
          exact mr_iret (v := (-1)) (mo := mo_1) hx hb hr hlocks hK hP hD hS (by unfold f_Mo_prefix; rw [bndM_r w_1, if_neg c_2, if_pos cb_12, if_neg c_13, if_neg c_14, if_neg c_15]) d_Mo_prefix_63
        · refine lv_iconst (v := 2) hx hb d_Mo_prefix_58 (by decide) ?_
          refine lv_goto (tgt := 63) hx hb d_Mo_prefix_59 (by decide) ?_
          exact mr_iret (v := 2) (mo := mo_1) hx hb hr hlocks hK hP hD hS (by unfold f_Mo_prefix; rw [bndM_r w_1, if_neg c_2, if_pos cb_12, if_neg c_13, if_neg c_14, if_pos c_15]) d_Mo_prefix_63
      · refine lv_iconst (v := 1) hx hb d_Mo_prefix_40 (by decide) ?_
        refine lv_goto (tgt := 63) hx hb d_Mo_prefix_41 (by decide) ?_
        exact mr_iret (v := 1) (mo := mo_1) hx hb hr hlocks hK hP hD hS (by unfold f_Mo_prefix; rw [bndM_r w_1, if_neg c_2, if_pos cb_12, if_neg c_13, if_pos c_14]) d_Mo_prefix_63
    · refine lv_iconst (v := 0) hx hb d_Mo_prefix_22 (by decide) ?_
      refine lv_goto (tgt := 63) hx hb d_Mo_prefix_23 (by decide) ?_
      exact mr_iret (v := 0) (mo := mo_1) hx hb hr hlocks hK hP hD hS (by unfold f_Mo_prefix; rw [bndM_r w_1, if_neg c_2, if_pos cb_12, if_pos c_13]) d_Mo_prefix_63
def f_Mo_literal (mo : MO) (k : Int32) : Rm := (bndM (f_Mo_make mo k (q_literals mo) (q_at mo)) (fun r_1 mo_1 => (some (.inr (r_1, (s_literals (s_at mo_1 ((q_at mo_1) + 1)) ((q_literals mo_1) + 1)))))))
set_option maxRecDepth 100000 in
set_option maxHeartbeats 4000000 in
theorem m_Mo_literal (l : Launch) (hlt : l.stackTraces = false) (dC : Nat → ClassId) (dI : Nat → Nat → Nat) (cI cZ : ClassId) (sa rk hm : Nat) (ma : Nat → Nat)  (mo : MO) (sz : Nat) (k : Int32) (hg : (f_Mo_literal mo k) ≠ none) : cXi l y_Mo_literal c_Mo_literal 3 .int (1) (23) (dC, dI) cI cZ sa rk hm ma mo sz [.ref hm, .int k] (f_Mo_literal mo k) := by
  refine vx_ofW (cc := c_Mo_literal) (maxL := 3) (ret := (some .int)) (by decide) rfl ?_
  intro p e s m args below meth c s₁ B hml hnt hv
  obtain ⟨rfl, hsz, hP, hK, hD0, hC, hZ⟩ := hv
  have hx := B.exec
  have hb := B.bytes
  have hr := B.returns
  have hts0 := atoms_spec (ws := wy y_Mo_literal c_Mo_literal 3 (some .int)) B.pre
  have hts := htsL hts0
  have hown : s.vm.findClass R_Mo = some m.cls := findClass_of_methodNamed B.named
  have hlocks := B.notSynchronized
  subst hsz
  have hD := hD0.self (sz := s.heap.size)
  generalize hAe : va_A (wM cI cZ hm ma mo) s.heap.size = A at hD hZ ⊢
  have hA : ∀ q : Nat, s.heap.size ≤ q → A q := fun q h => by rw [← hAe]; exact Or.inr h
  have hS : va_S A s.heap s.heap [] := va_S.rf
  have hl := lv_entry ([.ref hm, .int k]) (n := 3) (Nat.le_of_ble_eq_true rfl)
  rw [lg_entry_eq]
  generalize (lg_sl ([.ref hm, .int k]) ++ List.replicate (3 - (lg_sl ([.ref hm, .int k])).length) Slot.unset).toArray = ls at hl ⊢
  have hl : lv_has ls 3 [(0, .ref hm), (1, .int k)] := hl
  refine lv_aload_n hx hb d_Mo_literal_0 rfl (lv_at hl 0 rfl) ?_
  refine lv_iload_n hx hb d_Mo_literal_1 rfl (lv_at hl 1 rfl) ?_
  refine lv_aload_n hx hb d_Mo_literal_2 rfl (lv_at hl 0 rfl) ?_
  refine va_get (D := (dC, dI)) (ci := 6) (v := .int (q_literals mo)) (C := R_Mo) (T := T_Mo) (N := 31) hx hb hts u_Mo hown hK hP 0 rfl rfl 18 (by decide) (hts _ L_939) (fun _ h9 => h9) rfl d_Mo_literal_3 ?_
  refine lv_aload_n hx hb d_Mo_literal_6 rfl (lv_at hl 0 rfl) ?_
  refine va_get (D := (dC, dI)) (ci := 6) (v := .int (q_at mo)) (C := R_Mo) (T := T_Mo) (N := 31) hx hb hts u_Mo hown hK hP 0 rfl rfl 6 (by decide) (hts _ L_927) (fun _ h9 => h9) rfl d_Mo_literal_7 ?_
  refine mr_Vi (g := (f_Mo_make mo k (q_literals mo) (q_at mo))) (As := [.int k, .int (q_literals mo), .int (q_at mo)]) (rest := []) ⟨hx, hb, hml, hown, hts0⟩ (m_Mo_make l hlt dC dI cI cZ sa rk hm ma mo _ k (q_literals mo) (q_at mo) (fun z => hg (by unfold f_Mo_literal; rw [bndM_n z]))) hP hD hK hS hA hC hZ hnt hlocks L_1046 L_1048 L_59 L_90 L_1049 k_Mo_make ⟨(by show _ ≤ 1; omega), (by show _ ≤ 23; omega)⟩ rfl rfl hl.1 (Nat.le_of_ble_eq_true rfl) d_Mo_literal_10 rfl (fun q z => by unfold f_Mo_literal; rw [bndM_l z]) (fun r_1 mo_1 H locs w_1 hP hD hS => ?_)
  refine lv_istore_n (lv' := [(2, .int r_1), (0, .ref hm), (1, .int k)]) hx hb d_Mo_literal_13 rfl hl (by decide) rfl (fun ls hl => ?_)
  refine lv_aload_n hx hb d_Mo_literal_14 rfl (lv_at hl 1 rfl) ?_
  refine lv_dup hx hb d_Mo_literal_15 rfl ?_
  refine va_get (D := (dC, dI)) (ci := 6) (v := .int (q_literals mo_1)) (C := R_Mo) (T := T_Mo) (N := 31) hx hb hts u_Mo hown hK hP 0 rfl rfl 18 (by decide) (hts _ L_939) (fun _ h9 => h9) rfl d_Mo_literal_16 ?_
  refine lv_iconst (v := 1) hx hb d_Mo_literal_19 (by decide) ?_
  refine lv_iadd hx hb d_Mo_literal_20 ?_
  refine va_put (D := (dC, dI)) (ci := 6) (v := .int ((q_literals mo_1) + 1)) (ty := .int) (C := R_Mo) (T := T_Mo) (N := 31) hx hb hts u_Mo ty_Mo tk_Mo nm_Mo hown hK hP hD hS 0 rfl rfl 18 (by decide) (hts _ L_939) (fun _ h9 => h9) rfl (by decide +kernel) rfl rfl (Nat.le_of_ble_eq_true rfl) d_Mo_literal_21 (fun H locs hP hD hS => ?_)
  have hP : va_P (dC, dI) cls (wM cI cZ hm ma (s_literals mo_1 ((q_literals mo_1) + 1))) H := hP
  have hD : va_D A (wM cI cZ hm ma (s_literals mo_1 ((q_literals mo_1) + 1))) := hD
  refine lv_aload_n hx hb d_Mo_literal_24 rfl (lv_at hl 1 rfl) ?_
  refine lv_dup hx hb d_Mo_literal_25 rfl ?_
  refine va_get (D := (dC, dI)) (ci := 6) (v := .int (q_at mo_1)) (C := R_Mo) (T := T_Mo) (N := 31) hx hb hts u_Mo hown hK hP 0 rfl rfl 6 (by decide) (hts _ L_927) (fun _ h9 => h9) rfl d_Mo_literal_26 ?_
  refine lv_iconst (v := 1) hx hb d_Mo_literal_29 (by decide) ?_
  refine lv_iadd hx hb d_Mo_literal_30 ?_
  refine va_put (D := (dC, dI)) (ci := 6) (v := .int ((q_at mo_1) + 1)) (ty := .int) (C := R_Mo) (T := T_Mo) (N := 31) hx hb hts u_Mo ty_Mo tk_Mo nm_Mo hown hK hP hD hS 0 rfl rfl 6 (by decide) (hts _ L_927) (fun _ h9 => h9) rfl (by decide +kernel) rfl rfl (Nat.le_of_ble_eq_true rfl) d_Mo_literal_31 (fun H locs hP hD hS => ?_)
  have hP : va_P (dC, dI) cls (wM cI cZ hm ma (s_literals (s_at mo_1 ((q_at mo_1) + 1)) ((q_literals mo_1) + 1))) H := hP
  have hD : va_D A (wM cI cZ hm ma (s_literals (s_at mo_1 ((q_at mo_1) + 1)) ((q_literals mo_1) + 1))) := hD
  refine lv_iload_n hx hb d_Mo_literal_34 rfl (lv_at hl 0 rfl) ?_
  exact mr_iret (v := r_1) (mo := (s_literals (s_at mo_1 ((q_at mo_1) + 1)) ((q_literals mo_1) + 1))) hx hb hr hlocks hK hP hD hS (by unfold f_Mo_literal; rw [bndM_r w_1]) d_Mo_literal_35
def f_Mo_plain (mo : MO) (k : Int32) : Rm := (bndM (f_Mo_make (s_at mo ((q_at mo) + 1)) k 0 (((q_at mo) + 1) - 1)) (fun r_1 mo_1 => (some (.inr (r_1, mo_1)))))
set_option maxRecDepth 100000 in
set_option maxHeartbeats 4000000 in
theorem m_Mo_plain (l : Launch) (hlt : l.stackTraces = false) (dC : Nat → ClassId) (dI : Nat → Nat → Nat) (cI cZ : ClassId) (sa rk hm : Nat) (ma : Nat → Nat)  (mo : MO) (sz : Nat) (k : Int32) (hg : (f_Mo_plain mo k) ≠ none) : cXi l y_Mo_plain c_Mo_plain 2 .int (1) (23) (dC, dI) cI cZ sa rk hm ma mo sz [.ref hm, .int k] (f_Mo_plain mo k) := by
  refine vx_ofW (cc := c_Mo_plain) (maxL := 2) (ret := (some .int)) (by decide) rfl ?_
  intro p e s m args below meth c s₁ B hml hnt hv
  obtain ⟨rfl, hsz, hP, hK, hD0, hC, hZ⟩ := hv
  have hx := B.exec
  have hb := B.bytes
  have hr := B.returns
  have hts0 := atoms_spec (ws := wy y_Mo_plain c_Mo_plain 2 (some .int)) B.pre
  have hts := htsL hts0
  have hown : s.vm.findClass R_Mo = some m.cls := findClass_of_methodNamed B.named
  have hlocks := B.notSynchronized
  subst hsz
  have hD := hD0.self (sz := s.heap.size)
  generalize hAe : va_A (wM cI cZ hm ma mo) s.heap.size = A at hD hZ ⊢
  have hA : ∀ q : Nat, s.heap.size ≤ q → A q := fun q h => by rw [← hAe]; exact Or.inr h
  have hS : va_S A s.heap s.heap [] := va_S.rf
  have hl := lv_entry ([.ref hm, .int k]) (n := 2) (Nat.le_of_ble_eq_true rfl)
  rw [lg_entry_eq]
  generalize (lg_sl ([.ref hm, .int k]) ++ List.replicate (2 - (lg_sl ([.ref hm, .int k])).length) Slot.unset).toArray = ls at hl ⊢
  have hl : lv_has ls 2 [(0, .ref hm), (1, .int k)] := hl
  refine lv_aload_n hx hb d_Mo_plain_0 rfl (lv_at hl 0 rfl) ?_
  refine lv_dup hx hb d_Mo_plain_1 rfl ?_
  refine va_get (D := (dC, dI)) (ci := 6) (v := .int (q_at mo)) (C := R_Mo) (T := T_Mo) (N := 31) hx hb hts u_Mo hown hK hP 0 rfl rfl 6 (by decide) (hts _ L_927) (fun _ h9 => h9) rfl d_Mo_plain_2 ?_
  refine lv_iconst (v := 1) hx hb d_Mo_plain_5 (by decide) ?_
  refine lv_iadd hx hb d_Mo_plain_6 ?_
  refine va_put (D := (dC, dI)) (ci := 6) (v := .int ((q_at mo) + 1)) (ty := .int) (C := R_Mo) (T := T_Mo) (N := 31) hx hb hts u_Mo ty_Mo tk_Mo nm_Mo hown hK hP hD hS 0 rfl rfl 6 (by decide) (hts _ L_927) (fun _ h9 => h9) rfl (by decide +kernel) rfl rfl (Nat.le_of_ble_eq_true rfl) d_Mo_plain_7 (fun H locs hP hD hS => ?_)
  have hP : va_P (dC, dI) cls (wM cI cZ hm ma (s_at mo ((q_at mo) + 1))) H := hP
  have hD : va_D A (wM cI cZ hm ma (s_at mo ((q_at mo) + 1))) := hD
  refine lv_aload_n hx hb d_Mo_plain_10 rfl (lv_at hl 0 rfl) ?_
  refine lv_iload_n hx hb d_Mo_plain_11 rfl (lv_at hl 1 rfl) ?_
  refine lv_iconst (v := 0) hx hb d_Mo_plain_12 (by decide) ?_
  refine lv_aload_n hx hb d_Mo_plain_13 rfl (lv_at hl 0 rfl) ?_
  refine va_get (D := (dC, dI)) (ci := 6) (v := .int ((q_at mo) + 1)) (C := R_Mo) (T := T_Mo) (N := 31) hx hb hts u_Mo hown hK hP 0 rfl rfl 6 (by decide) (hts _ L_927) (fun _ h9 => h9) rfl d_Mo_plain_14 ?_
  refine lv_iconst (v := 1) hx hb d_Mo_plain_17 (by decide) ?_
  refine lv_isub hx hb d_Mo_plain_18 ?_
  refine mr_Vi (g := (f_Mo_make (s_at mo ((q_at mo) + 1)) k 0 (((q_at mo) + 1) - 1))) (As := [.int k, .int 0, .int (((q_at mo) + 1) - 1)]) (rest := []) ⟨hx, hb, hml, hown, hts0⟩ (m_Mo_make l hlt dC dI cI cZ sa rk hm ma (s_at mo ((q_at mo) + 1)) _ k 0 (((q_at mo) + 1) - 1) (fun z => hg (by unfold f_Mo_plain; rw [bndM_n z]))) hP hD hK hS hA hC hZ hnt hlocks L_1046 L_1048 L_59 L_90 L_1049 k_Mo_make ⟨(by show _ ≤ 1; omega), (by show _ ≤ 23; omega)⟩ rfl rfl hl.1 (Nat.le_of_ble_eq_true rfl) d_Mo_plain_19 rfl (fun q z => by unfold f_Mo_plain; rw [bndM_l z]) (fun r_1 mo_1 H locs w_1 hP hD hS => ?_)
  exact mr_iret (v := r_1) (mo := mo_1) hx hb hr hlocks hK hP hD hS (by unfold f_Mo_plain; rw [bndM_r w_1]) d_Mo_plain_22
def f_Mo_propertyName (mo : MO)  : Rm := (bndM (f_Mo_isKind mo 1) (fun r_1 mo_1 => (if r_1 = 0 then (bndM (f_Mo_isKind mo_1 2) (fun r_4 mo_4 => (if r_4 = 0 then (bndM (f_Mo_isKind mo_4 3) (fun r_7 mo_7 => (if r_7 = 0 then (bndM (f_Mo_refuse mo_7 (q_at mo_7)) (fun _ mo_10 => (if inb (((q_at mo_10) + 1) - 1) 1001 then (some (.inr (((q_names mo_10) ((((q_at mo_10) + 1) - 1) : Int32).toNatClampNeg), (s_at mo_10 ((q_at mo_10) + 1))))) else none))) else (if inb (((q_at mo_7) + 1) - 1) 1001 then (some (.inr (((q_names mo_7) ((((q_at mo_7) + 1) - 1) : Int32).toNatClampNeg), (s_at mo_7 ((q_at mo_7) + 1))))) else none)))) else (if inb (((q_at mo_4) + 1) - 1) 1001 then (some (.inr (((q_names mo_4) ((((q_at mo_4) + 1) - 1) : Int32).toNatClampNeg), (s_at mo_4 ((q_at mo_4) + 1))))) else none)))) else (if inb (((q_at mo_1) + 1) - 1) 1001 then (some (.inr (((q_names mo_1) ((((q_at mo_1) + 1) - 1) : Int32).toNatClampNeg), (s_at mo_1 ((q_at mo_1) + 1))))) else none))))
set_option maxRecDepth 100000 in
set_option maxHeartbeats 4000000 in
theorem m_Mo_propertyName (l : Launch) (hlt : l.stackTraces = false) (dC : Nat → ClassId) (dI : Nat → Nat → Nat) (cI cZ : ClassId) (sa rk hm : Nat) (ma : Nat → Nat)  (mo : MO) (sz : Nat)  (hg : (f_Mo_propertyName mo) ≠ none) : cXi l y_Mo_propertyName c_Mo_propertyName 1 .int (7) (102) (dC, dI) cI cZ sa rk hm ma mo sz [.ref hm] (f_Mo_propertyName mo) := by
  refine vx_ofW (cc := c_Mo_propertyName) (maxL := 1) (ret := (some .int)) (by decide) rfl ?_
  intro p e s m args below meth c s₁ B hml hnt hv
  obtain ⟨rfl, hsz, hP, hK, hD0, hC, hZ⟩ := hv
  have hx := B.exec
  have hb := B.bytes
  have hr := B.returns
  have hts0 := atoms_spec (ws := wy y_Mo_propertyName c_Mo_propertyName 1 (some .int)) B.pre
  have hts := htsL hts0
  have hown : s.vm.findClass R_Mo = some m.cls := findClass_of_methodNamed B.named
  have hlocks := B.notSynchronized
  subst hsz
  have hD := hD0.self (sz := s.heap.size)
  generalize hAe : va_A (wM cI cZ hm ma mo) s.heap.size = A at hD hZ ⊢
  have hA : ∀ q : Nat, s.heap.size ≤ q → A q := fun q h => by rw [← hAe]; exact Or.inr h
  have hS : va_S A s.heap s.heap [] := va_S.rf
  have hl := lv_entry ([.ref hm]) (n := 1) (Nat.le_of_ble_eq_true rfl)
  rw [lg_entry_eq]
  generalize (lg_sl ([.ref hm]) ++ List.replicate (1 - (lg_sl ([.ref hm])).length) Slot.unset).toArray = ls at hl ⊢
  have hl : lv_has ls 1 [(0, .ref hm)] := hl
  refine lv_aload_n hx hb d_Mo_propertyName_0 rfl (lv_at hl 0 rfl) ?_
  refine lv_iconst (v := 1) hx hb d_Mo_propertyName_1 (by decide) ?_
  refine mr_Vi (g := (f_Mo_isKind mo 1)) (As := [.int 1]) (rest := []) ⟨hx, hb, hml, hown, hts0⟩ (m_Mo_isKind l hlt dC dI cI cZ sa rk hm ma mo _ 1 (fun z => hg (by unfold f_Mo_propertyName; rw [bndM_n z]))) hP hD hK hS hA hC hZ hnt hlocks L_1057 L_1059 L_61 L_90 L_1060 k_Mo_isKind ⟨(by show _ ≤ 7; omega), (by show _ ≤ 102; omega)⟩ rfl rfl hl.1 (Nat.le_of_ble_eq_true rfl) d_Mo_propertyName_2 rfl (fun q z => by unfold f_Mo_propertyName; rw [bndM_l z]) (fun r_1 mo_1 H locs w_1 hP hD hS => ?_)
  refine lv_if_ne (tgt := 32) hx hb d_Mo_propertyName_5 (by decide) (fun c_2 => ?_) (fun c_2 => ?_)
  · refine lv_aload_n hx hb d_Mo_propertyName_32 rfl (lv_at hl 0 rfl) ?_
    refine lv_dup hx hb d_Mo_propertyName_33 rfl ?_
    refine va_get (D := (dC, dI)) (ci := 6) (v := .int (q_at mo_1)) (C := R_Mo) (T := T_Mo) (N := 31) hx hb hts u_Mo hown hK hP 0 rfl rfl 6 (by decide) (hts _ L_927) (fun _ h9 => h9) rfl d_Mo_propertyName_34 ?_
    refine lv_iconst (v := 1) hx hb d_Mo_propertyName_37 (by decide) ?_
    refine lv_iadd hx hb d_Mo_propertyName_38 ?_
    refine va_put (D := (dC, dI)) (ci := 6) (v := .int ((q_at mo_1) + 1)) (ty := .int) (C := R_Mo) (T := T_Mo) (N := 31) hx hb hts u_Mo ty_Mo tk_Mo nm_Mo hown hK hP hD hS 0 rfl rfl 6 (by decide) (hts _ L_927) (fun _ h9 => h9) rfl (by decide +kernel) rfl rfl (Nat.le_of_ble_eq_true rfl) d_Mo_propertyName_39 (fun H locs hP hD hS => ?_)
    have hP : va_P (dC, dI) cls (wM cI cZ hm ma (s_at mo_1 ((q_at mo_1) + 1))) H := hP
    have hD : va_D A (wM cI cZ hm ma (s_at mo_1 ((q_at mo_1) + 1))) := hD
    refine lv_aload_n hx hb d_Mo_propertyName_42 rfl (lv_at hl 0 rfl) ?_
    refine va_get (D := (dC, dI)) (ci := 6) (v := .ref (ma 2)) (C := R_Mo) (T := T_Mo) (N := 31) hx hb hts u_Mo hown hK hP 0 rfl rfl 3 (by decide) (hts _ L_924) (fun _ h9 => h9) rfl d_Mo_propertyName_43 ?_
    refine lv_aload_n hx hb d_Mo_propertyName_46 rfl (lv_at hl 0 rfl) ?_
    refine va_get (D := (dC, dI)) (ci := 6) (v := .int ((q_at mo_1) + 1)) (C := R_Mo) (T := T_Mo) (N := 31) hx hb hts u_Mo hown hK hP 0 rfl rfl 6 (by decide) (hts _ L_927) (fun _ h9 => h9) rfl d_Mo_propertyName_47 ?_
    refine lv_iconst (v := 1) hx hb d_Mo_propertyName_50 (by decide) ?_
    refine lv_isub hx hb d_Mo_propertyName_51 ?_
    by_cases cb_3 : inb (((q_at mo_1) + 1) - 1) 1001
    case neg => exact absurd (by unfold f_Mo_propertyName; rw [bndM_r w_1, if_neg c_2, if_neg cb_3]) hg
    refine va_iald (D := (dC, dI)) hx hb hK hP 3 0 rfl rfl cb_3 d_Mo_propertyName_52 ?_
    exact mr_iret (v := ((q_names mo_1) ((((q_at mo_1) + 1) - 1) : Int32).toNatClampNeg)) (mo := (s_at mo_1 ((q_at mo_1) + 1))) hx hb hr hlocks hK hP hD hS (by unfold f_Mo_propertyName; rw [bndM_r w_1, if_neg c_2, if_pos cb_3]) d_Mo_propertyName_53
  · refine lv_aload_n hx hb d_Mo_propertyName_8 rfl (lv_at hl 0 rfl) ?_
    refine lv_iconst (v := 2) hx hb d_Mo_propertyName_9 (by decide) ?_
    refine mr_Vi (g := (f_Mo_isKind mo_1 2)) (As := [.int 2]) (rest := []) ⟨hx, hb, hml, hown, hts0⟩ (m_Mo_isKind l hlt dC dI cI cZ sa rk hm ma mo_1 _ 2 (fun z => hg (by unfold f_Mo_propertyName; rw [bndM_r w_1, if_pos c_2, bndM_n z]))) hP hD hK hS hA hC hZ hnt hlocks L_1057 L_1059 L_61 L_90 L_1060 k_Mo_isKind ⟨(by show _ ≤ 7; omega), (by show _ ≤ 102; omega)⟩ rfl rfl hl.1 (Nat.le_of_ble_eq_true rfl) d_Mo_propertyName_10 rfl (fun q z => by unfold f_Mo_propertyName; rw [bndM_r w_1, if_pos c_2, bndM_l z]) (fun r_4 mo_4 H locs w_4 hP hD hS => ?_)
    refine lv_if_ne (tgt := 32) hx hb d_Mo_propertyName_13 (by decide) (fun c_5 => ?_) (fun c_5 => ?_)
    · refine lv_aload_n hx hb d_Mo_propertyName_32 rfl (lv_at hl 0 rfl) ?_
      refine lv_dup hx hb d_Mo_propertyName_33 rfl ?_
      refine va_get (D := (dC, dI)) (ci := 6) (v := .int (q_at mo_4)) (C := R_Mo) (T := T_Mo) (N := 31) hx hb hts u_Mo hown hK hP 0 rfl rfl 6 (by decide) (hts _ L_927) (fun _ h9 => h9) rfl d_Mo_propertyName_34 ?_
      refine lv_iconst (v := 1) hx hb d_Mo_propertyName_37 (by decide) ?_
      refine lv_iadd hx hb d_Mo_propertyName_38 ?_
      refine va_put (D := (dC, dI)) (ci := 6) (v := .int ((q_at mo_4) + 1)) (ty := .int) (C := R_Mo) (T := T_Mo) (N := 31) hx hb hts u_Mo ty_Mo tk_Mo nm_Mo hown hK hP hD hS 0 rfl rfl 6 (by decide) (hts _ L_927) (fun _ h9 => h9) rfl (by decide +kernel) rfl rfl (Nat.le_of_ble_eq_true rfl) d_Mo_propertyName_39 (fun H locs hP hD hS => ?_)
      have hP : va_P (dC, dI) cls (wM cI cZ hm ma (s_at mo_4 ((q_at mo_4) + 1))) H := hP
      have hD : va_D A (wM cI cZ hm ma (s_at mo_4 ((q_at mo_4) + 1))) := hD
      refine lv_aload_n hx hb d_Mo_propertyName_42 rfl (lv_at hl 0 rfl) ?_
      refine va_get (D := (dC, dI)) (ci := 6) (v := .ref (ma 2)) (C := R_Mo) (T := T_Mo) (N := 31) hx hb hts u_Mo hown hK hP 0 rfl rfl 3 (by decide) (hts _ L_924) (fun _ h9 => h9) rfl d_Mo_propertyName_43 ?_
      refine lv_aload_n hx hb d_Mo_propertyName_46 rfl (lv_at hl 0 rfl) ?_
      refine va_get (D := (dC, dI)) (ci := 6) (v := .int ((q_at mo_4) + 1)) (C := R_Mo) (T := T_Mo) (N := 31) hx hb hts u_Mo hown hK hP 0 rfl rfl 6 (by decide) (hts _ L_927) (fun _ h9 => h9) rfl d_Mo_propertyName_47 ?_
      refine lv_iconst (v := 1) hx hb d_Mo_propertyName_50 (by decide) ?_
      refine lv_isub hx hb d_Mo_propertyName_51 ?_
      by_cases cb_6 : inb (((q_at mo_4) + 1) - 1) 1001
      case neg => exact absurd (by unfold f_Mo_propertyName; rw [bndM_r w_1, if_pos c_2, bndM_r w_4, if_neg c_5, if_neg cb_6]) hg
      refine va_iald (D := (dC, dI)) hx hb hK hP 3 0 rfl rfl cb_6 d_Mo_propertyName_52 ?_
      exact mr_iret (v := ((q_names mo_4) ((((q_at mo_4) + 1) - 1) : Int32).toNatClampNeg)) (mo := (s_at mo_4 ((q_at mo_4) + 1))) hx hb hr hlocks hK hP hD hS (by unfold f_Mo_propertyName; rw [bndM_r w_1, if_pos c_2, bndM_r w_4, if_neg c_5, if_pos cb_6]) d_Mo_propertyName_53
    · refine lv_aload_n hx hb d_Mo_propertyName_16 rfl (lv_at hl 0 rfl) ?_
      refine lv_iconst (v := 3) hx hb d_Mo_propertyName_17 (by decide) ?_
      refine mr_Vi (g := (f_Mo_isKind mo_4 3)) (As := [.int 3]) (rest := []) ⟨hx, hb, hml, hown, hts0⟩ (m_Mo_isKind l hlt dC dI cI cZ sa rk hm ma mo_4 _ 3 (fun z => hg (by unfold f_Mo_propertyName; rw [bndM_r w_1, if_pos c_2, bndM_r w_4, if_pos c_5, bndM_n z]))) hP hD hK hS hA hC hZ hnt hlocks L_1057 L_1059 L_61 L_90 L_1060 k_Mo_isKind ⟨(by show _ ≤ 7; omega), (by show _ ≤ 102; omega)⟩ rfl rfl hl.1 (Nat.le_of_ble_eq_true rfl) d_Mo_propertyName_18 rfl (fun q z => by unfold f_Mo_propertyName; rw [bndM_r w_1, if_pos c_2, bndM_r w_4, if_pos c_5, bndM_l z]) (fun r_7 mo_7 H locs w_7 hP hD hS => ?_)
      refine lv_if_ne (tgt := 32) hx hb d_Mo_propertyName_21 (by decide) (fun c_8 => ?_) (fun c_8 => ?_)
      · refine lv_aload_n hx hb d_Mo_propertyName_32 rfl (lv_at hl 0 rfl) ?_
        refine lv_dup hx hb d_Mo_propertyName_33 rfl ?_
        refine va_get (D := (dC, dI)) (ci := 6) (v := .int (q_at mo_7)) (C := R_Mo) (T := T_Mo) (N := 31) hx hb hts u_Mo hown hK hP 0 rfl rfl 6 (by decide) (hts _ L_927) (fun _ h9 => h9) rfl d_Mo_propertyName_34 ?_
        refine lv_iconst (v := 1) hx hb d_Mo_propertyName_37 (by decide) ?_
        refine lv_iadd hx hb d_Mo_propertyName_38 ?_
        refine va_put (D := (dC, dI)) (ci := 6) (v := .int ((q_at mo_7) + 1)) (ty := .int) (C := R_Mo) (T := T_Mo) (N := 31) hx hb hts u_Mo ty_Mo tk_Mo nm_Mo hown hK hP hD hS 0 rfl rfl 6 (by decide) (hts _ L_927) (fun _ h9 => h9) rfl (by decide +kernel) rfl rfl (Nat.le_of_ble_eq_true rfl) d_Mo_propertyName_39 (fun H locs hP hD hS => ?_)
        have hP : va_P (dC, dI) cls (wM cI cZ hm ma (s_at mo_7 ((q_at mo_7) + 1))) H := hP
        have hD : va_D A (wM cI cZ hm ma (s_at mo_7 ((q_at mo_7) + 1))) := hD
        refine lv_aload_n hx hb d_Mo_propertyName_42 rfl (lv_at hl 0 rfl) ?_
        refine va_get (D := (dC, dI)) (ci := 6) (v := .ref (ma 2)) (C := R_Mo) (T := T_Mo) (N := 31) hx hb hts u_Mo hown hK hP 0 rfl rfl 3 (by decide) (hts _ L_924) (fun _ h9 => h9) rfl d_Mo_propertyName_43 ?_
        refine lv_aload_n hx hb d_Mo_propertyName_46 rfl (lv_at hl 0 rfl) ?_
        refine va_get (D := (dC, dI)) (ci := 6) (v := .int ((q_at mo_7) + 1)) (C := R_Mo) (T := T_Mo) (N := 31) hx hb hts u_Mo hown hK hP 0 rfl rfl 6 (by decide) (hts _ L_927) (fun _ h9 => h9) rfl d_Mo_propertyName_47 ?_
        refine lv_iconst (v := 1) hx hb d_Mo_propertyName_50 (by decide) ?_
        refine lv_isub hx hb d_Mo_propertyName_51 ?_
        by_cases cb_9 : inb (((q_at mo_7) + 1) - 1) 1001
        case neg => exact absurd (by unfold f_Mo_propertyName; rw [bndM_r w_1, if_pos c_2, bndM_r w_4, if_pos c_5, bndM_r w_7, if_neg c_8, if_neg cb_9]) hg
        refine va_iald (D := (dC, dI)) hx hb hK hP 3 0 rfl rfl cb_9 d_Mo_propertyName_52 ?_
        exact mr_iret (v := ((q_names mo_7) ((((q_at mo_7) + 1) - 1) : Int32).toNatClampNeg)) (mo := (s_at mo_7 ((q_at mo_7) + 1))) hx hb hr hlocks hK hP hD hS (by unfold f_Mo_propertyName; rw [bndM_r w_1, if_pos c_2, bndM_r w_4, if_pos c_5, bndM_r w_7, if_neg c_8, if_pos cb_9]) d_Mo_propertyName_53
      · refine lv_aload_n hx hb d_Mo_propertyName_24 rfl (lv_at hl 0 rfl) ?_
        refine lv_aload_n hx hb d_Mo_propertyName_25 rfl (lv_at hl 0 rfl) ?_
        refine va_get (D := (dC, dI)) (ci := 6) (v := .int (q_at mo_7)) (C := R_Mo) (T := T_Mo) (N := 31) hx hb hts u_Mo hown hK hP 0 rfl rfl 6 (by decide) (hts _ L_927) (fun _ h9 => h9) rfl d_Mo_propertyName_26 ?_
        refine mr_Vv (g := (f_Mo_refuse mo_7 (q_at mo_7))) (As := [.int (q_at mo_7)]) (rest := []) ⟨hx, hb, hml, hown, hts0⟩ (m_Mo_refuse l hlt dC dI cI cZ sa rk hm ma mo_7 _ (q_at mo_7) ) hP hD hK hS hA hC hZ hnt hlocks L_1072 L_1074 L_64 L_90 L_1075 k_Mo_refuse ⟨(by show _ ≤ 7; omega), (by show _ ≤ 102; omega)⟩ rfl rfl hl.1 (Nat.le_of_ble_eq_true rfl) d_Mo_propertyName_29 rfl (fun q z => by unfold f_Mo_propertyName; rw [bndM_r w_1, if_pos c_2, bndM_r w_4, if_pos c_5, bndM_r w_7, if_pos c_8, bndM_l z]) (fun mo_10 H locs w_10 hP hD hS => ?_)
        refine lv_aload_n hx hb d_Mo_propertyName_32 rfl (lv_at hl 0 rfl) ?_
        refine lv_dup hx hb d_Mo_propertyName_33 rfl ?_
        refine va_get (D := (dC, dI)) (ci := 6) (v := .int (q_at mo_10)) (C := R_Mo) (T := T_Mo) (N := 31) hx hb hts u_Mo hown hK hP 0 rfl rfl 6 (by decide) (hts _ L_927) (fun _ h9 => h9) rfl d_Mo_propertyName_34 ?_
        refine lv_iconst (v := 1) hx hb d_Mo_propertyName_37 (by decide) ?_
        refine lv_iadd hx hb d_Mo_propertyName_38 ?_
        refine va_put (D := (dC, dI)) (ci := 6) (v := .int ((q_at mo_10) + 1)) (ty := .int) (C := R_Mo) (T := T_Mo) (N := 31) hx hb hts u_Mo ty_Mo tk_Mo nm_Mo hown hK hP hD hS 0 rfl rfl 6 (by decide) (hts _ L_927) (fun _ h9 => h9) rfl (by decide +kernel) rfl rfl (Nat.le_of_ble_eq_true rfl) d_Mo_propertyName_39 (fun H locs hP hD hS => ?_)
        have hP : va_P (dC, dI) cls (wM cI cZ hm ma (s_at mo_10 ((q_at mo_10) + 1))) H := hP
        have hD : va_D A (wM cI cZ hm ma (s_at mo_10 ((q_at mo_10) + 1))) := hD
        refine lv_aload_n hx hb d_Mo_propertyName_42 rfl (lv_at hl 0 rfl) ?_
        refine va_get (D := (dC, dI)) (ci := 6) (v := .ref (ma 2)) (C := R_Mo) (T := T_Mo) (N := 31) hx hb hts u_Mo hown hK hP 0 rfl rfl 3 (by decide) (hts _ L_924) (fun _ h9 => h9) rfl d_Mo_propertyName_43 ?_
        refine lv_aload_n hx hb d_Mo_propertyName_46 rfl (lv_at hl 0 rfl) ?_
        refine va_get (D := (dC, dI)) (ci := 6) (v := .int ((q_at mo_10) + 1)) (C := R_Mo) (T := T_Mo) (N := 31) hx hb hts u_Mo hown hK hP 0 rfl rfl 6 (by decide) (hts _ L_927) (fun _ h9 => h9) rfl d_Mo_propertyName_47 ?_
        refine lv_iconst (v := 1) hx hb d_Mo_propertyName_50 (by decide) ?_
        refine lv_isub hx hb d_Mo_propertyName_51 ?_
        by_cases cb_11 : inb (((q_at mo_10) + 1) - 1) 1001
        case neg => exact absurd (by unfold f_Mo_propertyName; rw [bndM_r w_1, if_pos c_2, bndM_r w_4, if_pos c_5, bndM_r w_7, if_pos c_8, bndM_r w_10, if_neg cb_11]) hg
        refine va_iald (D := (dC, dI)) hx hb hK hP 3 0 rfl rfl cb_11 d_Mo_propertyName_52 ?_
        exact mr_iret (v := ((q_names mo_10) ((((q_at mo_10) + 1) - 1) : Int32).toNatClampNeg)) (mo := (s_at mo_10 ((q_at mo_10) + 1))) hx hb hr hlocks hK hP hD hS (by unfold f_Mo_propertyName; rw [bndM_r w_1, if_pos c_2, bndM_r w_4, if_pos c_5, bndM_r w_7, if_pos c_8, bndM_r w_10, if_pos cb_11]) d_Mo_propertyName_53
def f_Mo_begin (mo : MO)  : Rm := (some (.inr (0, (s_literals (s_place (s_at (s_properties (s_breakables (s_loops (s_ownLabels (s_labels (s_loose (s_inFunction (s_strict (s_nodes (s_made mo 0) 0) 0) 0) 0) 0) 0) 0) 0) 0) 0) (-1)) 0))))
set_option maxRecDepth 100000 in
set_option maxHeartbeats 4000000 in
theorem m_Mo_begin (l : Launch) (hlt : l.stackTraces = false) (dC : Nat → ClassId) (dI : Nat → Nat → Nat) (cI cZ : ClassId) (sa rk hm : Nat) (ma : Nat → Nat)  (mo : MO) (sz : Nat)  (hg : (f_Mo_begin mo) ≠ none) : cXv l y_Mo_begin c_Mo_begin 1 (0) (0) (dC, dI) cI cZ sa rk hm ma mo sz [.ref hm] (f_Mo_begin mo) := by
  refine vx_ofW (cc := c_Mo_begin) (maxL := 1) (ret := none) (by decide) rfl ?_
  intro p e s m args below meth c s₁ B hml hnt hv
  obtain ⟨rfl, hsz, hP, hK, hD0, hC, hZ⟩ := hv
  have hx := B.exec
  have hb := B.bytes
  have hr := B.returns
  have hts0 := atoms_spec (ws := wy y_Mo_begin c_Mo_begin 1 none) B.pre
  have hts := htsL hts0
  have hown : s.vm.findClass R_Mo = some m.cls := findClass_of_methodNamed B.named
  have hlocks := B.notSynchronized
  subst hsz
  have hD := hD0.self (sz := s.heap.size)
  generalize hAe : va_A (wM cI cZ hm ma mo) s.heap.size = A at hD hZ ⊢
  have hA : ∀ q : Nat, s.heap.size ≤ q → A q := fun q h => by rw [← hAe]; exact Or.inr h
  have hS : va_S A s.heap s.heap [] := va_S.rf
  have hl := lv_entry ([.ref hm]) (n := 1) (Nat.le_of_ble_eq_true rfl)
  rw [lg_entry_eq]
  generalize (lg_sl ([.ref hm]) ++ List.replicate (1 - (lg_sl ([.ref hm])).length) Slot.unset).toArray = ls at hl ⊢
  have hl : lv_has ls 1 [(0, .ref hm)] := hl
  refine lv_aload_n hx hb d_Mo_begin_0 rfl (lv_at hl 0 rfl) ?_
  refine lv_iconst (v := 0) hx hb d_Mo_begin_1 (by decide) ?_
  refine va_put (D := (dC, dI)) (ci := 6) (v := .int 0) (ty := .int) (C := R_Mo) (T := T_Mo) (N := 31) hx hb hts u_Mo ty_Mo tk_Mo nm_Mo hown hK hP hD hS 0 rfl rfl 6 (by decide) (hts _ L_927) (fun _ h9 => h9) rfl (by decide +kernel) rfl rfl (Nat.le_of_ble_eq_true rfl) d_Mo_begin_2 (fun H locs hP hD hS => ?_)
  have hP : va_P (dC, dI) cls (wM cI cZ hm ma (s_at mo 0)) H := hP
  have hD : va_D A (wM cI cZ hm ma (s_at mo 0)) := hD
  refine lv_aload_n hx hb d_Mo_begin_5 rfl (lv_at hl 0 rfl) ?_
  refine lv_iconst (v := (-1)) hx hb d_Mo_begin_6 (by decide) ?_
  refine va_put (D := (dC, dI)) (ci := 6) (v := .int (-1)) (ty := .int) (C := R_Mo) (T := T_Mo) (N := 31) hx hb hts u_Mo ty_Mo tk_Mo nm_Mo hown hK hP hD hS 0 rfl rfl 7 (by decide) (hts _ L_928) (fun _ h9 => h9) rfl (by decide +kernel) rfl rfl (Nat.le_of_ble_eq_true rfl) d_Mo_begin_7 (fun H locs hP hD hS => ?_)
  have hP : va_P (dC, dI) cls (wM cI cZ hm ma (s_place (s_at mo 0) (-1))) H := hP
  have hD : va_D A (wM cI cZ hm ma (s_place (s_at mo 0) (-1))) := hD
  refine lv_aload_n hx hb d_Mo_begin_10 rfl (lv_at hl 0 rfl) ?_
  refine lv_iconst (v := 0) hx hb d_Mo_begin_11 (by decide) ?_
  refine va_put (D := (dC, dI)) (ci := 6) (v := .int 0) (ty := .int) (C := R_Mo) (T := T_Mo) (N := 31) hx hb hts u_Mo ty_Mo tk_Mo nm_Mo hown hK hP hD hS 0 rfl rfl 8 (by decide) (hts _ L_929) (fun _ h9 => h9) rfl (by decide +kernel) rfl rfl (Nat.le_of_ble_eq_true rfl) d_Mo_begin_12 (fun H locs hP hD hS => ?_)
  have hP : va_P (dC, dI) cls (wM cI cZ hm ma (s_place (s_at (s_made mo 0) 0) (-1))) H := hP
  have hD : va_D A (wM cI cZ hm ma (s_place (s_at (s_made mo 0) 0) (-1))) := hD
  refine lv_aload_n hx hb d_Mo_begin_15 rfl (lv_at hl 0 rfl) ?_
  refine lv_iconst (v := 0) hx hb d_Mo_begin_16 (by decide) ?_
  refine va_put (D := (dC, dI)) (ci := 6) (v := .int 0) (ty := .int) (C := R_Mo) (T := T_Mo) (N := 31) hx hb hts u_Mo ty_Mo tk_Mo nm_Mo hown hK hP hD hS 0 rfl rfl 15 (by decide) (hts _ L_936) (fun _ h9 => h9) rfl (by decide +kernel) rfl rfl (Nat.le_of_ble_eq_true rfl) d_Mo_begin_17 (fun H locs hP hD hS => ?_)
  have hP : va_P (dC, dI) cls (wM cI cZ hm ma (s_place (s_at (s_nodes (s_made mo 0) 0) 0) (-1))) H := hP
  have hD : va_D A (wM cI cZ hm ma (s_place (s_at (s_nodes (s_made mo 0) 0) 0) (-1))) := hD
  refine lv_aload_n hx hb d_Mo_begin_20 rfl (lv_at hl 0 rfl) ?_
  refine lv_iconst (v := 0) hx hb d_Mo_begin_21 (by decide) ?_
  refine va_put (D := (dC, dI)) (ci := 6) (v := .int 0) (ty := .int) (C := R_Mo) (T := T_Mo) (N := 31) hx hb hts u_Mo ty_Mo tk_Mo nm_Mo hown hK hP hD hS 0 rfl rfl 18 (by decide) (hts _ L_939) (fun _ h9 => h9) rfl (by decide +kernel) rfl rfl (Nat.le_of_ble_eq_true rfl) d_Mo_begin_22 (fun H locs hP hD hS => ?_)
  have hP : va_P (dC, dI) cls (wM cI cZ hm ma (s_literals (s_place (s_at (s_nodes (s_made mo 0) 0) 0) (-1)) 0)) H := hP
  have hD : va_D A (wM cI cZ hm ma (s_literals (s_place (s_at (s_nodes (s_made mo 0) 0) 0) (-1)) 0)) := hD
  refine lv_aload_n hx hb d_Mo_begin_25 rfl (lv_at hl 0 rfl) ?_
  refine lv_iconst (v := 0) hx hb d_Mo_begin_26 (by decide) ?_
  refine va_put (D := (dC, dI)) (ci := 6) (v := .int 0) (ty := .boolean) (C := R_Mo) (T := T_Mo) (N := 31) hx hb hts u_Mo ty_Mo tk_Mo nm_Mo hown hK hP hD hS 0 rfl rfl 19 (by decide) (hts _ L_940) (fun _ h9 => h9) rfl (by decide +kernel) rfl rfl (Nat.le_of_ble_eq_true rfl) d_Mo_begin_27 (fun H locs hP hD hS => ?_)
  have hP : va_P (dC, dI) cls (wM cI cZ hm ma (s_literals (s_place (s_at (s_strict (s_nodes (s_made mo 0) 0) 0) 0) (-1)) 0)) H := hP
  have hD : va_D A (wM cI cZ hm ma (s_literals (s_place (s_at (s_strict (s_nodes (s_made mo 0) 0) 0) 0) (-1)) 0)) := hD
  refine lv_aload_n hx hb d_Mo_begin_30 rfl (lv_at hl 0 rfl) ?_
  refine lv_iconst (v := 0) hx hb d_Mo_begin_31 (by decide) ?_
  refine va_put (D := (dC, dI)) (ci := 6) (v := .int 0) (ty := .boolean) (C := R_Mo) (T := T_Mo) (N := 31) hx hb hts u_Mo ty_Mo tk_Mo nm_Mo hown hK hP hD hS 0 rfl rfl 20 (by decide) (hts _ L_941) (fun _ h9 => h9) rfl (by decide +kernel) rfl rfl (Nat.le_of_ble_eq_true rfl) d_Mo_begin_32 (fun H locs hP hD hS => ?_)
  have hP : va_P (dC, dI) cls (wM cI cZ hm ma (s_literals (s_place (s_at (s_inFunction (s_strict (s_nodes (s_made mo 0) 0) 0) 0) 0) (-1)) 0)) H := hP
  have hD : va_D A (wM cI cZ hm ma (s_literals (s_place (s_at (s_inFunction (s_strict (s_nodes (s_made mo 0) 0) 0) 0) 0) (-1)) 0)) := hD
  refine lv_aload_n hx hb d_Mo_begin_35 rfl (lv_at hl 0 rfl) ?_
  refine lv_iconst (v := 0) hx hb d_Mo_begin_36 (by decide) ?_
  refine va_put (D := (dC, dI)) (ci := 6) (v := .int 0) (ty := .boolean) (C := R_Mo) (T := T_Mo) (N := 31) hx hb hts u_Mo ty_Mo tk_Mo nm_Mo hown hK hP hD hS 0 rfl rfl 21 (by decide) (hts _ L_942) (fun _ h9 => h9) rfl (by decide +kernel) rfl rfl (Nat.le_of_ble_eq_true rfl) d_Mo_begin_37 (fun H locs hP hD hS => ?_)
  have hP : va_P (dC, dI) cls (wM cI cZ hm ma (s_literals (s_place (s_at (s_loose (s_inFunction (s_strict (s_nodes (s_made mo 0) 0) 0) 0) 0) 0) (-1)) 0)) H := hP
  have hD : va_D A (wM cI cZ hm ma (s_literals (s_place (s_at (s_loose (s_inFunction (s_strict (s_nodes (s_made mo 0) 0) 0) 0) 0) 0) (-1)) 0)) := hD
  refine lv_aload_n hx hb d_Mo_begin_40 rfl (lv_at hl 0 rfl) ?_
  refine lv_iconst (v := 0) hx hb d_Mo_begin_41 (by decide) ?_
  refine va_put (D := (dC, dI)) (ci := 6) (v := .int 0) (ty := .int) (C := R_Mo) (T := T_Mo) (N := 31) hx hb hts u_Mo ty_Mo tk_Mo nm_Mo hown hK hP hD hS 0 rfl rfl 22 (by decide) (hts _ L_943) (fun _ h9 => h9) rfl (by decide +kernel) rfl rfl (Nat.le_of_ble_eq_true rfl) d_Mo_begin_42 (fun H locs hP hD hS => ?_)
  have hP : va_P (dC, dI) cls (wM cI cZ hm ma (s_literals (s_place (s_at (s_labels (s_loose (s_inFunction (s_strict (s_nodes (s_made mo 0) 0) 0) 0) 0) 0) 0) (-1)) 0)) H := hP
  have hD : va_D A (wM cI cZ hm ma (s_literals (s_place (s_at (s_labels (s_loose (s_inFunction (s_strict (s_nodes (s_made mo 0) 0) 0) 0) 0) 0) 0) (-1)) 0)) := hD
  refine lv_aload_n hx hb d_Mo_begin_45 rfl (lv_at hl 0 rfl) ?_
  refine lv_iconst (v := 0) hx hb d_Mo_begin_46 (by decide) ?_
  refine va_put (D := (dC, dI)) (ci := 6) (v := .int 0) (ty := .int) (C := R_Mo) (T := T_Mo) (N := 31) hx hb hts u_Mo ty_Mo tk_Mo nm_Mo hown hK hP hD hS 0 rfl rfl 23 (by decide) (hts _ L_944) (fun _ h9 => h9) rfl (by decide +kernel) rfl rfl (Nat.le_of_ble_eq_true rfl) d_Mo_begin_47 (fun H locs hP hD hS => ?_)
  have hP : va_P (dC, dI) cls (wM cI cZ hm ma (s_literals (s_place (s_at (s_ownLabels (s_labels (s_loose (s_inFunction (s_strict (s_nodes (s_made mo 0) 0) 0) 0) 0) 0) 0) 0) (-1)) 0)) H := hP
  have hD : va_D A (wM cI cZ hm ma (s_literals (s_place (s_at (s_ownLabels (s_labels (s_loose (s_inFunction (s_strict (s_nodes (s_made mo 0) 0) 0) 0) 0) 0) 0) 0) (-1)) 0)) := hD
  refine lv_aload_n hx hb d_Mo_begin_50 rfl (lv_at hl 0 rfl) ?_
  refine lv_iconst (v := 0) hx hb d_Mo_begin_51 (by decide) ?_
  refine va_put (D := (dC, dI)) (ci := 6) (v := .int 0) (ty := .int) (C := R_Mo) (T := T_Mo) (N := 31) hx hb hts u_Mo ty_Mo tk_Mo nm_Mo hown hK hP hD hS 0 rfl rfl 26 (by decide) (hts _ L_947) (fun _ h9 => h9) rfl (by decide +kernel) rfl rfl (Nat.le_of_ble_eq_true rfl) d_Mo_begin_52 (fun H locs hP hD hS => ?_)
  have hP : va_P (dC, dI) cls (wM cI cZ hm ma (s_literals (s_place (s_at (s_loops (s_ownLabels (s_labels (s_loose (s_inFunction (s_strict (s_nodes (s_made mo 0) 0) 0) 0) 0) 0) 0) 0) 0) (-1)) 0)) H := hP
  have hD : va_D A (wM cI cZ hm ma (s_literals (s_place (s_at (s_loops (s_ownLabels (s_labels (s_loose (s_inFunction (s_strict (s_nodes (s_made mo 0) 0) 0) 0) 0) 0) 0) 0) 0) (-1)) 0)) := hD
  refine lv_aload_n hx hb d_Mo_begin_55 rfl (lv_at hl 0 rfl) ?_
  refine lv_iconst (v := 0) hx hb d_Mo_begin_56 (by decide) ?_
  refine va_put (D := (dC, dI)) (ci := 6) (v := .int 0) (ty := .int) (C := R_Mo) (T := T_Mo) (N := 31) hx hb hts u_Mo ty_Mo tk_Mo nm_Mo hown hK hP hD hS 0 rfl rfl 27 (by decide) (hts _ L_948) (fun _ h9 => h9) rfl (by decide +kernel) rfl rfl (Nat.le_of_ble_eq_true rfl) d_Mo_begin_57 (fun H locs hP hD hS => ?_)
  have hP : va_P (dC, dI) cls (wM cI cZ hm ma (s_literals (s_place (s_at (s_breakables (s_loops (s_ownLabels (s_labels (s_loose (s_inFunction (s_strict (s_nodes (s_made mo 0) 0) 0) 0) 0) 0) 0) 0) 0) 0) (-1)) 0)) H := hP
  have hD : va_D A (wM cI cZ hm ma (s_literals (s_place (s_at (s_breakables (s_loops (s_ownLabels (s_labels (s_loose (s_inFunction (s_strict (s_nodes (s_made mo 0) 0) 0) 0) 0) 0) 0) 0) 0) 0) (-1)) 0)) := hD
  refine lv_aload_n hx hb d_Mo_begin_60 rfl (lv_at hl 0 rfl) ?_
  refine lv_iconst (v := 0) hx hb d_Mo_begin_61 (by decide) ?_
  refine va_put (D := (dC, dI)) (ci := 6) (v := .int 0) (ty := .int) (C := R_Mo) (T := T_Mo) (N := 31) hx hb hts u_Mo ty_Mo tk_Mo nm_Mo hown hK hP hD hS 0 rfl rfl 28 (by decide) (hts _ L_949) (fun _ h9 => h9) rfl (by decide +kernel) rfl rfl (Nat.le_of_ble_eq_true rfl) d_Mo_begin_62 (fun H locs hP hD hS => ?_)
  have hP : va_P (dC, dI) cls (wM cI cZ hm ma (s_literals (s_place (s_at (s_properties (s_breakables (s_loops (s_ownLabels (s_labels (s_loose (s_inFunction (s_strict (s_nodes (s_made mo 0) 0) 0) 0) 0) 0) 0) 0) 0) 0) 0) (-1)) 0)) H := hP
  have hD : va_D A (wM cI cZ hm ma (s_literals (s_place (s_at (s_properties (s_breakables (s_loops (s_ownLabels (s_labels (s_loose (s_inFunction (s_strict (s_nodes (s_made mo 0) 0) 0) 0) 0) 0) 0) 0) 0) 0) 0) (-1)) 0)) := hD
  exact mr_vret (mo := (s_literals (s_place (s_at (s_properties (s_breakables (s_loops (s_ownLabels (s_labels (s_loose (s_inFunction (s_strict (s_nodes (s_made mo 0) 0) 0) 0) 0) 0) 0) 0) 0) 0) 0) (-1)) 0)) hx hb hr hlocks hK hP hD hS (by unfold f_Mo_begin; rfl) d_Mo_begin_65
def f_Mo_place (mo : MO)  : Rm := (some (.inr ((q_place mo), (s_thrown mo 0))))
set_option maxRecDepth 100000 in
set_option maxHeartbeats 4000000 in
theorem m_Mo_place (l : Launch) (hlt : l.stackTraces = false) (dC : Nat → ClassId) (dI : Nat → Nat → Nat) (cI cZ : ClassId) (sa rk hm : Nat) (ma : Nat → Nat)  (mo : MO) (sz : Nat)  (hg : (f_Mo_place mo) ≠ none) : cXi l y_Mo_place c_Mo_place 1 .int (0) (0) (dC, dI) cI cZ sa rk hm ma mo sz [.ref hm] (f_Mo_place mo) := by
  refine vx_ofW (cc := c_Mo_place) (maxL := 1) (ret := (some .int)) (by decide) rfl ?_
  intro p e s m args below meth c s₁ B hml hnt hv
  obtain ⟨rfl, hsz, hP, hK, hD0, hC, hZ⟩ := hv
  have hx := B.exec
  have hb := B.bytes
  have hr := B.returns
  have hts0 := atoms_spec (ws := wy y_Mo_place c_Mo_place 1 (some .int)) B.pre
  have hts := htsL hts0
  have hown : s.vm.findClass R_Mo = some m.cls := findClass_of_methodNamed B.named
  have hlocks := B.notSynchronized
  subst hsz
  have hD := hD0.self (sz := s.heap.size)
  generalize hAe : va_A (wM cI cZ hm ma mo) s.heap.size = A at hD hZ ⊢
  have hA : ∀ q : Nat, s.heap.size ≤ q → A q := fun q h => by rw [← hAe]; exact Or.inr h
  have hS : va_S A s.heap s.heap [] := va_S.rf
  have hl := lv_entry ([.ref hm]) (n := 1) (Nat.le_of_ble_eq_true rfl)
  rw [lg_entry_eq]
  generalize (lg_sl ([.ref hm]) ++ List.replicate (1 - (lg_sl ([.ref hm])).length) Slot.unset).toArray = ls at hl ⊢
  have hl : lv_has ls 1 [(0, .ref hm)] := hl
  refine lv_aload_n hx hb d_Mo_place_0 rfl (lv_at hl 0 rfl) ?_
  refine lv_iconst (v := 0) hx hb d_Mo_place_1 (by decide) ?_
  refine va_put (D := (dC, dI)) (ci := 6) (v := .int 0) (ty := .int) (C := R_Mo) (T := T_Mo) (N := 31) hx hb hts u_Mo ty_Mo tk_Mo nm_Mo hown hK hP hD hS 0 rfl rfl 0 (by decide) (hts _ L_921) (fun _ h9 => h9) rfl (by decide +kernel) rfl rfl (Nat.le_of_ble_eq_true rfl) d_Mo_place_2 (fun H locs hP hD hS => ?_)
  have hP : va_P (dC, dI) cls (wM cI cZ hm ma (s_thrown mo 0)) H := hP
  have hD : va_D A (wM cI cZ hm ma (s_thrown mo 0)) := hD
  refine lv_aload_n hx hb d_Mo_place_5 rfl (lv_at hl 0 rfl) ?_
  refine va_get (D := (dC, dI)) (ci := 6) (v := .int (q_place mo)) (C := R_Mo) (T := T_Mo) (N := 31) hx hb hts u_Mo hown hK hP 0 rfl rfl 7 (by decide) (hts _ L_928) (fun _ h9 => h9) rfl d_Mo_place_6 ?_
  exact mr_iret (v := (q_place mo)) (mo := (s_thrown mo 0)) hx hb hr hlocks hK hP hD hS (by unfold f_Mo_place; rfl) d_Mo_place_9
