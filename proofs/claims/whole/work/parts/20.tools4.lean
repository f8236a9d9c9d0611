/-! tools 4: the parser's contracts: a method ends with a state, or refuses -/
abbrev AD : Type := Nat × Nat × Nat × Nat
abbrev wQ (cI cZ : ClassId) (hp hc h a1 a2 a3 a4 ht hq n1 n2 : Nat) (u : AD × ST) : va_W := wP cI cZ hp hc h a1 a2 a3 a4 ht u.1.1 u.1.2.1 u.1.2.2.1 u.1.2.2.2 hq n1 n2 u.2
abbrev wX (cI cZ : ClassId) (hp h a1 a2 a3 a4 ht hq n1 n2 : Nat) (u : Nat × AD × ST) : va_W := wQ cI cZ hp u.1 h a1 a2 a3 a4 ht hq n1 n2 u.2
/-- how a method of the parser ends: none: it would pass my bounds; refused at a place (and what is left of the two numbers); an answer and a state -/
abbrev Rz : Type := Option (Sum (Int32 × Nat × Nat) (Int32 × ST))
def bnd (x : Rz) (k : Int32 → ST → Rz) : Rz := match x with
  | none => none
  | some (.inl q) => some (.inl q)
  | some (.inr q) => k q.1 q.2
theorem bnd_n {x : Rz} {k : Int32 → ST → Rz} (h : x = none) : bnd x k = none := by rw [h]; rfl
theorem bnd_l {x : Rz} {k : Int32 → ST → Rz} {q : Int32 × Nat × Nat} (h : x = some (.inl q)) : bnd x k = some (.inl q) := by rw [h]; rfl
theorem bnd_r {x : Rz} {k : Int32 → ST → Rz} {r : Int32} {s : ST} (h : x = some (.inr (r, s))) : bnd x k = k r s := by rw [h]; rfl
def mcO (st : ST) : Rz → Nat
  | none => 0
  | some (.inl q) => bC st - q.2.1
  | some (.inr q) => bC st - bC q.2
def msO (st : ST) : Rz → Nat
  | none => 0
  | some (.inl q) => bS st - q.2.2
  | some (.inr q) => bS st - bS q.2
abbrev poN (g : Rz) (st : ST) (r : Int32) (u : AD × ST) : Prop := g = some (.inr (r, u.2)) ∧ okSt u.2 ∧ bC u.2 ≤ bC st ∧ bS u.2 ≤ bS st
abbrev poX (g : Rz) (st : ST) (u : Nat × AD × ST) : Prop := g = some (.inl (sRa u.2.2, bC u.2.2, bS u.2.2)) ∧ okSt u.2.2 ∧ bC u.2.2 ≤ bC st ∧ bS u.2.2 ≤ bS st
abbrev IAE : String := "java/lang/IllegalArgumentException"
abbrev xP (D : va_G) (cI cZ : ClassId) (hp h a1 a2 a3 a4 ht hq n1 n2 : Nat) (g : Rz) (st : ST) (A : Nat → Prop) : String → State → State → Prop :=
  vx_X (poX g st) (fun E u t => E = IAE ∧ wB D cI cZ A (wX cI cZ hp h a1 a2 a3 a4 ht hq n1 n2) u t) A
abbrev cPi (l : Launch) (y : MethodName) (cc : ByteArray) (ml : Nat) (rt : FieldType) (fr lo : Nat) (D : va_G) (cI cZ : ClassId) (sa rk hp hc h a1 a2 a3 a4 ht hq n1 n2 : Nat) (ad : AD) (st : ST) (sz : Nat) (av : List Value) (g : Rz) : Prop :=
  vx_Met l y (wy y cc ml (some rt)) { frames := fr, cells := bC st, slots := bS st, locals := lo } (prM D cI cZ sa rk av (wQ cI cZ hp hc h a1 a2 a3 a4 ht hq n1 n2 (ad, st)) sz)
    (va_Qi (poN g st) (wB D cI cZ (va_A (wQ cI cZ hp hc h a1 a2 a3 a4 ht hq n1 n2 (ad, st)) sz) (wQ cI cZ hp hc h a1 a2 a3 a4 ht hq n1 n2)) (va_A (wQ cI cZ hp hc h a1 a2 a3 a4 ht hq n1 n2 (ad, st)) sz))
    (xP D cI cZ hp h a1 a2 a3 a4 ht hq n1 n2 g st (va_A (wQ cI cZ hp hc h a1 a2 a3 a4 ht hq n1 n2 (ad, st)) sz)) (mcO st g) (msO st g) (va_A (wQ cI cZ hp hc h a1 a2 a3 a4 ht hq n1 n2 (ad, st)) sz)
abbrev cPv (l : Launch) (y : MethodName) (cc : ByteArray) (ml : Nat) (fr lo : Nat) (D : va_G) (cI cZ : ClassId) (sa rk hp hc h a1 a2 a3 a4 ht hq n1 n2 : Nat) (ad : AD) (st : ST) (sz : Nat) (av : List Value) (g : Rz) : Prop :=
  vx_Met l y (wy y cc ml none) { frames := fr, cells := bC st, slots := bS st, locals := lo } (prM D cI cZ sa rk av (wQ cI cZ hp hc h a1 a2 a3 a4 ht hq n1 n2 (ad, st)) sz)
    (va_Qv (poN g st 0) (wB D cI cZ (va_A (wQ cI cZ hp hc h a1 a2 a3 a4 ht hq n1 n2 (ad, st)) sz) (wQ cI cZ hp hc h a1 a2 a3 a4 ht hq n1 n2)) (va_A (wQ cI cZ hp hc h a1 a2 a3 a4 ht hq n1 n2 (ad, st)) sz))
    (xP D cI cZ hp h a1 a2 a3 a4 ht hq n1 n2 g st (va_A (wQ cI cZ hp hc h a1 a2 a3 a4 ht hq n1 n2 (ad, st)) sz)) (mcO st g) (msO st g) (va_A (wQ cI cZ hp hc h a1 a2 a3 a4 ht hq n1 n2 (ad, st)) sz)
section TLP
variable {p : Program} {l : Launch} {e : Env} {R : Room} {s : State} {m : MethodId} {args : Array Value} {below : List Frame} {meth : Method} {c : Code} {H : Heap} {locs : List Loc} {cells slots : Nat}
variable {cc : ByteArray} {pc : Nat} {ls : Array Slot} {rest st0 : List Value} {a : Array Value}
variable {D : va_G} {cI cZ : ClassId} {sa rk hp hc h a1 a2 a3 a4 ht hq n1 n2 : Nat} {ad : AD} {st stO : ST} {g G : Rz} {A : Nat → Prop} {Qc : Array Value → State → Outcome → State → Prop}
/-- a callee that gives an int back; what it throws goes on to the caller -/
theorem mx_i (hr : vx_Run p l e R s m args below meth c H locs cells slots (mcO st g) (msO st g) (F0 m pc ls st0) rest
      (va_Qi (poN g st) (wB D cI cZ (va_A (wQ cI cZ hp hc h a1 a2 a3 a4 ht hq n1 n2 (ad, st)) H.size) (wQ cI cZ hp hc h a1 a2 a3 a4 ht hq n1 n2)) (va_A (wQ cI cZ hp hc h a1 a2 a3 a4 ht hq n1 n2 (ad, st)) H.size) a)
      (xP D cI cZ hp h a1 a2 a3 a4 ht hq n1 n2 g st (va_A (wQ cI cZ hp hc h a1 a2 a3 a4 ht hq n1 n2 (ad, st)) H.size)) (va_A (wQ cI cZ hp hc h a1 a2 a3 a4 ht hq n1 n2 (ad, st)) H.size))
    (hS : va_S A s.heap H locs) (hF : ∀ q, va_A (wQ cI cZ hp hc h a1 a2 a3 a4 ht hq n1 n2 (ad, st)) H.size q → A q) (hnt : ∀ x ∈ c.exceptionTable.toList, False) (hlocks : meth.locks = false)
    (hX : ∀ q, g = some (.inl q) → G = some (.inl q)) (hcl : cells + bC st ≤ bC stO) (hsl : slots + bS st ≤ bS stO)
    (kk : ∀ (r : Int32) (ad1 : AD) (st1 : ST) (H1 : Heap) (locs1 : List Loc), g = some (.inr (r, st1)) → okSt st1 → bC st1 ≤ bC st → bS st1 ≤ bS st →
      va_P D cls (wQ cI cZ hp hc h a1 a2 a3 a4 ht hq n1 n2 (ad1, st1)) H1 → va_D A (wQ cI cZ hp hc h a1 a2 a3 a4 ht hq n1 n2 (ad1, st1)) → va_S A s.heap H1 locs1 →
      W p l e R s m args below meth c H1 locs1 (cells + (bC st - bC st1)) (slots + (bS st - bS st1)) (vx_MQ below Qc (xP D cI cZ hp h a1 a2 a3 a4 ht hq n1 n2 G stO A) args s (mcO stO G) (msO stO G) A) (F0 m (pc + 3) ls (.int r :: rest))) :
    W p l e R s m args below meth c H locs cells slots (vx_MQ below Qc (xP D cI cZ hp h a1 a2 a3 a4 ht hq n1 n2 G stO A) args s (mcO stO G) (msO stO G) A) (F0 m pc ls st0) := by
  refine vx_calli hr hS (fun q _ h => hF q h) hF (fun q _ h => hF q h) (fun E ce q9 u t H1 locs1 ht1 hvm hp1 hB hz hk hS1 hce hcv hcl1 => ?_) (fun r u t H1 locs1 ht1 hvm hp1 hB hz hk hS1 => ?_)
  · obtain ⟨hE, hP1, hK1, hD1⟩ := hB
    obtain ⟨e1, e2, e3, e4⟩ := hp1
    have hG := hX _ e1
    subst hE
    refine vx_out (fun x hx => (hnt x hx).elim) hlocks hce hcv hcl1 (fun t2 h2 hvm2 => ⟨u, ⟨hG, e2, by omega, by omega⟩, ⟨rfl, by rw [h2, ← ht1]; exact hP1, va_K.moved (hvm.symm.trans hvm2) hK1, hD1.weaken (fun _ _ _ z => hF _ z)⟩, by rw [h2]; exact hS1.1, fun q h1 h2' => by rw [h2]; exact hS1.2.1 q h1 h2'⟩) hS1.2.2 ?_ ?_
    · rw [hG, e1]; simp only [mcO]; omega
    · rw [hG, e1]; simp only [msO]; omega
  · obtain ⟨hP1, hK1, hD1⟩ := hB
    obtain ⟨e1, e2, e3, e4⟩ := hp1
    rw [ht1] at hP1
    have k := kk r u.1 u.2 H1 locs1 e1 e2 e3 e4 hP1 (hD1.weaken (fun _ _ _ z => hF _ z)) hS1
    have m1 : mcO st g = bC st - bC u.2 := by rw [e1]; rfl
    have m2 : msO st g = bS st - bS u.2 := by rw [e1]; rfl
    rw [m1, m2]; exact k
theorem mx_v (hr : vx_Run p l e R s m args below meth c H locs cells slots (mcO st g) (msO st g) (F0 m pc ls st0) rest
      (va_Qv (poN g st 0) (wB D cI cZ (va_A (wQ cI cZ hp hc h a1 a2 a3 a4 ht hq n1 n2 (ad, st)) H.size) (wQ cI cZ hp hc h a1 a2 a3 a4 ht hq n1 n2)) (va_A (wQ cI cZ hp hc h a1 a2 a3 a4 ht hq n1 n2 (ad, st)) H.size) a)
      (xP D cI cZ hp h a1 a2 a3 a4 ht hq n1 n2 g st (va_A (wQ cI cZ hp hc h a1 a2 a3 a4 ht hq n1 n2 (ad, st)) H.size)) (va_A (wQ cI cZ hp hc h a1 a2 a3 a4 ht hq n1 n2 (ad, st)) H.size))
    (hS : va_S A s.heap H locs) (hF : ∀ q, va_A (wQ cI cZ hp hc h a1 a2 a3 a4 ht hq n1 n2 (ad, st)) H.size q → A q) (hnt : ∀ x ∈ c.exceptionTable.toList, False) (hlocks : meth.locks = false)
    (hX : ∀ q, g = some (.inl q) → G = some (.inl q)) (hcl : cells + bC st ≤ bC stO) (hsl : slots + bS st ≤ bS stO)
    (kk : ∀ (ad1 : AD) (st1 : ST) (H1 : Heap) (locs1 : List Loc), g = some (.inr (0, st1)) → okSt st1 → bC st1 ≤ bC st → bS st1 ≤ bS st →
      va_P D cls (wQ cI cZ hp hc h a1 a2 a3 a4 ht hq n1 n2 (ad1, st1)) H1 → va_D A (wQ cI cZ hp hc h a1 a2 a3 a4 ht hq n1 n2 (ad1, st1)) → va_S A s.heap H1 locs1 →
      W p l e R s m args below meth c H1 locs1 (cells + (bC st - bC st1)) (slots + (bS st - bS st1)) (vx_MQ below Qc (xP D cI cZ hp h a1 a2 a3 a4 ht hq n1 n2 G stO A) args s (mcO stO G) (msO stO G) A) (F0 m (pc + 3) ls rest)) :
    W p l e R s m args below meth c H locs cells slots (vx_MQ below Qc (xP D cI cZ hp h a1 a2 a3 a4 ht hq n1 n2 G stO A) args s (mcO stO G) (msO stO G) A) (F0 m pc ls st0) := by
  refine vx_callv hr hS (fun q _ h => hF q h) hF (fun q _ h => hF q h) (fun E ce q9 u t H1 locs1 ht1 hvm hp1 hB hz hk hS1 hce hcv hcl1 => ?_) (fun u t H1 locs1 ht1 hvm hp1 hB hz hk hS1 => ?_)
  · obtain ⟨hE, hP1, hK1, hD1⟩ := hB
    obtain ⟨e1, e2, e3, e4⟩ := hp1
    have hG := hX _ e1
    subst hE
    refine vx_out (fun x hx => (hnt x hx).elim) hlocks hce hcv hcl1 (fun t2 h2 hvm2 => ⟨u, ⟨hG, e2, by omega, by omega⟩, ⟨rfl, by rw [h2, ← ht1]; exact hP1, va_K.moved (hvm.symm.trans hvm2) hK1, hD1.weaken (fun _ _ _ z => hF _ z)⟩, by rw [h2]; exact hS1.1, fun q h1 h2' => by rw [h2]; exact hS1.2.1 q h1 h2'⟩) hS1.2.2 ?_ ?_
    · rw [hG, e1]; simp only [mcO]; omega
    · rw [hG, e1]; simp only [msO]; omega
  · obtain ⟨hP1, hK1, hD1⟩ := hB
    obtain ⟨e1, e2, e3, e4⟩ := hp1
    rw [ht1] at hP1
    have k := kk u.1 u.2 H1 locs1 e1 e2 e3 e4 hP1 (hD1.weaken (fun _ _ _ z => hF _ z)) hS1
    have m1 : mcO st g = bC st - bC u.2 := by rw [e1]; rfl
    have m2 : msO st g = bS st - bS u.2 := by rw [e1]; rfl
    rw [m1, m2]; exact k
end TLP
