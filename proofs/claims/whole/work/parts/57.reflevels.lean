/-! the levels of the reference's recursion tied -/
def Kn : Nat → Nat → List Int32 → MO → Rm
  | 0 => fun _ _ _ => none
  | n + 1 => fun i as mo => match i, as with
    | 0, [p0, p1] => f_Mo_expression (Kn n) mo p0 p1
    | 1, [p0, p1] => f_Mo_assignment (Kn n) mo p0 p1
    | 2, [p0, p1, p2] => f_Mo_binary (Kn n) mo p0 p1 p2
    | 3, [p0] => f_Mo_unary (Kn n) mo p0
    | 4, [p0, p1] => f_Mo_member (Kn n) mo p0 p1
    | 5, [p0, p1] => f_Mo_statement (Kn n) mo p0 p1
    | 6, [p0, p1, p2] => f_Mo_statements (Kn n) mo p0 p1 p2
    | 7, [p0] => f_Mo_block (Kn n) mo p0
    | _, _ => none
theorem r_levels (l : Launch) (hlt : l.stackTraces = false) (dC : Nat → ClassId) (dI : Nat → Nat → Nat) (cI cZ : ClassId) (sa rk hm : Nat) (ma : Nat → Nat) : ∀ (n fr0 lo0 : Nat), 19 * n ≤ fr0 → 396 * n ≤ lo0 → (∀ (mo : MO) (sz : Nat) (p0 p1 : Int32), Kn n 0 [p0, p1] mo ≠ none → cXi l y_Mo_expression c_Mo_expression 5 .int fr0 lo0 (dC, dI) cI cZ sa rk hm ma mo sz [.ref hm, .int p0, .int p1] (Kn n 0 [p0, p1] mo)) ∧ (∀ (mo : MO) (sz : Nat) (p0 p1 : Int32), Kn n 1 [p0, p1] mo ≠ none → cXi l y_Mo_assignment c_Mo_assignment 5 .int fr0 lo0 (dC, dI) cI cZ sa rk hm ma mo sz [.ref hm, .int p0, .int p1] (Kn n 1 [p0, p1] mo)) ∧ (∀ (mo : MO) (sz : Nat) (p0 p1 p2 : Int32), Kn n 2 [p0, p1, p2] mo ≠ none → cXi l y_Mo_binary c_Mo_binary 7 .int fr0 lo0 (dC, dI) cI cZ sa rk hm ma mo sz [.ref hm, .int p0, .int p1, .int p2] (Kn n 2 [p0, p1, p2] mo)) ∧ (∀ (mo : MO) (sz : Nat) (p0 : Int32), Kn n 3 [p0] mo ≠ none → cXi l y_Mo_unary c_Mo_unary 5 .int fr0 lo0 (dC, dI) cI cZ sa rk hm ma mo sz [.ref hm, .int p0] (Kn n 3 [p0] mo)) ∧ (∀ (mo : MO) (sz : Nat) (p0 p1 : Int32), Kn n 4 [p0, p1] mo ≠ none → cXi l y_Mo_member c_Mo_member 6 .int fr0 lo0 (dC, dI) cI cZ sa rk hm ma mo sz [.ref hm, .int p0, .int p1] (Kn n 4 [p0, p1] mo)) ∧ (∀ (mo : MO) (sz : Nat) (p0 p1 : Int32), Kn n 5 [p0, p1] mo ≠ none → cXi l y_Mo_statement c_Mo_statement 3 .int fr0 lo0 (dC, dI) cI cZ sa rk hm ma mo sz [.ref hm, .int p0, .int p1] (Kn n 5 [p0, p1] mo)) ∧ (∀ (mo : MO) (sz : Nat) (p0 p1 p2 : Int32), Kn n 6 [p0, p1, p2] mo ≠ none → cXv l y_Mo_statements c_Mo_statements 8 fr0 lo0 (dC, dI) cI cZ sa rk hm ma mo sz [.ref hm, .int p0, .int p1, .int p2] (Kn n 6 [p0, p1, p2] mo)) ∧ (∀ (mo : MO) (sz : Nat) (p0 : Int32), Kn n 7 [p0] mo ≠ none → cXi l y_Mo_block c_Mo_block 4 .int fr0 lo0 (dC, dI) cI cZ sa rk hm ma mo sz [.ref hm, .int p0] (Kn n 7 [p0] mo)) := by
  intro n
  induction n with
  | zero => intro fr0 lo0 _ _; exact ⟨fun _ _ _ _ hg => absurd rfl hg, fun _ _ _ _ hg => absurd rfl hg, fun _ _ _ _ _ hg => absurd rfl hg, fun _ _ _ hg => absurd rfl hg, fun _ _ _ _ hg => absurd rfl hg, fun _ _ _ _ hg => absurd rfl hg, fun _ _ _ _ _ hg => absurd rfl hg, fun _ _ _ hg => absurd rfl hg⟩
  | succ n ih =>
    intro fr0 lo0 h1 h2
    refine ⟨?_, ?_, ?_, ?_, ?_, ?_, ?_, ?_⟩
    · intro mo sz p0 p1 hg
      obtain ⟨k, rfl⟩ : ∃ k, fr0 = k + 19 := ⟨fr0 - 19, by omega⟩
      obtain ⟨j, rfl⟩ : ∃ j, lo0 = j + 396 := ⟨lo0 - 396, by omega⟩
      obtain ⟨i0, i1, i2, i3, i4, i5, i6, i7⟩ := ih k j (by omega) (by omega)
      exact m_Mo_expression l hlt dC dI cI cZ sa rk hm ma k j (Kn n) i0 i1 i2 i3 i4 i5 i6 i7 mo sz p0 p1 hg
    · intro mo sz p0 p1 hg
      obtain ⟨k, rfl⟩ : ∃ k, fr0 = k + 18 := ⟨fr0 - 18, by omega⟩
      obtain ⟨j, rfl⟩ : ∃ j, lo0 = j + 372 := ⟨lo0 - 372, by omega⟩
      obtain ⟨i0, i1, i2, i3, i4, i5, i6, i7⟩ := ih k j (by omega) (by omega)
      exact m_Mo_assignment l hlt dC dI cI cZ sa rk hm ma k j (Kn n) i0 i1 i2 i3 i4 i5 i6 i7 mo sz p0 p1 hg
    · intro mo sz p0 p1 p2 hg
      obtain ⟨k, rfl⟩ : ∃ k, fr0 = k + 17 := ⟨fr0 - 17, by omega⟩
      obtain ⟨j, rfl⟩ : ∃ j, lo0 = j + 346 := ⟨lo0 - 346, by omega⟩
      obtain ⟨i0, i1, i2, i3, i4, i5, i6, i7⟩ := ih k j (by omega) (by omega)
      exact m_Mo_binary l hlt dC dI cI cZ sa rk hm ma k j (Kn n) i0 i1 i2 i3 i4 i5 i6 i7 mo sz p0 p1 p2 hg
    · intro mo sz p0 hg
      obtain ⟨k, rfl⟩ : ∃ k, fr0 = k + 16 := ⟨fr0 - 16, by omega⟩
      obtain ⟨j, rfl⟩ : ∃ j, lo0 = j + 322 := ⟨lo0 - 322, by omega⟩
      obtain ⟨i0, i1, i2, i3, i4, i5, i6, i7⟩ := ih k j (by omega) (by omega)
      exact m_Mo_unary l hlt dC dI cI cZ sa rk hm ma k j (Kn n) i0 i1 i2 i3 i4 i5 i6 i7 mo sz p0 hg
    · intro mo sz p0 p1 hg
      obtain ⟨k, rfl⟩ : ∃ k, fr0 = k + 14 := ⟨fr0 - 14, by omega⟩
      obtain ⟨j, rfl⟩ : ∃ j, lo0 = j + 274 := ⟨lo0 - 274, by omega⟩
      obtain ⟨i0, i1, i2, i3, i4, i5, i6, i7⟩ := ih k j (by omega) (by omega)
      exact m_Mo_member l hlt dC dI cI cZ sa rk hm ma k j (Kn n) i0 i1 i2 i3 i4 i5 i6 i7 mo sz p0 p1 hg
    · intro mo sz p0 p1 hg
      obtain ⟨k, rfl⟩ : ∃ k, fr0 = k + 11 := ⟨fr0 - 11, by omega⟩
      obtain ⟨j, rfl⟩ : ∃ j, lo0 = j + 197 := ⟨lo0 - 197, by omega⟩
      obtain ⟨i0, i1, i2, i3, i4, i5, i6, i7⟩ := ih k j (by omega) (by omega)
      exact m_Mo_statement l hlt dC dI cI cZ sa rk hm ma k j (Kn n) i0 i1 i2 i3 i4 i5 i6 i7 mo sz p0 p1 hg
    · intro mo sz p0 p1 p2 hg
      obtain ⟨k, rfl⟩ : ∃ k, fr0 = k + 12 := ⟨fr0 - 12, by omega⟩
      obtain ⟨j, rfl⟩ : ∃ j, lo0 = j + 222 := ⟨lo0 - 222, by omega⟩
      obtain ⟨i0, i1, i2, i3, i4, i5, i6, i7⟩ := ih k j (by omega) (by omega)
      exact m_Mo_statements l hlt dC dI cI cZ sa rk hm ma k j (Kn n) i0 i1 i2 i3 i4 i5 i6 i7 mo sz p0 p1 p2 hg
    · intro mo sz p0 hg
      obtain ⟨k, rfl⟩ : ∃ k, fr0 = k + 8 := ⟨fr0 - 8, by omega⟩
      obtain ⟨j, rfl⟩ : ∃ j, lo0 = j + 123 := ⟨lo0 - 123, by omega⟩
      obtain ⟨i0, i1, i2, i3, i4, i5, i6, i7⟩ := ih k j (by omega) (by omega)
      exact m_Mo_block l hlt dC dI cI cZ sa rk hm ma k j (Kn n) i0 i1 i2 i3 i4 i5 i6 i7 mo sz p0 hg
