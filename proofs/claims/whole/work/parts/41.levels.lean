/-! the levels of the recursion tied: a fuel of n levels -/
def lv3 : Nat → (Int32 → Int32 → Int32 → ST → Rz) × (Int32 → Int32 → ST → Rz) × (Int32 → Int32 → ST → Rz)
  | 0 => (fun _ _ _ _ => none, fun _ _ _ => none, fun _ _ _ => none)
  | n + 1 => (fun level depth inn st => f_Pa_expression (lv3 n).1 (lv3 n).2.1 (fun form depth st => f_Pa_function (lv3 n).1 (lv3 n).2.1 (lv3 n).2.2 st form depth) st level depth inn,
      fun depth first st => f_Pa_statement (lv3 n).1 (lv3 n).2.1 (lv3 n).2.2 st depth first,
      fun form depth st => f_Pa_function (lv3 n).1 (lv3 n).2.1 (lv3 n).2.2 st form depth)
theorem m_levels (l : Launch) (hlt : l.stackTraces = false) (dC : Nat → ClassId) (dI : Nat → Nat → Nat) (cI cZ : ClassId) (sa rk hp h a1 a2 a3 a4 ht hq n1 n2 : Nat) : ∀ (n fr0 lo0 : Nat), 20 * n ≤ fr0 → 750 * n ≤ lo0 →
    (∀ (hc : Nat) (ad : AD) (st : ST), okSt st → ∀ (sz : Nat) (level depth inn : Int32), (lv3 n).1 level depth inn st ≠ none → cPv l y_Pa_expression c_Pa_expression 6 fr0 lo0 (dC, dI) cI cZ sa rk hp hc h a1 a2 a3 a4 ht hq n1 n2 ad st sz [.ref hp, .int level, .int depth, .int inn] ((lv3 n).1 level depth inn st)) ∧
    (∀ (hc : Nat) (ad : AD) (st : ST), okSt st → ∀ (sz : Nat) (depth first : Int32), (lv3 n).2.1 depth first st ≠ none → cPv l y_Pa_statement c_Pa_statement 4 fr0 lo0 (dC, dI) cI cZ sa rk hp hc h a1 a2 a3 a4 ht hq n1 n2 ad st sz [.ref hp, .int depth, .int first] ((lv3 n).2.1 depth first st)) ∧
    (∀ (hc : Nat) (ad : AD) (st : ST), okSt st → ∀ (sz : Nat) (form depth : Int32), (lv3 n).2.2 form depth st ≠ none → cPv l y_Pa_function c_Pa_function 10 fr0 lo0 (dC, dI) cI cZ sa rk hp hc h a1 a2 a3 a4 ht hq n1 n2 ad st sz [.ref hp, .int form, .int depth] ((lv3 n).2.2 form depth st)) := by
  intro n
  induction n with
  | zero => intro fr0 lo0 _ _; exact ⟨fun _ _ _ _ _ _ _ _ hg => absurd rfl hg, fun _ _ _ _ _ _ _ hg => absurd rfl hg, fun _ _ _ _ _ _ _ hg => absurd rfl hg⟩
  | succ n ih =>
    have hF : ∀ fr0 lo0 : Nat, 20 * n + 10 ≤ fr0 → 750 * n + 369 ≤ lo0 → ∀ (hc : Nat) (ad : AD) (st : ST), okSt st → ∀ (sz : Nat) (form depth : Int32), (lv3 (n + 1)).2.2 form depth st ≠ none → cPv l y_Pa_function c_Pa_function 10 fr0 lo0 (dC, dI) cI cZ sa rk hp hc h a1 a2 a3 a4 ht hq n1 n2 ad st sz [.ref hp, .int form, .int depth] ((lv3 (n + 1)).2.2 form depth st) := by
      intro fr0 lo0 h1 h2 hc ad st hst sz form depth hg
      obtain ⟨k, rfl⟩ : ∃ k, fr0 = k + 10 := ⟨fr0 - 10, by omega⟩
      obtain ⟨j, rfl⟩ : ∃ j, lo0 = j + 369 := ⟨lo0 - 369, by omega⟩
      obtain ⟨i1, i2, i3⟩ := ih k j (by omega) (by omega)
      exact m_Pa_function l hlt dC dI cI cZ sa rk hp h a1 a2 a3 a4 ht hq n1 n2 k j _ _ _ i1 i2 i3 hc ad st hst sz form depth hg
    intro fr0 lo0 h1 h2
    refine ⟨?_, ?_, hF fr0 lo0 (by omega) (by omega)⟩
    · intro hc ad st hst sz level depth inn hg
      obtain ⟨k, rfl⟩ : ∃ k, fr0 = k + 10 := ⟨fr0 - 10, by omega⟩
      obtain ⟨j, rfl⟩ : ∃ j, lo0 = j + 374 := ⟨lo0 - 374, by omega⟩
      obtain ⟨i1, i2, i3⟩ := ih k j (by omega) (by omega)
      exact m_Pa_expression l hlt dC dI cI cZ sa rk hp h a1 a2 a3 a4 ht hq n1 n2 k j _ _ _ i1 i2 (hF k j (by omega) (by omega)) hc ad st hst sz level depth inn hg
    · intro hc ad st hst sz depth first hg
      obtain ⟨k, rfl⟩ : ∃ k, fr0 = k + 10 := ⟨fr0 - 10, by omega⟩
      obtain ⟨j, rfl⟩ : ∃ j, lo0 = j + 373 := ⟨lo0 - 373, by omega⟩
      obtain ⟨i1, i2, i3⟩ := ih k j (by omega) (by omega)
      exact m_Pa_statement l hlt dC dI cI cZ sa rk hp h a1 a2 a3 a4 ht hq n1 n2 k j _ _ _ i1 i2 i3 hc ad st hst sz depth first hg
/-- the program's own method at 101 levels -/
def f_prog (st : ST) : Rz := f_Pa_program (lv3 101).1 (lv3 101).2.1 (lv3 101).2.2 st
theorem m_prog (l : Launch) (hlt : l.stackTraces = false) (dC : Nat → ClassId) (dI : Nat → Nat → Nat) (cI cZ : ClassId) (sa rk hp h a1 a2 a3 a4 ht hq n1 n2 : Nat) (hc : Nat) (ad : AD) (st : ST) (hst : okSt st) (sz : Nat) (hg : f_prog st ≠ none) : cPv l y_Pa_program c_Pa_program 5 2024 76073 (dC, dI) cI cZ sa rk hp hc h a1 a2 a3 a4 ht hq n1 n2 ad st sz [.ref hp] (f_prog st) := by
  obtain ⟨i1, i2, i3⟩ := m_levels l hlt dC dI cI cZ sa rk hp h a1 a2 a3 a4 ht hq n1 n2 101 2020 75750 (by decide) (by decide)
  exact m_Pa_program l hlt dC dI cI cZ sa rk hp h a1 a2 a3 a4 ht hq n1 n2 2020 75750 _ _ _ i1 i2 i3 hc ad st hst sz hg
