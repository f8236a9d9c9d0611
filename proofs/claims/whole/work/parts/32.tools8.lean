/-! tools 8: what a reading loop answers, in the model of a method that calls it -/
def bnO (x : Option Int32) (k : Int32 → Rz) : Rz := match x with
  | none => none
  | some v => k v
theorem bnO_n {x : Option Int32} {k : Int32 → Rz} (h : x = none) : bnO x k = none := by rw [h]; rfl
theorem bnO_s {x : Option Int32} {k : Int32 → Rz} {v : Int32} (h : x = some v) : bnO x k = k v := by rw [h]; rfl
theorem bnO_ex {x : Option Int32} (h : x = none → False) : ∃ v, x = some v := by
  cases x with
  | none => exact absurd rfl h
  | some v => exact ⟨v, rfl⟩
