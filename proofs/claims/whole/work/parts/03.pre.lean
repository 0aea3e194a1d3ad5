/-! what the pure functions are made of -/
def pPr : Nat → Int32 := fun j => if j = 0 then 0 else if j = 1 then 1 else if j = 2 then 8 else 2
/-! rows for the pure functions -/
abbrev inR (i : Int32) (n : Nat) : Prop := ¬ (i < 0 ∨ n ≤ i.toNatClampNeg)
abbrev isB (v : Int32) : Prop := v = 0 ∨ v = 1
theorem x_gd {α : Type} {c : Prop} [Decidable c] {a : Option α} {r : α} (h : (if c then a else none) = some r) : c ∧ a = some r := by
  by_cases hc : c
  · rw [if_pos hc] at h; exact ⟨hc, h⟩
  · rw [if_neg hc] at h; cases h
theorem x_p {α : Type} {c : Prop} [Decidable c] {a b : Option α} {r : α} (hc : c) (h : (if c then a else b) = some r) : a = some r := by rw [if_pos hc] at h; exact h
theorem x_n {α : Type} {c : Prop} [Decidable c] {a b : Option α} {r : α} (hc : ¬ c) (h : (if c then a else b) = some r) : b = some r := by rw [if_neg hc] at h; exact h
theorem x_b {α β : Type} {x : Option α} {k : α → Option β} {r : β} (h : x.bind k = some r) : ∃ t, x = some t ∧ k t = some r := by
  cases x with
  | none => cases h
  | some t => exact ⟨t, rfl, h⟩
theorem x_sw {x : Int32} {n : Nat} (h : ∀ k, k ≤ n → ¬ x = nI k) : x.toInt < 0 ∨ (n : Int) < x.toInt := by
  rcases Int.lt_or_le x.toInt 0 with q | q
  · exact Or.inl q
  · obtain ⟨j, hj, rfl⟩ := nI_of (x := x) (fun z => absurd (Int32.lt_iff_toInt_lt.mp z) (by simpa using q))
    refine Or.inr ?_
    rw [nI_toInt hj]
    rcases Nat.lt_or_ge n j with w | w
    · exact Int.ofNat_lt.mpr w
    · exact absurd rfl (h j w)
