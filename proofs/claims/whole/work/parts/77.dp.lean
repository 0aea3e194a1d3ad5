/-! THE BEST CHECKS: numbers of eight digits to the base of four -/
def pr (k : Nat) : Nat := if k = 0 then 0 else if k = 1 then 1 else if k = 2 then 8 else 2
theorem pPr_n (j : Nat) : pPr j = nI (pr j) := by
  unfold pPr pr
  split
  · rfl
  · split
    · rfl
    · split <;> rfl
def mn (a b : Nat) : Nat := if a < b then a else b
theorem mn_l (a b : Nat) : mn a b ≤ a ∧ mn a b ≤ b ∧ (mn a b = a ∨ mn a b = b) := by
  unfold mn
  split <;> omega
/-- the fewest for the last m cells under a price -/
def dG (s : Nat → Nat → Nat) : Nat → Nat → Nat
  | 0, _ => 0
  | m + 1, p =>
    if 2 ≤ p then mn (s (7 - m) 3 + dG s m (p - 2)) (if 8 ≤ p then mn (s (7 - m) 2 + dG s m (p - 8)) (if 1 ≤ p then mn (s (7 - m) 1 + dG s m (p - 1)) (s (7 - m) 0 + dG s m p) else s (7 - m) 0 + dG s m p) else (if 1 ≤ p then mn (s (7 - m) 1 + dG s m (p - 1)) (s (7 - m) 0 + dG s m p) else s (7 - m) 0 + dG s m p))
    else (if 8 ≤ p then mn (s (7 - m) 2 + dG s m (p - 8)) (if 1 ≤ p then mn (s (7 - m) 1 + dG s m (p - 1)) (s (7 - m) 0 + dG s m p) else s (7 - m) 0 + dG s m p) else (if 1 ≤ p then mn (s (7 - m) 1 + dG s m (p - 1)) (s (7 - m) 0 + dG s m p) else s (7 - m) 0 + dG s m p))
theorem dG_low (s : Nat → Nat → Nat) (m p k : Nat) (hk : k < 4) (hp : pr k ≤ p) : dG s (m + 1) p ≤ s (7 - m) k + dG s m (p - pr k) := by
  have e0 : pr 0 = 0 := rfl
  have e1 : pr 1 = 1 := rfl
  have e2 : pr 2 = 8 := rfl
  have e3 : pr 3 = 2 := rfl
  rw [dG]
  generalize h0 : s (7 - m) 0 + dG s m p = a0
  generalize h1 : s (7 - m) 1 + dG s m (p - 1) = a1
  generalize h2 : s (7 - m) 2 + dG s m (p - 8) = a2
  generalize h3 : s (7 - m) 3 + dG s m (p - 2) = a3
  have key : ∀ x, ((k = 0 ∧ x = a0) ∨ (k = 1 ∧ 1 ≤ p ∧ x = a1) ∨ (k = 2 ∧ 8 ≤ p ∧ x = a2) ∨ (k = 3 ∧ 2 ≤ p ∧ x = a3)) → (if 2 ≤ p then mn a3 (if 8 ≤ p then mn a2 (if 1 ≤ p then mn a1 a0 else a0) else (if 1 ≤ p then mn a1 a0 else a0)) else (if 8 ≤ p then mn a2 (if 1 ≤ p then mn a1 a0 else a0) else (if 1 ≤ p then mn a1 a0 else a0))) ≤ x := by
    intro x hx
    unfold mn
    rcases hx with ⟨_, rfl⟩ | ⟨_, hq, rfl⟩ | ⟨_, hq, rfl⟩ | ⟨_, hq, rfl⟩ <;> (repeat' split) <;> omega
  apply key
  rcases (show k = 0 ∨ k = 1 ∨ k = 2 ∨ k = 3 by omega) with rfl | rfl | rfl | rfl
  · exact Or.inl ⟨rfl, by rw [e0, Nat.sub_zero]; exact h0⟩
  · exact Or.inr (Or.inl ⟨rfl, by omega, by rw [e1]; exact h1⟩)
  · exact Or.inr (Or.inr (Or.inl ⟨rfl, by omega, by rw [e2]; exact h2⟩))
  · exact Or.inr (Or.inr (Or.inr ⟨rfl, by omega, by rw [e3]; exact h3⟩))
theorem dG_at (s : Nat → Nat → Nat) (m p : Nat) : ∃ k, k < 4 ∧ pr k ≤ p ∧ s (7 - m) k + dG s m (p - pr k) = dG s (m + 1) p := by
  have e0 : pr 0 = 0 := rfl
  have e1 : pr 1 = 1 := rfl
  have e2 : pr 2 = 8 := rfl
  have e3 : pr 3 = 2 := rfl
  rw [dG]
  generalize h0 : s (7 - m) 0 + dG s m p = a0
  generalize h1 : s (7 - m) 1 + dG s m (p - 1) = a1
  generalize h2 : s (7 - m) 2 + dG s m (p - 8) = a2
  generalize h3 : s (7 - m) 3 + dG s m (p - 2) = a3
  generalize hv : (if 2 ≤ p then mn a3 (if 8 ≤ p then mn a2 (if 1 ≤ p then mn a1 a0 else a0) else (if 1 ≤ p then mn a1 a0 else a0)) else (if 8 ≤ p then mn a2 (if 1 ≤ p then mn a1 a0 else a0) else (if 1 ≤ p then mn a1 a0 else a0))) = v
  have key : (v = a0) ∨ (1 ≤ p ∧ v = a1) ∨ (8 ≤ p ∧ v = a2) ∨ (2 ≤ p ∧ v = a3) := by
    subst hv
    unfold mn
    (repeat' split) <;> omega
  rcases key with q | q | q | q
  · exact ⟨0, by decide, by omega, by rw [e0, Nat.sub_zero, h0, q]⟩
  · exact ⟨1, by decide, by omega, by rw [e1, h1, q.2]⟩
  · exact ⟨2, by decide, by omega, by rw [e2, h2, q.2]⟩
  · exact ⟨3, by decide, by omega, by rw [e3, h3, q.2]⟩
/-- the least check that keeps to the fewest -/
def dK (s : Nat → Nat → Nat) (m p : Nat) : Nat :=
  if s (7 - m) 0 + dG s m p = dG s (m + 1) p then 0 else if 1 ≤ p ∧ s (7 - m) 1 + dG s m (p - 1) = dG s (m + 1) p then 1 else if 8 ≤ p ∧ s (7 - m) 2 + dG s m (p - 8) = dG s (m + 1) p then 2 else 3
theorem dK_ok (s : Nat → Nat → Nat) (m p : Nat) : dK s m p < 4 ∧ pr (dK s m p) ≤ p ∧ s (7 - m) (dK s m p) + dG s m (p - pr (dK s m p)) = dG s (m + 1) p ∧ ∀ k, k < dK s m p → ¬ (pr k ≤ p ∧ s (7 - m) k + dG s m (p - pr k) = dG s (m + 1) p) := by
  have e0 : pr 0 = 0 := rfl
  have e1 : pr 1 = 1 := rfl
  have e2 : pr 2 = 8 := rfl
  have e3 : pr 3 = 2 := rfl
  obtain ⟨k, hk, hp, he⟩ := dG_at s m p
  unfold dK
  by_cases c0 : s (7 - m) 0 + dG s m p = dG s (m + 1) p
  · rw [if_pos c0]
    exact ⟨by decide, by omega, by rw [e0, Nat.sub_zero]; exact c0, fun k hk => absurd hk (Nat.not_lt_zero k)⟩
  rw [if_neg c0]
  have n0 : ¬ (pr 0 ≤ p ∧ s (7 - m) 0 + dG s m (p - pr 0) = dG s (m + 1) p) := fun q => c0 (by have := q.2; rw [e0, Nat.sub_zero] at this; exact this)
  by_cases c1 : 1 ≤ p ∧ s (7 - m) 1 + dG s m (p - 1) = dG s (m + 1) p
  · rw [if_pos c1]
    refine ⟨by decide, by omega, by rw [e1]; exact c1.2, fun k hk => ?_⟩
    rw [show k = 0 by omega]; exact n0
  rw [if_neg c1]
  have n1 : ¬ (pr 1 ≤ p ∧ s (7 - m) 1 + dG s m (p - pr 1) = dG s (m + 1) p) := fun q => c1 (by rw [e1] at q; exact q)
  by_cases c2 : 8 ≤ p ∧ s (7 - m) 2 + dG s m (p - 8) = dG s (m + 1) p
  · rw [if_pos c2]
    refine ⟨by decide, by omega, by rw [e2]; exact c2.2, fun k hk => ?_⟩
    rcases (show k = 0 ∨ k = 1 by omega) with rfl | rfl
    · exact n0
    · exact n1
  rw [if_neg c2]
  have n2 : ¬ (pr 2 ≤ p ∧ s (7 - m) 2 + dG s m (p - pr 2) = dG s (m + 1) p) := fun q => c2 (by rw [e2] at q; exact q)
  have hk3 : k = 3 := by
    rcases (show k = 0 ∨ k = 1 ∨ k = 2 ∨ k = 3 by omega) with rfl | rfl | rfl | rfl
    · exact absurd ⟨hp, he⟩ n0
    · exact absurd ⟨hp, he⟩ n1
    · exact absurd ⟨hp, he⟩ n2
    · rfl
  subst hk3
  refine ⟨by decide, hp, he, fun k hk => ?_⟩
  rcases (show k = 0 ∨ k = 1 ∨ k = 2 by omega) with rfl | rfl | rfl
  · exact n0
  · exact n1
  · exact n2
def dN (s : Nat → Nat → Nat) : Nat → Nat → Nat
  | 0, _ => 0
  | m + 1, p => dK s m p * 4 ^ m + dN s m (p - pr (dK s m p))
def dS (s : Nat → Nat → Nat) : Nat → Nat → Nat
  | 0, _ => 0
  | m + 1, x => s (7 - m) (x / 4 ^ m) + dS s m (x % 4 ^ m)
def dC : Nat → Nat → Nat
  | 0, _ => 0
  | m + 1, x => pr (x / 4 ^ m) + dC m (x % 4 ^ m)
theorem dig {m x : Nat} (h : x < 4 ^ (m + 1)) : x / 4 ^ m < 4 ∧ x % 4 ^ m < 4 ^ m := by
  have h4 : 0 < 4 ^ m := Nat.pow_pos (by decide)
  refine ⟨Nat.div_lt_of_lt_mul (by rw [Nat.pow_succ] at h; exact h), Nat.mod_lt _ h4⟩
theorem dp1 (s : Nat → Nat → Nat) : ∀ (m p x : Nat), x < 4 ^ m → dC m x ≤ p → dG s m p ≤ dS s m x
  | 0, _, _, _, _ => Nat.zero_le _
  | m + 1, p, x, hx, hc => by
    obtain ⟨h1, h2⟩ := dig hx
    rw [dC] at hc
    rw [dS]
    have := dp1 s m (p - pr (x / 4 ^ m)) (x % 4 ^ m) h2 (by omega)
    exact Nat.le_trans (dG_low s m p (x / 4 ^ m) h1 (by omega)) (by omega)
theorem dN_ok (s : Nat → Nat → Nat) : ∀ (m p : Nat), dN s m p < 4 ^ m ∧ dC m (dN s m p) ≤ p ∧ dS s m (dN s m p) = dG s m p
  | 0, _ => ⟨show 0 < 1 from Nat.one_pos, Nat.zero_le _, rfl⟩
  | m + 1, p => by
    obtain ⟨h1, h2, h3, -⟩ := dK_ok s m p
    obtain ⟨i1, i2, i3⟩ := dN_ok s m (p - pr (dK s m p))
    have h4 : 0 < 4 ^ m := Nat.pow_pos (by decide)
    have ed : (dK s m p * 4 ^ m + dN s m (p - pr (dK s m p))) / 4 ^ m = dK s m p := by
      rw [Nat.mul_comm, Nat.mul_add_div h4, Nat.div_eq_of_lt i1, Nat.add_zero]
    have em : (dK s m p * 4 ^ m + dN s m (p - pr (dK s m p))) % 4 ^ m = dN s m (p - pr (dK s m p)) := by
      rw [Nat.mul_comm, Nat.mul_add_mod, Nat.mod_eq_of_lt i1]
    refine ⟨?_, ?_, ?_⟩
    · rw [dN, Nat.pow_succ]
      have : dK s m p * 4 ^ m ≤ 3 * 4 ^ m := Nat.mul_le_mul_right _ (by omega)
      omega
    · rw [dN, dC, ed, em]; omega
    · rw [dN, dS, ed, em, i3, h3]
theorem dp3 (s : Nat → Nat → Nat) : ∀ (m p x : Nat), x < 4 ^ m → dC m x ≤ p → dS s m x = dG s m p → dN s m p ≤ x
  | 0, _, _, _, _, _ => Nat.zero_le _
  | m + 1, p, x, hx, hc, he => by
    obtain ⟨h1, h2⟩ := dig hx
    obtain ⟨k1, k2, k3, k4⟩ := dK_ok s m p
    have h4 : 0 < 4 ^ m := Nat.pow_pos (by decide)
    rw [dC] at hc
    rw [dS] at he
    have hlow := dp1 s m (p - pr (x / 4 ^ m)) (x % 4 ^ m) h2 (by omega)
    have hup := dG_low s m p (x / 4 ^ m) h1 (by omega)
    have heq : s (7 - m) (x / 4 ^ m) + dG s m (p - pr (x / 4 ^ m)) = dG s (m + 1) p := by omega
    have hle : dK s m p ≤ x / 4 ^ m := by
      rcases Nat.lt_or_ge (x / 4 ^ m) (dK s m p) with q | q
      · exact absurd ⟨by omega, heq⟩ (k4 _ q)
      · exact q
    have hx2 : x / 4 ^ m * 4 ^ m + x % 4 ^ m = x := by rw [Nat.mul_comm]; exact Nat.div_add_mod x (4 ^ m)
    rw [dN]
    rcases Nat.lt_or_ge (dK s m p) (x / 4 ^ m) with q | q
    · have i1 := (dN_ok s m (p - pr (dK s m p))).1
      have : (dK s m p + 1) * 4 ^ m ≤ x / 4 ^ m * 4 ^ m := Nat.mul_le_mul_right _ q
      rw [Nat.succ_mul] at this
      omega
    · have e : dK s m p = x / 4 ^ m := by omega
      rw [e]
      have := dp3 s m (p - pr (x / 4 ^ m)) (x % 4 ^ m) h2 (by omega) (by omega)
      omega
theorem dG_anti (s : Nat → Nat → Nat) (m : Nat) {p q : Nat} (h : p ≤ q) : dG s m q ≤ dG s m p := by
  obtain ⟨h1, h2, h3⟩ := dN_ok s m p
  rw [← h3]
  exact dp1 s m q _ h1 (Nat.le_trans h2 h)
/-- the least purse that has the fewest still -/
def dP (s : Nat → Nat → Nat) (price : Nat) : Nat → Nat
  | 0 => 0
  | p + 1 => if dG s 8 p = dG s 8 price then dP s price p else p + 1
theorem dP_ok (s : Nat → Nat → Nat) (price : Nat) : ∀ p, p ≤ price → dG s 8 p = dG s 8 price → dP s price p ≤ p ∧ dG s 8 (dP s price p) = dG s 8 price ∧ ∀ q, q < dP s price p → ¬ dG s 8 q = dG s 8 price
  | 0, _, he => ⟨Nat.le_refl _, he, fun q hq => absurd hq (Nat.not_lt_zero q)⟩
  | p + 1, hp, he => by
    rw [dP]
    by_cases c : dG s 8 p = dG s 8 price
    · rw [if_pos c]
      obtain ⟨h1, h2, h3⟩ := dP_ok s price p (by omega) c
      exact ⟨by omega, h2, h3⟩
    · rw [if_neg c]
      refine ⟨Nat.le_refl _, he, fun q hq w => c ?_⟩
      have a1 := dG_anti s 8 (show q ≤ p by omega)
      have a2 := dG_anti s 8 (show p ≤ price by omega)
      omega
abbrev bet (s : Nat → Nat → Nat) (x y : Nat) : Prop := dS s 8 x < dS s 8 y ∨ (dS s 8 x = dS s 8 y ∧ (dC 8 x < dC 8 y ∨ (dC 8 x = dC 8 y ∧ x ≤ y)))
/-- the picked one is the best -/
theorem dBest (s : Nat → Nat → Nat) (price : Nat) : dN s 8 (dP s price price) < 65536 ∧ dC 8 (dN s 8 (dP s price price)) ≤ price ∧ dS s 8 (dN s 8 (dP s price price)) = dG s 8 price ∧ ∀ x, x < 65536 → dC 8 x ≤ price → bet s (dN s 8 (dP s price price)) x := by
  obtain ⟨p1, p2, p3⟩ := dP_ok s price price (Nat.le_refl _) rfl
  obtain ⟨n1, n2, n3⟩ := dN_ok s 8 (dP s price price)
  refine ⟨n1, by omega, by rw [n3, p2], fun x hx hc => ?_⟩
  have l1 := dp1 s 8 price x hx hc
  rcases Nat.lt_or_ge (dG s 8 price) (dS s 8 x) with q | q
  · exact Or.inl (by omega)
  · have e : dS s 8 x = dG s 8 price := by omega
    refine Or.inr ⟨by omega, ?_⟩
    have hge : dP s price price ≤ dC 8 x := by
      rcases Nat.lt_or_ge (dC 8 x) (dP s price price) with w | w
      · have a1 := dp1 s 8 (dC 8 x) x hx (Nat.le_refl _)
        have a2 := dG_anti s 8 hc
        exact absurd (by omega) (p3 _ w)
      · exact w
    rcases Nat.lt_or_ge (dC 8 (dN s 8 (dP s price price))) (dC 8 x) with w | w
    · exact Or.inl w
    · exact Or.inr ⟨by omega, dp3 s 8 _ x hx (by omega) (by omega)⟩
theorem bet_one {s : Nat → Nat → Nat} {x y : Nat} (h1 : bet s x y) (h2 : bet s y x) : x = y := by
  rcases h1 with h1 | ⟨h1, h3 | ⟨h3, h4⟩⟩ <;> rcases h2 with h2 | ⟨h2, h5 | ⟨h5, h6⟩⟩ <;> omega
