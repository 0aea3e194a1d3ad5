/-! SUMS AND COUNTS -/
theorem sm_sw (f : Nat → Nat → Nat) (m : Nat) : ∀ n, fb_sm (fun t => fb_sm (fun c => f t c) m) n = fb_sm (fun c => fb_sm (fun t => f t c) n) m
  | 0 => by
    show 0 = fb_sm (fun _ => 0) m
    rw [fb_sm_const]; omega
  | n + 1 => by
    rw [fb_sm_succ, sm_sw f m n, ← fb_sm_add]
    rfl
theorem ct_blk (p : Nat → Bool) (b : Nat) : ∀ T, fb_ct p (b * T) = fb_sm (fun t => fb_ct (fun j => p (b * t + j)) b) T
  | 0 => by rw [Nat.mul_zero]; rfl
  | T + 1 => by rw [Nat.mul_succ, fb_ct_split, ct_blk p b T, fb_sm_succ]
theorem ct_part (cell : Nat → Nat) (m : Nat) (p : Nat → Bool) : ∀ N, (∀ x, x < N → cell x < m) → fb_ct p N = fb_sm (fun c => fb_ct (fun x => decide (cell x = c) && p x) N) m
  | 0, _ => by
    show 0 = fb_sm (fun _ => 0) m
    rw [fb_sm_const]; omega
  | N + 1, h => by
    rw [fb_ct_succ, ct_part cell m p N (fun x hx => h x (by omega))]
    have e : ∀ c, fb_ct (fun x => decide (cell x = c) && p x) (N + 1) = fb_ct (fun x => decide (cell x = c) && p x) N + (if c = cell N then (if p N then 1 else 0) else 0) := by
      intro c
      rw [fb_ct_succ]
      by_cases q : cell N = c
      · subst q; simp
      · rw [if_neg (show ¬ c = cell N from fun z => q z.symm)]; simp [q]
    rw [show (fun c => fb_ct (fun x => decide (cell x = c) && p x) (N + 1)) = fun c => fb_ct (fun x => decide (cell x = c) && p x) N + (if c = cell N then (if p N then 1 else 0) else 0) from funext e, fb_sm_add]
    have h1 := fb_sm_upd (fun _ => 0) (if p N then 1 else 0) (h N (by omega))
    rw [fb_sm_const] at h1
    omega
theorem sm_one (v : Nat) {c m : Nat} (h : c < m) : fb_sm (fun i => if i = c then v else 0) m = v := by
  have h1 := fb_sm_upd (fun _ => 0) v h
  rw [fb_sm_const] at h1
  omega
theorem ct_false {p : Nat → Bool} {n : Nat} (h : ∀ k, k < n → p k = false) : fb_ct p n = 0 := fb_ct_zero.mpr h
/-- kind of the flip with code x, if the cell's check is so -/
abbrev KX (P : PG) (c0 : Nat → Nat) (w so x : Nat) : Nat := KD P c0 (x / 8 % 8) (x % 8) w (x / 64) so
/-- the flips of a cell that are of a kind, if its check is so -/
def CT (P : PG) (c0 : Nat → Nat) (w c so kd : Nat) : Nat := fb_ct (fun x => decide (x / 8 % 8 = c) && decide (x % 8 + w ≤ 8 ∧ KX P c0 w so x = kd)) (64 * Tk P c0)
theorem CT_rows {P : PG} {c0 : Nat → Nat} {w c so kd : Nat} (hcc : c < 8) (hw : w = 1 ∨ w = 2) : fb_sm (fun t => fb_ct (fun k => decide (KD P c0 c k w t so = kd)) (9 - w)) (Tk P c0) = CT P c0 w c so kd := by
  unfold CT
  rw [ct_blk]
  refine fb_sm_cong (fun t ht => ?_)
  rw [show (64 : Nat) = 8 * 8 from rfl, ct_blk]
  have e : ∀ i, i < 8 → fb_ct (fun j => decide ((8 * 8 * t + (8 * i + j)) / 8 % 8 = c) && decide ((8 * 8 * t + (8 * i + j)) % 8 + w ≤ 8 ∧ KX P c0 w so (8 * 8 * t + (8 * i + j)) = kd)) 8 = if i = c then fb_ct (fun k => decide (KD P c0 c k w t so = kd)) (9 - w) else 0 := by
    intro i hi
    by_cases q : i = c
    · subst q
      rw [if_pos rfl]
      have e8 : fb_ct (fun k => decide (KD P c0 i k w t so = kd)) (9 - w) = fb_ct (fun k => decide (k + w ≤ 8) && decide (KD P c0 i k w t so = kd)) 8 := by
        rcases hw with rfl | rfl
        · refine fb_ct_cong (fun k hk => ?_)
          rw [decide_eq_true (show k + 1 ≤ 8 by omega)]; rfl
        · rw [fb_ct_succ (fun k => decide (k + 2 ≤ 8) && decide (KD P c0 i k 2 t so = kd)) 7]
          show fb_ct _ 7 = _
          rw [decide_eq_false (show ¬ 7 + 2 ≤ 8 by omega)]
          refine Eq.trans (fb_ct_cong (fun k hk => ?_)) (Nat.add_zero _).symm
          rw [decide_eq_true (show k + 2 ≤ 8 by omega)]; rfl
      rw [e8]
      refine fb_ct_cong (fun k hk => ?_)
      have a1 : (8 * 8 * t + (8 * i + k)) / 8 % 8 = i := by omega
      have a2 : (8 * 8 * t + (8 * i + k)) % 8 = k := by omega
      have a3 : (8 * 8 * t + (8 * i + k)) / 64 = t := by omega
      show _ = (decide (k + w ≤ 8) && decide (KD P c0 i k w t so = kd))
      rw [KX, a1, a2, a3, decide_eq_true (rfl : i = i), Bool.true_and, Bool.decide_and]
    · rw [if_neg q]
      refine ct_false (fun k hk => ?_)
      rw [decide_eq_false (show ¬ (8 * 8 * t + (8 * i + k)) / 8 % 8 = c by omega), Bool.false_and]
  rw [fb_sm_cong e, sm_one _ hcc]
theorem CT_all {P : PG} {c0 : Nat → Nat} {w kd : Nat} (kc : Nat → Nat) : fb_ct (fun x => decide (x % 8 + w ≤ 8 ∧ KX P c0 w (kc (x / 8 % 8)) x = kd)) (64 * Tk P c0) = fb_sm (fun c => CT P c0 w c (kc c) kd) 8 := by
  rw [ct_part (fun x => x / 8 % 8) 8 _ _ (fun x _ => by omega)]
  refine fb_sm_cong (fun c _ => ?_)
  unfold CT
  refine fb_ct_cong (fun x _ => ?_)
  by_cases q : x / 8 % 8 = c
  · rw [decide_eq_true q, q]
  · rw [decide_eq_false q]; rfl
theorem CT_le (P : PG) (c0 : Nat → Nat) (w c so kd : Nat) : CT P c0 w c so kd ≤ 6400 := by
  have h1 := fb_ct_le (fun x => decide (x / 8 % 8 = c) && decide (x % 8 + w ≤ 8 ∧ KX P c0 w so x = kd)) (64 * Tk P c0)
  have h2 := Tk_le P c0
  unfold CT
  omega
