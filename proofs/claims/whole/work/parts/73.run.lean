/-! RUNS OF THE DEVELOPERS' MACHINE: goOn, follow, lead -/
theorem cN (f g : Nat → Nat) (a b n : Nat) : va_cpy (aN f) (aN g) a b n = aN (va_cpy f g a b n) := by
  funext j
  by_cases h : b ≤ j ∧ j < b + n
  · show (if _ then _ else _) = nI (if _ then _ else _)
    rw [if_pos h, if_pos h]; rfl
  · show (if _ then _ else _) = nI (if _ then _ else _)
    rw [if_neg h, if_neg h]; rfl
abbrev oA (P : PG) (S : MS) : Nat := P.2.1 S.i
abbrev xA (P : PG) (S : MS) : Nat := P.2.2.1 S.i
abbrev yA (P : PG) (S : MS) : Nat := P.2.2.2 S.i
abbrev rMs (P : PG) (S : MS) : Nat := rM (oA P S) (xA P S) (yA P S) S.g
abbrev wMs (P : PG) (S : MS) : Nat := wM (oA P S) (xA P S) (yA P S) S.g
/-- the cells written since, as a mask -/
def qV (P : PG) : MS → Nat → Nat → Nat
  | _, w, 0 => w
  | S, w, m + 1 => if S.e = 3 then qV P (qS P S) (w ||| wMs P S) m else w
theorem l_goOn (fu : Nat) {P : PG} (hP : okP P) (k29 : Int32 → Int32 → Int32 → Int32 → Int32 → Int32 → Int32 → (Nat → Int32) → (Nat → Int32) → Option (Int32 × Int32 × Int32 × Int32 × Int32 × Int32 × Int32 × (Nat → Int32) × (Nat → Int32))) :
    ∀ (m n t ws : Nat) (S : MS) (rn wn : Int32), t + m = 100 → m < n → okS P S →
      ∃ rn2 wn2, fr_X3_goOn_5 fu (nI P.1) (aN P.2.1) (aN P.2.2.1) (aN P.2.2.2) k29 n (nI S.k) (nI S.i) (nI t) (nI S.e) rn wn (nI ws) (aN S.g) (aN S.r) (nI t)
        = k29 (nI (qI P S m).k) (nI (qI P S m).i) (nI (t + qT P S m)) (nI (qI P S m).e) rn2 wn2 (nI (qV P S ws m)) (aN (qI P S m).g) (aN (qI P S m).r) := by
  intro m
  induction m with
  | zero =>
    intro n t ws S rn wn ht hn hS
    obtain ⟨n, rfl⟩ : ∃ z, n = z + 1 := ⟨n - 1, by omega⟩
    refine ⟨rn, wn, ?_⟩
    rw [fr_X3_goOn_5, if_pos (show (100 : Int32) ≤ nI t from nI_le (a := 100) (b := t) (by omega) (by omega))]
    rfl
  | succ m ih =>
    intro n t ws S rn wn ht hn hS
    obtain ⟨n, rfl⟩ : ∃ z, n = z + 1 := ⟨n - 1, by omega⟩
    rw [fr_X3_goOn_5, if_neg (show ¬ (100 : Int32) ≤ nI t from nI_ge (a := t) (b := 100) (by omega) (by decide))]
    by_cases he : S.e = 3
    · obtain ⟨rn2, wn2, h⟩ := ih n (t + 1) (ws ||| wMs P S) (qS P S) (nI (rMs P S)) (nI (wMs P S)) (by omega) (by omega) (qS_ok hP hS he)
      refine ⟨rn2, wn2, ?_⟩
      rw [he, if_pos (show nI 3 = (3 : Int32) from rfl), l_step fu rn wn hP hS he, Option.bind_some, qI_go he, qT_go he, qV, if_pos he, show t + (qT P (qS P S) m + 1) = t + 1 + qT P (qS P S) m by omega, nI_1]
      exact h
    · refine ⟨rn, wn, ?_⟩
      rw [if_neg (show ¬ nI S.e = (3 : Int32) from fun q => he ((nI_eq (a := S.e) (b := 3) (by rcases hS.2.2.2.2 with z | z | z <;> omega) (by decide)).mp q)), qI_no he, qT_no he, qV, if_neg he]
      rfl
theorem l_stop (fu : Nat) {x : Nat} (h : x < 4) : f_X3_stopIfGoing fu (nI x) = some (nI (if x = 3 then 2 else x)) := by
  rcases (show x = 0 ∨ x = 1 ∨ x = 2 ∨ x = 3 by omega) with rfl | rfl | rfl | rfl <;> rfl
/-- how a run went: 0 ended, 1 crashed, 2 endless -/
def qO (e : Nat) : Nat := if e = 3 then 2 else e
/-- goOn() from tick t -/
theorem l_goOnF (fu : Nat) {P : PG} (hP : okP P) {t ws : Nat} {S : MS} (rn wn : Int32) (ht : t ≤ 100) (hf : 100 < fu) (hS : okS P S) :
    ∃ rn2 wn2, f_X3_goOn fu (nI P.1) (aN P.2.1) (aN P.2.2.1) (aN P.2.2.2) (nI S.k) (nI S.i) (nI t) (nI S.e) rn wn (nI ws) (aN S.g) (aN S.r)
      = some (nI (qI P S (100 - t)).k, nI (qI P S (100 - t)).i, nI (t + qT P S (100 - t)), nI (qO (qI P S (100 - t)).e), rn2, wn2, nI (qV P S ws (100 - t)), aN (qI P S (100 - t)).g, aN (qI P S (100 - t)).r) := by
  unfold f_X3_goOn
  obtain ⟨rn2, wn2, h⟩ := l_goOn fu hP _ (100 - t) fu t ws S rn wn (by omega) (by omega) hS
  refine ⟨rn2, wn2, ?_⟩
  rw [h, l_stop fu (by rcases (qI_ok hP (100 - t) S hS).2.2.2.2 with z | z | z <;> omega)]
  rfl
/-- the rows that a trace keeps -/
abbrev TA : Type := (Nat → Nat) × (Nat → Nat) × (Nat → Nat) × (Nat → Nat) × (Nat → Nat)
def qF (P : PG) : MS → Nat → TA → Nat → TA
  | _, _, A, 0 => A
  | S, t, A, m + 1 => if S.e = 3 then qF P (qS P S) (t + 1) (va_cpy S.g A.1 0 (8 * t) 8, va_up A.2.1 t S.i, va_up A.2.2.1 t S.k, va_up A.2.2.2.1 t (rMs P S), va_up A.2.2.2.2 t (wMs P S)) m else A
theorem qF_lt (P : PG) : ∀ (m : Nat) (S : MS) (t : Nat) (A : TA) (j : Nat), j < t → (∀ c, c < 8 → (qF P S t A m).1 (8 * j + c) = A.1 (8 * j + c)) ∧ (qF P S t A m).2.1 j = A.2.1 j ∧ (qF P S t A m).2.2.1 j = A.2.2.1 j ∧ (qF P S t A m).2.2.2.1 j = A.2.2.2.1 j ∧ (qF P S t A m).2.2.2.2 j = A.2.2.2.2 j
  | 0, _, _, _, _, _ => ⟨fun _ _ => rfl, rfl, rfl, rfl, rfl⟩
  | m + 1, S, t, A, j, hj => by
    by_cases he : S.e = 3
    · rw [qF, if_pos he]
      obtain ⟨h1, h2, h3, h4, h5⟩ := qF_lt P m (qS P S) (t + 1) (va_cpy S.g A.1 0 (8 * t) 8, va_up A.2.1 t S.i, va_up A.2.2.1 t S.k, va_up A.2.2.2.1 t (rMs P S), va_up A.2.2.2.2 t (wMs P S)) j (by omega)
      refine ⟨fun c hc => ?_, ?_, ?_, ?_, ?_⟩
      · rw [h1 c hc]; exact pk_cpy_out (by omega)
      · rw [h2]; exact up_n _ _ (by omega)
      · rw [h3]; exact up_n _ _ (by omega)
      · rw [h4]; exact up_n _ _ (by omega)
      · rw [h5]; exact up_n _ _ (by omega)
    · rw [qF, if_neg he]; exact ⟨fun _ _ => rfl, rfl, rfl, rfl, rfl⟩
theorem qF_at (P : PG) : ∀ (m : Nat) (S : MS) (t : Nat) (A : TA) (j : Nat), j < qT P S m → (∀ c, c < 8 → (qF P S t A m).1 (8 * (t + j) + c) = (qI P S j).g c) ∧ (qF P S t A m).2.1 (t + j) = (qI P S j).i ∧ (qF P S t A m).2.2.1 (t + j) = (qI P S j).k ∧ (qF P S t A m).2.2.2.1 (t + j) = rMs P (qI P S j) ∧ (qF P S t A m).2.2.2.2 (t + j) = wMs P (qI P S j)
  | 0, _, _, _, j, hj => absurd hj (Nat.not_lt_zero j)
  | m + 1, S, t, A, j, hj => by
    by_cases he : S.e = 3
    · rw [qT_go he] at hj
      rw [qF, if_pos he]
      cases j with
      | zero =>
        obtain ⟨h1, h2, h3, h4, h5⟩ := qF_lt P m (qS P S) (t + 1) (va_cpy S.g A.1 0 (8 * t) 8, va_up A.2.1 t S.i, va_up A.2.2.1 t S.k, va_up A.2.2.2.1 t (rMs P S), va_up A.2.2.2.2 t (wMs P S)) t (by omega)
        refine ⟨fun c hc => ?_, ?_, ?_, ?_, ?_⟩
        · show (qF _ _ _ _ _).1 (8 * t + c) = S.g c
          rw [h1 c hc, show ((va_cpy S.g A.1 0 (8 * t) 8, va_up A.2.1 t S.i, va_up A.2.2.1 t S.k, va_up A.2.2.2.1 t (rMs P S), va_up A.2.2.2.2 t (wMs P S)) : TA).1 (8 * t + c) = va_cpy S.g A.1 0 (8 * t) 8 (8 * t + c) from rfl, pk_cpy_in (by omega) (by omega)]
          congr 1; omega
        · show (qF _ _ _ _ _).2.1 t = S.i
          rw [h2]; exact up_s _ _ _
        · show (qF _ _ _ _ _).2.2.1 t = S.k
          rw [h3]; exact up_s _ _ _
        · show (qF _ _ _ _ _).2.2.2.1 t = rMs P S
          rw [h4]; exact up_s _ _ _
        · show (qF _ _ _ _ _).2.2.2.2 t = wMs P S
          rw [h5]; exact up_s _ _ _
      | succ j =>
        have h := qF_at P m (qS P S) (t + 1) (va_cpy S.g A.1 0 (8 * t) 8, va_up A.2.1 t S.i, va_up A.2.2.1 t S.k, va_up A.2.2.2.1 t (rMs P S), va_up A.2.2.2.2 t (wMs P S)) j (by omega)
        rw [show t + 1 + j = t + (j + 1) by omega] at h
        rw [qI_go he]
        exact h
    · rw [qT_no he] at hj; exact absurd hj (Nat.not_lt_zero j)
theorem m8 {t : Nat} (h : t < 2 ^ 20) : nI t * (8 : Int32) = nI (8 * t) := by rw [show (8 : Int32) = nI 8 from rfl, pk_mul, Nat.mul_comm]
set_option maxHeartbeats 2000000 in
theorem l_follow (fu : Nat) {P : PG} (hP : okP P) (k130 : Int32 → Int32 → Int32 → Int32 → Int32 → Int32 → Int32 → (Nat → Int32) → (Nat → Int32) → (Nat → Int32) → (Nat → Int32) → (Nat → Int32) → (Nat → Int32) → (Nat → Int32) → Option (Int32 × Int32 × Int32 × Int32 × Int32 × Int32 × Int32 × (Nat → Int32) × (Nat → Int32) × (Nat → Int32) × (Nat → Int32) × (Nat → Int32) × (Nat → Int32) × (Nat → Int32))) :
    ∀ (m n t ws : Nat) (S : MS) (A : TA) (rn wn : Int32), t + m = 100 → m < n → okS P S →
      ∃ rn2 wn2, fr_X5_follow_27 fu (nI P.1) (aN P.2.1) (aN P.2.2.1) (aN P.2.2.2) k130 n (nI S.k) (nI S.i) (nI t) (nI S.e) rn wn (nI ws) (aN S.g) (aN S.r) (aN A.1) (aN A.2.1) (aN A.2.2.1) (aN A.2.2.2.1) (aN A.2.2.2.2) (nI t)
        = k130 (nI (qI P S m).k) (nI (qI P S m).i) (nI (t + qT P S m)) (nI (qI P S m).e) rn2 wn2 (nI (qV P S ws m)) (aN (qI P S m).g) (aN (qI P S m).r) (aN (qF P S t A m).1) (aN (qF P S t A m).2.1) (aN (qF P S t A m).2.2.1) (aN (qF P S t A m).2.2.2.1) (aN (qF P S t A m).2.2.2.2) := by
  intro m
  induction m with
  | zero =>
    intro n t ws S A rn wn ht hn hS
    obtain ⟨n, rfl⟩ : ∃ z, n = z + 1 := ⟨n - 1, by omega⟩
    refine ⟨rn, wn, ?_⟩
    rw [fr_X5_follow_27, if_pos (show (100 : Int32) ≤ nI t from nI_le (a := 100) (b := t) (by omega) (by omega))]
    rfl
  | succ m ih =>
    intro n t ws S A rn wn ht hn hS
    obtain ⟨n, rfl⟩ : ∃ z, n = z + 1 := ⟨n - 1, by omega⟩
    rw [fr_X5_follow_27, if_neg (show ¬ (100 : Int32) ≤ nI t from nI_ge (a := t) (b := 100) (by omega) (by decide))]
    by_cases he : S.e = 3
    · obtain ⟨rn2, wn2, h⟩ := ih n (t + 1) (ws ||| wMs P S) (qS P S) (va_cpy S.g A.1 0 (8 * t) 8, va_up A.2.1 t S.i, va_up A.2.2.1 t S.k, va_up A.2.2.2.1 t (rMs P S), va_up A.2.2.2.2 t (wMs P S)) (nI (rMs P S)) (nI (wMs P S)) (by omega) (by omega) (qS_ok hP hS he)
      refine ⟨rn2, wn2, ?_⟩
      have hin : inR (nI t) 100 := in_i (by omega) (by decide)
      rw [he, if_pos (show nI 3 = (3 : Int32) from rfl), m8 (by omega), show ((0 : Int32).toNatClampNeg) = 0 from rfl, show ((8 : Int32).toNatClampNeg) = 8 from rfl, nI_clamp (n := 8 * t) (by omega),
        if_pos (show (¬ (0 : Int32) < 0 ∧ ¬ nI (8 * t) < 0 ∧ ¬ (8 : Int32) < 0 ∧ 0 + 8 ≤ 8 ∧ 8 * t + 8 ≤ 800) from ⟨by decide, nI_pos (by omega), by decide, by omega, by omega⟩),
        if_pos hin, if_pos hin, l_step fu rn wn hP hS he, Option.bind_some, if_pos hin, if_pos hin, cN, aN_up _ _ (by omega), aN_up _ _ (by omega), aN_up _ _ (by omega), aN_up _ _ (by omega),
        qI_go he, qT_go he, qV, if_pos he, qF, if_pos he, show t + (qT P (qS P S) m + 1) = t + 1 + qT P (qS P S) m by omega, nI_1]
      exact h
    · refine ⟨rn, wn, ?_⟩
      rw [if_neg (show ¬ nI S.e = (3 : Int32) from fun q => he ((nI_eq (a := S.e) (b := 3) (by rcases hS.2.2.2.2 with z | z | z <;> omega) (by decide)).mp q)), qI_no he, qT_no he, qV, if_neg he, qF, if_neg he]
      rfl
