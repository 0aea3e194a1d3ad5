/-! THE MACHINE OVER NATURAL NUMBERS: an order's effects, a step, a run -/
abbrev qA (o : Nat) : Prop := (2 ≤ o ∧ o ≤ 5) ∨ o = 7 ∨ o = 8 ∨ o = 10
abbrev qB (o : Nat) : Prop := (1 ≤ o ∧ o ≤ 4) ∨ o = 9 ∨ o = 10
/-- cell c is read -/
abbrev qRd (o x y : Nat) (g : Nat → Nat) (c : Nat) : Prop := (qA o ∧ c = x) ∨ (qB o ∧ c = y) ∨ (o = 9 ∧ g y < 8 ∧ c = g y)
/-- cell c is written -/
abbrev qWr (o x y : Nat) (g : Nat → Nat) (c : Nat) : Prop := (o ≤ 5 ∧ c = x) ∨ (o = 9 ∧ g y < 8 ∧ c = x) ∨ (o = 10 ∧ g x < 8 ∧ c = g x)
abbrev qCr (o x y : Nat) (g : Nat → Nat) (k : Nat) : Prop := (o = 9 ∧ 8 ≤ g y) ∨ (o = 10 ∧ 8 ≤ g x) ∨ (o = 8 ∧ k = 12)
def qG (o x y : Nat) (g : Nat → Nat) : Nat → Nat :=
  if o = 0 then va_up g x y else if o = 1 then va_up g x (g y) else if o = 2 then va_up g x ((g x + g y) % 256) else if o = 3 then va_up g x (g x &&& g y)
  else if o = 4 then va_up g x (g x ^^^ g y) else if o = 5 then va_up g x (g x / 2) else if o = 9 ∧ g y < 8 then va_up g x (g (g y)) else if o = 10 ∧ g x < 8 then va_up g (g x) (g y) else g
def qR (o x : Nat) (g r : Nat → Nat) (k : Nat) : Nat → Nat := if o = 8 ∧ ¬ k = 12 then va_up r k (g x) else r
def qK (o k : Nat) : Nat := if o = 8 ∧ ¬ k = 12 then k + 1 else k
def qN (o x y : Nat) (g : Nat → Nat) (i : Nat) : Nat := if o = 6 then x else if o = 7 ∧ ¬ g x = 0 then y else i + 1
def qE (n o x y : Nat) (g : Nat → Nat) (k i : Nat) : Nat := if qCr o x y g k then 1 else if o = 11 then 0 else if qN o x y g i < n then 3 else 0
/-- a state of a run: cells, told row, how many, the next order, 3 going / 0 ended / 1 crashed -/
abbrev MS : Type := (Nat → Nat) × (Nat → Nat) × Nat × Nat × Nat
abbrev MS.g (S : MS) : Nat → Nat := S.1
abbrev MS.r (S : MS) : Nat → Nat := S.2.1
abbrev MS.k (S : MS) : Nat := S.2.2.1
abbrev MS.i (S : MS) : Nat := S.2.2.2.1
abbrev MS.e (S : MS) : Nat := S.2.2.2.2
/-- a program: how many orders, and their three rows -/
abbrev PG : Type := Nat × (Nat → Nat) × (Nat → Nat) × (Nat → Nat)
def qS (P : PG) (S : MS) : MS := (qG (P.2.1 S.i) (P.2.2.1 S.i) (P.2.2.2 S.i) S.g, qR (P.2.1 S.i) (P.2.2.1 S.i) S.g S.r S.k, qK (P.2.1 S.i) S.k, qN (P.2.1 S.i) (P.2.2.1 S.i) (P.2.2.2 S.i) S.g S.i, qE P.1 (P.2.1 S.i) (P.2.2.1 S.i) (P.2.2.2 S.i) S.g S.k S.i)
def qI (P : PG) : MS → Nat → MS
  | S, 0 => S
  | S, m + 1 => if S.e = 3 then qI P (qS P S) m else S
/-- how many ticks of at most m -/
def qT (P : PG) : MS → Nat → Nat
  | _, 0 => 0
  | S, m + 1 => if S.e = 3 then qT P (qS P S) m + 1 else 0
abbrev okO (o x y : Nat) : Prop := o ≤ 11 ∧ x < 256 ∧ y < 256 ∧ (¬ o = 6 → ¬ o = 11 → x < 8) ∧ (qB o → y < 8) ∧ (o = 6 → x < 20) ∧ (o = 7 → y < 20)
abbrev okP (P : PG) : Prop := P.1 ≤ 20 ∧ ∀ i, i < P.1 → okO (P.2.1 i) (P.2.2.1 i) (P.2.2.2 i)
abbrev okS (P : PG) (S : MS) : Prop := (∀ j, j < 8 → S.g j < 256) ∧ S.k ≤ 12 ∧ S.i ≤ 20 ∧ (S.e = 3 → S.i < P.1) ∧ (S.e = 0 ∨ S.e = 1 ∨ S.e = 3)
theorem up_s {α : Type} (f : Nat → α) (k : Nat) (v : α) : va_up f k v k = v := if_pos rfl
theorem up_n {α : Type} (f : Nat → α) {k j : Nat} (v : α) (h : ¬ j = k) : va_up f k v j = f j := if_neg h
theorem up_c {α : Type} (f : Nat → α) {i j : Nat} (v w : α) (h : ¬ i = j) : va_up (va_up f i v) j w = va_up (va_up f j w) i v := by
  funext q
  by_cases h1 : q = i
  · subst h1
    rw [up_n _ _ h, up_s, up_s]
  · by_cases h2 : q = j
    · subst h2
      rw [up_s, up_n _ _ h1, up_s]
    · rw [up_n _ _ h2, up_n _ _ h1, up_n _ _ h1, up_n _ _ h2]
theorem up_u {α : Type} (f : Nat → α) (i : Nat) (v w : α) : va_up (va_up f i v) i w = va_up f i w := by
  funext q
  by_cases h1 : q = i
  · subst h1
    rw [up_s, up_s]
  · rw [up_n _ _ h1, up_n _ _ h1, up_n _ _ h1]
theorem up_b {f : Nat → Nat} {i v n m : Nat} (h : ∀ j, j < n → f j < m) (hv : v < m) : ∀ j, j < n → va_up f i v j < m := by
  intro j hj
  by_cases h1 : j = i
  · subst h1
    rw [up_s]; exact hv
  · rw [up_n _ _ h1]; exact h j hj
theorem and_b {a b : Nat} (h : a < 256) : a &&& b < 256 := Nat.lt_of_le_of_lt Nat.and_le_left h
theorem xor_b {a b : Nat} (ha : a < 256) (hb : b < 256) : a ^^^ b < 256 := Nat.xor_lt_two_pow (n := 8) ha hb
theorem qG_b {o x y : Nat} {g : Nat → Nat} (hg : ∀ j, j < 8 → g j < 256) (h : okO o x y) : ∀ j, j < 8 → qG o x y g j < 256 := by
  obtain ⟨h1, h2, h3, h4, h5, h6, h7⟩ := h
  unfold qG
  by_cases c0 : o = 0
  · rw [if_pos c0]; exact up_b hg h3
  rw [if_neg c0]
  by_cases c1 : o = 1
  · rw [if_pos c1]; exact up_b hg (hg y (h5 (by omega)))
  rw [if_neg c1]
  by_cases c2 : o = 2
  · rw [if_pos c2]; exact up_b hg (Nat.mod_lt _ (by decide))
  rw [if_neg c2]
  by_cases c3 : o = 3
  · rw [if_pos c3]; exact up_b hg (and_b (hg x (h4 (by omega) (by omega))))
  rw [if_neg c3]
  by_cases c4 : o = 4
  · rw [if_pos c4]; exact up_b hg (xor_b (hg x (h4 (by omega) (by omega))) (hg y (h5 (by omega))))
  rw [if_neg c4]
  by_cases c5 : o = 5
  · rw [if_pos c5]
    have := hg x (h4 (by omega) (by omega))
    exact up_b hg (by omega)
  rw [if_neg c5]
  by_cases c9 : o = 9 ∧ g y < 8
  · rw [if_pos c9]; exact up_b hg (hg _ c9.2)
  rw [if_neg c9]
  by_cases ca : o = 10 ∧ g x < 8
  · rw [if_pos ca]; exact up_b hg (hg y (h5 (by omega)))
  rw [if_neg ca]
  exact hg
theorem qG_o {o x y : Nat} {g : Nat → Nat} {c : Nat} (h : ¬ qWr o x y g c) : qG o x y g c = g c := by
  have h1 : o ≤ 5 → ¬ c = x := fun p q => h (Or.inl ⟨p, q⟩)
  unfold qG
  by_cases c0 : o = 0
  · rw [if_pos c0]; exact up_n _ _ (h1 (by omega))
  rw [if_neg c0]
  by_cases c1 : o = 1
  · rw [if_pos c1]; exact up_n _ _ (h1 (by omega))
  rw [if_neg c1]
  by_cases c2 : o = 2
  · rw [if_pos c2]; exact up_n _ _ (h1 (by omega))
  rw [if_neg c2]
  by_cases c3 : o = 3
  · rw [if_pos c3]; exact up_n _ _ (h1 (by omega))
  rw [if_neg c3]
  by_cases c4 : o = 4
  · rw [if_pos c4]; exact up_n _ _ (h1 (by omega))
  rw [if_neg c4]
  by_cases c5 : o = 5
  · rw [if_pos c5]; exact up_n _ _ (h1 (by omega))
  rw [if_neg c5]
  by_cases c9 : o = 9 ∧ g y < 8
  · rw [if_pos c9]; exact up_n _ _ (fun q => h (Or.inr (Or.inl ⟨c9.1, c9.2, q⟩)))
  rw [if_neg c9]
  by_cases ca : o = 10 ∧ g x < 8
  · rw [if_pos ca]; exact up_n _ _ (fun q => h (Or.inr (Or.inr ⟨ca.1, ca.2, q⟩)))
  rw [if_neg ca]
/-- a cell that is not read may hold anything: the same happens -/
theorem un_y {o x y : Nat} {g : Nat → Nat} {c : Nat} (h : ¬ qRd o x y g c) (v : Nat) (hy : qB o) : va_up g c v y = g y := up_n _ _ (fun q => h (Or.inr (Or.inl ⟨hy, q.symm⟩)))
theorem un_x {o x y : Nat} {g : Nat → Nat} {c : Nat} (h : ¬ qRd o x y g c) (v : Nat) (hx : qA o) : va_up g c v x = g x := up_n _ _ (fun q => h (Or.inl ⟨hx, q.symm⟩))
theorem un_Cr {o x y : Nat} {g : Nat → Nat} {c : Nat} (h : ¬ qRd o x y g c) (v k : Nat) : qCr o x y (va_up g c v) k ↔ qCr o x y g k := by
  constructor
  · rintro (⟨rfl, q⟩ | ⟨rfl, q⟩ | q)
    · rw [un_y h v (by decide)] at q; exact Or.inl ⟨rfl, q⟩
    · rw [un_x h v (by decide)] at q; exact Or.inr (Or.inl ⟨rfl, q⟩)
    · exact Or.inr (Or.inr q)
  · rintro (⟨rfl, q⟩ | ⟨rfl, q⟩ | q)
    · exact Or.inl ⟨rfl, by rw [un_y h v (by decide)]; exact q⟩
    · exact Or.inr (Or.inl ⟨rfl, by rw [un_x h v (by decide)]; exact q⟩)
    · exact Or.inr (Or.inr q)
theorem un_N {o x y : Nat} {g : Nat → Nat} {c : Nat} (h : ¬ qRd o x y g c) (v i : Nat) : qN o x y (va_up g c v) i = qN o x y g i := by
  unfold qN
  by_cases c6 : o = 6
  · rw [if_pos c6, if_pos c6]
  rw [if_neg c6, if_neg c6]
  by_cases c7 : o = 7
  · subst c7
    rw [un_x h v (by decide)]
  · rw [if_neg (fun q => c7 q.1), if_neg (fun q => c7 q.1)]
theorem un_E {o x y : Nat} {g : Nat → Nat} {c : Nat} (h : ¬ qRd o x y g c) (n v k i : Nat) : qE n o x y (va_up g c v) k i = qE n o x y g k i := by
  unfold qE
  rw [un_N h]
  by_cases q : qCr o x y g k
  · rw [if_pos q, if_pos ((un_Cr h v k).mpr q)]
  · rw [if_neg q, if_neg (fun z => q ((un_Cr h v k).mp z))]
theorem un_R {o x y : Nat} {g r : Nat → Nat} {c : Nat} (h : ¬ qRd o x y g c) (v k : Nat) : qR o x (va_up g c v) r k = qR o x g r k := by
  unfold qR
  by_cases c8 : o = 8
  · subst c8
    rw [un_x h v (by decide)]
  · rw [if_neg (fun q => c8 q.1), if_neg (fun q => c8 q.1)]
/-- .. and neither written: it stays as it is -/
theorem un_G {o x y : Nat} {g : Nat → Nat} {c : Nat} (h : ¬ qRd o x y g c) (hw : ¬ qWr o x y g c) (v : Nat) : qG o x y (va_up g c v) = va_up (qG o x y g) c v := by
  have h1 : o ≤ 5 → ¬ c = x := fun p q => hw (Or.inl ⟨p, q⟩)
  unfold qG
  by_cases c0 : o = 0
  · rw [if_pos c0, if_pos c0]; exact up_c _ _ _ (h1 (by omega))
  rw [if_neg c0, if_neg c0]
  by_cases c1 : o = 1
  · rw [if_pos c1, if_pos c1, un_y h v (by omega)]; exact up_c _ _ _ (h1 (by omega))
  rw [if_neg c1, if_neg c1]
  by_cases c2 : o = 2
  · rw [if_pos c2, if_pos c2, un_y h v (by omega), un_x h v (by omega)]; exact up_c _ _ _ (h1 (by omega))
  rw [if_neg c2, if_neg c2]
  by_cases c3 : o = 3
  · rw [if_pos c3, if_pos c3, un_y h v (by omega), un_x h v (by omega)]; exact up_c _ _ _ (h1 (by omega))
  rw [if_neg c3, if_neg c3]
  by_cases c4 : o = 4
  · rw [if_pos c4, if_pos c4, un_y h v (by omega), un_x h v (by omega)]; exact up_c _ _ _ (h1 (by omega))
  rw [if_neg c4, if_neg c4]
  by_cases c5 : o = 5
  · rw [if_pos c5, if_pos c5, un_x h v (by omega)]; exact up_c _ _ _ (h1 (by omega))
  rw [if_neg c5, if_neg c5]
  by_cases c9 : o = 9
  · rw [un_y h v (by omega)]
    by_cases d9 : o = 9 ∧ g y < 8
    · rw [if_pos d9, if_pos d9, up_n g v (fun q => h (Or.inr (Or.inr ⟨c9, d9.2, q.symm⟩)))]
      exact up_c _ _ _ (fun q => hw (Or.inr (Or.inl ⟨c9, d9.2, q⟩)))
    · rw [if_neg d9, if_neg d9, if_neg (fun q => by omega), if_neg (fun q => by omega)]
  rw [if_neg (show ¬ (o = 9 ∧ va_up g c v y < 8) from fun q => c9 q.1), if_neg (show ¬ (o = 9 ∧ g y < 8) from fun q => c9 q.1)]
  by_cases ca : o = 10
  · rw [un_x h v (by omega), un_y h v (by omega)]
    by_cases da : o = 10 ∧ g x < 8
    · rw [if_pos da, if_pos da]
      exact up_c _ _ _ (fun q => hw (Or.inr (Or.inr ⟨ca, da.2, q⟩)))
    · rw [if_neg da, if_neg da]
  rw [if_neg (show ¬ (o = 10 ∧ va_up g c v x < 8) from fun q => ca q.1), if_neg (show ¬ (o = 10 ∧ g x < 8) from fun q => ca q.1)]
/-- .. but written: what it held is gone -/
theorem un_W {o x y : Nat} {g : Nat → Nat} {c : Nat} (h : ¬ qRd o x y g c) (hw : qWr o x y g c) (v : Nat) : qG o x y (va_up g c v) = qG o x y g := by
  unfold qG
  rcases hw with ⟨h5, rfl⟩ | ⟨rfl, h8, rfl⟩ | ⟨rfl, h8, hc⟩
  · by_cases c0 : o = 0
    · rw [if_pos c0, if_pos c0]; exact up_u _ _ _ _
    rw [if_neg c0, if_neg c0]
    by_cases c1 : o = 1
    · rw [if_pos c1, if_pos c1, un_y h v (by omega)]; exact up_u _ _ _ _
    · exact absurd (show qRd o c y g c from Or.inl ⟨by omega, rfl⟩) h
  · rw [un_y h v (by decide), up_n g v (fun q => h (Or.inr (Or.inr ⟨rfl, h8, q.symm⟩)))]
    simp [h8, up_u]
  · rw [un_x h v (by decide), un_y h v (by decide)]
    subst hc
    simp [h8, up_u]
theorem qS_ok {P : PG} {S : MS} (hP : okP P) (hS : okS P S) (he : S.e = 3) : okS P (qS P S) := by
  obtain ⟨h1, h2, h3, h4, h5⟩ := hS
  have hi := h4 he
  have ho := hP.2 _ hi
  refine ⟨qG_b h1 ho, ?_, ?_, ?_, ?_⟩
  · show qK _ _ ≤ 12
    unfold qK
    split <;> omega
  · show qN _ _ _ _ _ ≤ 20
    have := hP.1
    unfold qN
    split
    · rename_i q; exact Nat.le_of_lt (ho.2.2.2.2.2.1 q)
    · split
      · rename_i q; exact Nat.le_of_lt (ho.2.2.2.2.2.2 q.1)
      · omega
  · show qE _ _ _ _ _ _ _ = 3 → qN _ _ _ _ _ < P.1
    unfold qE
    intro h
    split at h
    · cases h
    · split at h
      · cases h
      · split at h
        · assumption
        · cases h
  · show qE _ _ _ _ _ _ _ = 0 ∨ qE _ _ _ _ _ _ _ = 1 ∨ qE _ _ _ _ _ _ _ = 3
    unfold qE
    split
    · exact Or.inr (Or.inl rfl)
    · split
      · exact Or.inl rfl
      · split
        · exact Or.inr (Or.inr rfl)
        · exact Or.inl rfl
theorem qI_0 (P : PG) (S : MS) : qI P S 0 = S := rfl
theorem qI_go {P : PG} {S : MS} (h : S.e = 3) (m : Nat) : qI P S (m + 1) = qI P (qS P S) m := by rw [qI, if_pos h]
theorem qI_no {P : PG} {S : MS} (h : ¬ S.e = 3) : ∀ m, qI P S m = S
  | 0 => rfl
  | m + 1 => by rw [qI, if_neg h]
theorem qT_go {P : PG} {S : MS} (h : S.e = 3) (m : Nat) : qT P S (m + 1) = qT P (qS P S) m + 1 := by rw [qT, if_pos h]
theorem qT_no {P : PG} {S : MS} (h : ¬ S.e = 3) : ∀ m, qT P S m = 0
  | 0 => rfl
  | m + 1 => by rw [qT, if_neg h]
theorem qI_ok {P : PG} (hP : okP P) : ∀ (m : Nat) (S : MS), okS P S → okS P (qI P S m)
  | 0, _, h => h
  | m + 1, S, h => by
    by_cases he : S.e = 3
    · rw [qI_go he]; exact qI_ok hP m _ (qS_ok hP h he)
    · rw [qI_no he]; exact h
theorem qI_add (P : PG) : ∀ (a b : Nat) (S : MS), qI P (qI P S a) b = qI P S (a + b)
  | 0, b, S => by rw [Nat.zero_add]; rfl
  | a + 1, b, S => by
    by_cases he : S.e = 3
    · rw [qI_go he, show a + 1 + b = a + b + 1 by omega, qI_go he]; exact qI_add P a b _
    · rw [qI_no he, qI_no he, qI_no he]
theorem qI_back (P : PG) (m : Nat) (S : MS) : qI P S (m + 1) = if (qI P S m).e = 3 then qS P (qI P S m) else qI P S m := by
  rw [← qI_add P m 1 S]
  rw [qI]
  rfl
theorem qT_le (P : PG) : ∀ (m : Nat) (S : MS), qT P S m ≤ m
  | 0, _ => Nat.le_refl _
  | m + 1, S => by
    by_cases he : S.e = 3
    · rw [qT_go he]; have := qT_le P m (qS P S); omega
    · rw [qT_no he]; omega
/-- before the run's ticks are over it is going -/
theorem qT_lt (P : PG) : ∀ (m : Nat) (S : MS) (j : Nat), j < qT P S m → (qI P S j).e = 3
  | 0, _, j, h => absurd h (Nat.not_lt_zero j)
  | m + 1, S, j, h => by
    by_cases he : S.e = 3
    · rw [qT_go he] at h
      cases j with
      | zero => exact he
      | succ j => rw [qI_go he]; exact qT_lt P m _ j (by omega)
    · rw [qT_no he] at h; exact absurd h (Nat.not_lt_zero j)
/-- when they are over, nothing more comes -/
theorem qT_end (P : PG) : ∀ (m : Nat) (S : MS), qI P S (qT P S m) = qI P S m
  | 0, _ => rfl
  | m + 1, S => by
    by_cases he : S.e = 3
    · rw [qT_go he, qI_go he, qI_go he]; exact qT_end P m _
    · rw [qT_no he, qI_no he, qI_no he]
theorem qT_stop (P : PG) : ∀ (m : Nat) (S : MS), qT P S m < m → ¬ (qI P S m).e = 3
  | 0, _, h => absurd h (Nat.not_lt_zero _)
  | m + 1, S, h => by
    by_cases he : S.e = 3
    · rw [qT_go he] at h; rw [qI_go he]; exact qT_stop P m _ (by omega)
    · rw [qI_no he]; exact he
theorem qT_add (P : PG) : ∀ (a b : Nat) (S : MS), a ≤ qT P S (a + b) → qT P S (a + b) = a + qT P (qI P S a) b
  | 0, b, S, _ => by rw [Nat.zero_add, Nat.zero_add]; rfl
  | a + 1, b, S, h => by
    rw [show a + 1 + b = a + b + 1 by omega] at h ⊢
    by_cases he : S.e = 3
    · rw [qT_go he] at h ⊢; rw [qI_go he, qT_add P a b _ (by omega)]; omega
    · rw [qT_no he] at h; omega
/-- states that agree on all that can be seen -/
abbrev sim (S S2 : MS) : Prop := (∀ j, j < 8 → S.g j = S2.g j) ∧ (∀ j, j < S.k → S.r j = S2.r j) ∧ S.k = S2.k ∧ S.i = S2.i ∧ S.e = S2.e
theorem sim_rf (S : MS) : sim S S := ⟨fun _ _ => rfl, fun _ _ => rfl, rfl, rfl, rfl⟩
theorem up_e {f f2 : Nat → Nat} {i v v2 n : Nat} (h : ∀ j, j < n → f j = f2 j) (hv : v = v2) : ∀ j, j < n → va_up f i v j = va_up f2 i v2 j := by
  intro j hj
  subst hv
  by_cases q : j = i
  · subst q; rw [up_s, up_s]
  · rw [up_n _ _ q, up_n _ _ q]; exact h j hj
theorem qG_e {o x y : Nat} {g g2 : Nat → Nat} (ho : okO o x y) (h : ∀ j, j < 8 → g j = g2 j) : ∀ j, j < 8 → qG o x y g j = qG o x y g2 j := by
  obtain ⟨h1, h2, h3, h4, h5, h6, h7⟩ := ho
  have hy : qB o → g y = g2 y := fun q => h y (h5 q)
  have hx : ¬ o = 6 → ¬ o = 11 → g x = g2 x := fun p q => h x (h4 p q)
  unfold qG
  by_cases c0 : o = 0
  · rw [if_pos c0, if_pos c0]; exact up_e h rfl
  rw [if_neg c0, if_neg c0]
  by_cases c1 : o = 1
  · rw [if_pos c1, if_pos c1]; exact up_e h (hy (by omega))
  rw [if_neg c1, if_neg c1]
  by_cases c2 : o = 2
  · rw [if_pos c2, if_pos c2]; exact up_e h (by rw [hy (by omega), hx (by omega) (by omega)])
  rw [if_neg c2, if_neg c2]
  by_cases c3 : o = 3
  · rw [if_pos c3, if_pos c3]; exact up_e h (by rw [hy (by omega), hx (by omega) (by omega)])
  rw [if_neg c3, if_neg c3]
  by_cases c4 : o = 4
  · rw [if_pos c4, if_pos c4]; exact up_e h (by rw [hy (by omega), hx (by omega) (by omega)])
  rw [if_neg c4, if_neg c4]
  by_cases c5 : o = 5
  · rw [if_pos c5, if_pos c5]; exact up_e h (by rw [hx (by omega) (by omega)])
  rw [if_neg c5, if_neg c5]
  by_cases c9 : o = 9
  · rw [hy (by omega)]
    by_cases d9 : o = 9 ∧ g2 y < 8
    · rw [if_pos d9, if_pos d9]; exact up_e h (h _ d9.2)
    · rw [if_neg d9, if_neg d9, if_neg (fun q => by omega), if_neg (fun q => by omega)]; exact h
  rw [if_neg (show ¬ (o = 9 ∧ g y < 8) from fun q => c9 q.1), if_neg (show ¬ (o = 9 ∧ g2 y < 8) from fun q => c9 q.1)]
  by_cases ca : o = 10
  · rw [hx (by omega) (by omega), hy (by omega)]
    by_cases da : o = 10 ∧ g2 x < 8
    · rw [if_pos da, if_pos da]; exact up_e h rfl
    · rw [if_neg da, if_neg da]; exact h
  rw [if_neg (show ¬ (o = 10 ∧ g x < 8) from fun q => ca q.1), if_neg (show ¬ (o = 10 ∧ g2 x < 8) from fun q => ca q.1)]
  exact h
theorem qN_e {o x y : Nat} {g g2 : Nat → Nat} (ho : okO o x y) (h : ∀ j, j < 8 → g j = g2 j) (i : Nat) : qN o x y g i = qN o x y g2 i := by
  unfold qN
  by_cases c7 : o = 7
  · rw [h x (ho.2.2.2.1 (by omega) (by omega))]
  · rw [if_neg (fun q : o = 7 ∧ ¬ g x = 0 => c7 q.1), if_neg (fun q : o = 7 ∧ ¬ g2 x = 0 => c7 q.1)]
theorem qCr_e {o x y : Nat} {g g2 : Nat → Nat} (ho : okO o x y) (h : ∀ j, j < 8 → g j = g2 j) (k : Nat) : qCr o x y g k ↔ qCr o x y g2 k := by
  constructor
  · rintro (⟨q, w⟩ | ⟨q, w⟩ | w)
    · rw [h y (ho.2.2.2.2.1 (by omega))] at w; exact Or.inl ⟨q, w⟩
    · rw [h x (ho.2.2.2.1 (by omega) (by omega))] at w; exact Or.inr (Or.inl ⟨q, w⟩)
    · exact Or.inr (Or.inr w)
  · rintro (⟨q, w⟩ | ⟨q, w⟩ | w)
    · rw [← h y (ho.2.2.2.2.1 (by omega))] at w; exact Or.inl ⟨q, w⟩
    · rw [← h x (ho.2.2.2.1 (by omega) (by omega))] at w; exact Or.inr (Or.inl ⟨q, w⟩)
    · exact Or.inr (Or.inr w)
theorem qE_e {o x y : Nat} {g g2 : Nat → Nat} (ho : okO o x y) (h : ∀ j, j < 8 → g j = g2 j) (n k i : Nat) : qE n o x y g k i = qE n o x y g2 k i := by
  unfold qE
  rw [qN_e ho h]
  by_cases q : qCr o x y g2 k
  · rw [if_pos q, if_pos ((qCr_e ho h k).mpr q)]
  · rw [if_neg q, if_neg (fun z => q ((qCr_e ho h k).mp z))]
theorem qS_sim {P : PG} {S S2 : MS} (hP : okP P) (hS : okS P S) (he : S.e = 3) (h : sim S S2) : sim (qS P S) (qS P S2) := by
  obtain ⟨h1, h2, h3, h4, h5⟩ := h
  have ho := hP.2 _ (hS.2.2.2.1 he)
  refine ⟨?_, ?_, ?_, ?_, ?_⟩
  · intro j hj
    show qG _ _ _ _ j = qG _ _ _ _ j
    rw [← h4]; exact qG_e ho h1 j hj
  · show ∀ j, j < qK _ _ → qR _ _ _ _ _ j = qR _ _ _ _ _ j
    intro j hj
    rw [← h4, ← h3]
    unfold qR
    unfold qK at hj
    by_cases q : P.2.1 S.i = 8 ∧ ¬ S.k = 12
    · rw [if_pos q] at hj ⊢
      rw [if_pos q]
      by_cases w : j = S.k
      · subst w; rw [up_s, up_s]; exact h1 _ (ho.2.2.2.1 (by omega) (by omega))
      · rw [up_n _ _ w, up_n _ _ w]; exact h2 j (by omega)
    · rw [if_neg q] at hj ⊢
      rw [if_neg q]; exact h2 j hj
  · show qK _ _ = qK _ _
    rw [h4, h3]
  · show qN _ _ _ _ _ = qN _ _ _ _ _
    rw [← h4]; exact qN_e ho h1 _
  · show qE _ _ _ _ _ _ _ = qE _ _ _ _ _ _ _
    rw [← h4, ← h3]; exact qE_e ho h1 _ _ _
theorem qI_sim {P : PG} (hP : okP P) : ∀ (m : Nat) (S S2 : MS), okS P S → sim S S2 → sim (qI P S m) (qI P S2 m)
  | 0, _, _, _, h => h
  | m + 1, S, S2, hS, h => by
    by_cases he : S.e = 3
    · rw [qI_go he, qI_go (h.2.2.2.2 ▸ he)]; exact qI_sim hP m _ _ (qS_ok hP hS he) (qS_sim hP hS he h)
    · rw [qI_no he, qI_no (h.2.2.2.2 ▸ he)]; exact h
theorem qT_sim {P : PG} (hP : okP P) : ∀ (m : Nat) (S S2 : MS), okS P S → sim S S2 → qT P S m = qT P S2 m
  | 0, _, _, _, _ => rfl
  | m + 1, S, S2, hS, h => by
    by_cases he : S.e = 3
    · rw [qT_go he, qT_go (h.2.2.2.2 ▸ he), qT_sim hP m _ _ (qS_ok hP hS he) (qS_sim hP hS he h)]
    · rw [qT_no he, qT_no (h.2.2.2.2 ▸ he)]
