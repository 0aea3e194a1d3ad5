/-! THE DEVELOPERS' MACHINE IS THAT MACHINE -/
def aN (g : Nat → Nat) : Nat → Int32 := fun j => nI (g j)
theorem aN_at (g : Nat → Nat) {i : Nat} (h : i < 2 ^ 31) : aN g (nI i).toNatClampNeg = nI (g i) := by rw [nI_clamp h]; rfl
theorem aN_up (g : Nat → Nat) {i : Nat} (v : Nat) (h : i < 2 ^ 31) : upd (aN g) (nI i).toNatClampNeg (nI v) = aN (va_up g i v) := by
  rw [nI_clamp h]
  funext j
  by_cases hj : j = i
  · subst hj
    show (if j = j then nI v else nI (g j)) = nI (va_up g j v j)
    rw [up_s, if_pos rfl]
  · show (if j = i then nI v else nI (g j)) = nI (va_up g i v j)
    rw [up_n _ _ hj, if_neg hj]
theorem in_i {i n : Nat} (h : i < n) (hn : n < 2 ^ 31) : inR (nI i) n := vp_in_nI h hn
theorem sh_1 : ∀ c, c < 31 → (1 : Int32) <<< (nI c &&& 31) = nI (2 ^ c) := by decide +kernel
theorem l_read (fu : Nat) {c : Nat} (rn : Nat) (g : Nat → Nat) (h : c < 8) : f_X3_read fu (nI rn) (aN g) (nI c) = some (nI (g c), nI (rn ||| 2 ^ c)) := by
  unfold f_X3_read
  rw [if_pos (in_i h (by decide)), aN_at g (by omega), sh_1 c (by omega), fa_or]
theorem l_write (fu : Nat) {c : Nat} (wn v : Nat) (g : Nat → Nat) (h : c < 8) : f_X3_write fu (nI wn) (aN g) (nI c) (nI v) = some (nI (wn ||| 2 ^ c), aN (va_up g c v)) := by
  unfold f_X3_write
  rw [if_pos (in_i h (by decide)), aN_up g v (by omega), sh_1 c (by omega), fa_or]
theorem l_tell (fu : Nat) {k : Nat} (e v : Nat) (r : Nat → Nat) (h : k ≤ 12) : f_X3_tell fu (nI k) (nI e) (aN r) (nI v) = some (if k = 12 then (nI k, nI 1, aN r) else (nI (k + 1), nI e, aN (va_up r k v))) := by
  unfold f_X3_tell
  by_cases hk : k = 12
  · subst hk
    rw [if_neg (show ¬ nI 12 < (12 : Int32) by decide), if_pos rfl]
    rfl
  · rw [if_pos (show nI k < (12 : Int32) from nI_lt (a := k) (b := 12) (by omega) (by decide)), if_neg hk, if_pos (in_i (by omega) (by decide)), aN_up r v (by omega)]
    rw [show nI k + (1 : Int32) = nI (k + 1) from nI_1 k]
theorem l_isCell (fu v : Nat) (h : v < 2 ^ 31) : f_X6_isCell fu (nI v) = some (if v < 8 then 1 else 0) := by
  unfold f_X6_isCell
  rw [if_neg (nI_pos h)]
  by_cases hv : v < 8
  · rw [if_neg (show ¬ (8 : Int32) ≤ nI v from nI_ge (a := v) (b := 8) hv (by decide)), if_pos hv]
  · rw [if_pos (show (8 : Int32) ≤ nI v from nI_le (a := 8) (b := v) (by omega) h), if_neg hv]
def rM (o x y : Nat) (g : Nat → Nat) : Nat := (if qA o then 2 ^ x else 0) ||| (if qB o then 2 ^ y else 0) ||| (if o = 9 ∧ g y < 8 then 2 ^ g y else 0)
def wM (o x y : Nat) (g : Nat → Nat) : Nat := if o ≤ 5 ∨ (o = 9 ∧ g y < 8) then 2 ^ x else if o = 10 ∧ g x < 8 then 2 ^ g x else 0
theorem l_obey (fu : Nat) {o x y k nx : Nat} {g r : Nat → Nat} (ho : okO o x y) (hg : ∀ j, j < 8 → g j < 256) (hk : k ≤ 12) :
    f_X3_obey fu (nI k) (nI nx) (nI 3) (nI 0) (nI 0) (aN g) (aN r) (nI o) (nI x) (nI y) = some (nI (qK o k), nI (if o = 6 then x else if o = 7 ∧ ¬ g x = 0 then y else nx), nI (if qCr o x y g k then 1 else if o = 11 then 0 else 3), nI (rM o x y g), nI (wM o x y g), aN (qG o x y g), aN (qR o x g r k)) := by
  obtain ⟨h1, h2, h3, h4, h5, h6, h7⟩ := ho
  have hc : o = 0 ∨ o = 1 ∨ o = 2 ∨ o = 3 ∨ o = 4 ∨ o = 5 ∨ o = 6 ∨ o = 7 ∨ o = 8 ∨ o = 9 ∨ o = 10 ∨ o = 11 := by omega
  unfold f_X3_obey
  rcases hc with rfl | rfl | rfl | rfl | rfl | rfl | rfl | rfl | rfl | rfl | rfl | rfl
  · rw [if_pos (by decide), l_write fu 0 y g (h4 (by decide) (by decide))]
    simp [qK, qCr, rM, qA, qB, wM, qG, qR]
  · rw [if_neg (by decide), if_pos (by decide), l_read fu 0 g (h5 (by decide)), Option.bind_some, l_write fu 0 _ g (h4 (by decide) (by decide))]
    simp [qK, qCr, rM, qA, qB, wM, qG, qR]
  · rw [if_neg (by decide), if_neg (by decide), if_pos (by decide), l_read fu 0 g (h4 (by decide) (by decide)), Option.bind_some, l_read fu _ g (h5 (by decide)), Option.bind_some, nI_add, show (255 : Int32) = nI (2 ^ 8 - 1) from rfl, fa_mask, l_write fu 0 _ g (h4 (by decide) (by decide))]
    simp [qK, qCr, rM, qA, qB, wM, qG, qR]
  · rw [if_neg (by decide), if_neg (by decide), if_neg (by decide), if_pos (by decide), l_read fu 0 g (h4 (by decide) (by decide)), Option.bind_some, l_read fu _ g (h5 (by decide)), Option.bind_some, fa_and, l_write fu 0 _ g (h4 (by decide) (by decide))]
    simp [qK, qCr, rM, qA, qB, wM, qG, qR]
  · rw [if_neg (by decide), if_neg (by decide), if_neg (by decide), if_neg (by decide), if_pos (by decide), l_read fu 0 g (h4 (by decide) (by decide)), Option.bind_some, l_read fu _ g (h5 (by decide)), Option.bind_some, fb_xorI, l_write fu 0 _ g (h4 (by decide) (by decide))]
    simp [qK, qCr, rM, qA, qB, wM, qG, qR]
  · rw [if_neg (by decide), if_neg (by decide), if_neg (by decide), if_neg (by decide), if_neg (by decide), if_pos (by decide), l_read fu 0 g (h4 (by decide) (by decide)), Option.bind_some, pk_shrN (by have := hg x (h4 (by decide) (by decide)); omega) _ 1 (by decide), l_write fu 0 _ g (h4 (by decide) (by decide))]
    simp [qK, qCr, rM, qA, qB, wM, qG, qR]
  · rw [if_neg (by decide), if_neg (by decide), if_neg (by decide), if_neg (by decide), if_neg (by decide), if_neg (by decide), if_pos (by decide)]
    simp [qK, qCr, rM, qA, qB, wM, qG, qR]
  · rw [if_neg (by decide), if_neg (by decide), if_neg (by decide), if_neg (by decide), if_neg (by decide), if_neg (by decide), if_neg (by decide), if_pos (by decide), l_read fu 0 g (h4 (by decide) (by decide)), Option.bind_some]
    have hx8 := hg x (h4 (by decide) (by decide))
    by_cases hz : g x = 0
    · rw [if_pos (show nI (g x) = (0 : Int32) by rw [hz]; rfl)]
      simp [qK, qCr, rM, qA, qB, wM, qG, qR, hz]
    · rw [if_neg (show ¬ nI (g x) = (0 : Int32) from nI_ne0 (by omega) (by omega))]
      simp [qK, qCr, rM, qA, qB, wM, qG, qR, hz]
  · rw [if_neg (by decide), if_neg (by decide), if_neg (by decide), if_neg (by decide), if_neg (by decide), if_neg (by decide), if_neg (by decide), if_neg (by decide), if_pos (by decide), l_read fu 0 g (h4 (by decide) (by decide)), Option.bind_some, l_tell fu 3 _ r hk]
    by_cases hz : k = 12
    · simp [qK, qCr, rM, qA, qB, wM, qG, qR, hz]
    · simp [qK, qCr, rM, qA, qB, wM, qG, qR, hz]
  · rw [if_neg (by decide), if_neg (by decide), if_neg (by decide), if_neg (by decide), if_neg (by decide), if_neg (by decide), if_neg (by decide), if_neg (by decide), if_neg (by decide), if_pos (by decide), l_read fu 0 g (h5 (by decide)), Option.bind_some, l_isCell fu (g y) (by have := hg y (h5 (by decide)); omega), Option.bind_some]
    by_cases hz : g y < 8
    · rw [if_pos hz, if_neg (by decide), l_read fu _ g hz, Option.bind_some, l_write fu 0 _ g (h4 (by decide) (by decide))]
      have hz2 : ¬ 8 ≤ g y := by omega
      simp [qK, qCr, rM, qA, qB, wM, qG, qR, hz, hz2]
    · rw [if_neg hz, if_pos rfl]
      have hz2 : 8 ≤ g y := by omega
      simp [qK, qCr, rM, qA, qB, wM, qG, qR, hz, hz2]
      rfl
  · rw [if_neg (by decide), if_neg (by decide), if_neg (by decide), if_neg (by decide), if_neg (by decide), if_neg (by decide), if_neg (by decide), if_neg (by decide), if_neg (by decide), if_neg (by decide), if_pos (by decide), l_read fu 0 g (h4 (by decide) (by decide)), Option.bind_some, l_read fu _ g (h5 (by decide)), Option.bind_some, l_isCell fu (g x) (by have := hg x (h4 (by decide) (by decide)); omega), Option.bind_some]
    by_cases hz : g x < 8
    · rw [if_pos hz, if_neg (by decide), l_write fu 0 _ g hz]
      have hz2 : ¬ 8 ≤ g x := by omega
      simp [qK, qCr, rM, qA, qB, wM, qG, qR, hz, hz2]
    · rw [if_neg hz, if_pos rfl]
      have hz2 : 8 ≤ g x := by omega
      simp [qK, qCr, rM, qA, qB, wM, qG, qR, hz, hz2]
      rfl
  · rw [if_neg (by decide), if_neg (by decide), if_neg (by decide), if_neg (by decide), if_neg (by decide), if_neg (by decide), if_neg (by decide), if_neg (by decide), if_neg (by decide), if_neg (by decide), if_neg (by decide)]
    simp [qK, qCr, rM, qA, qB, wM, qG, qR]
    rfl
theorem l_has (fu : Nat) {n i : Nat} (hn : n < 2 ^ 31) (hi : i < 2 ^ 31) : f_X4_has fu (nI n) (nI i) = some (if i < n then 1 else 0) := by
  unfold f_X4_has
  rw [if_neg (nI_pos hi)]
  by_cases h : i < n
  · rw [if_neg (nI_ge h hn), if_pos h]
  · rw [if_pos (nI_le (by omega) hi), if_neg h]
/-- a step of the developers' machine is a step -/
theorem l_step (fu : Nat) {P : PG} {S : MS} {t ws : Nat} (rn wn : Int32) (hP : okP P) (hS : okS P S) (he : S.e = 3) :
    f_X3_step fu (nI P.1) (aN P.2.1) (aN P.2.2.1) (aN P.2.2.2) (nI S.k) (nI S.i) (nI t) (nI 3) rn wn (nI ws) (aN S.g) (aN S.r)
      = some (nI (qS P S).k, nI (qS P S).i, nI (t + 1), nI (qS P S).e, nI (rM (P.2.1 S.i) (P.2.2.1 S.i) (P.2.2.2 S.i) S.g), nI (wM (P.2.1 S.i) (P.2.2.1 S.i) (P.2.2.2 S.i) S.g), nI (ws ||| wM (P.2.1 S.i) (P.2.2.1 S.i) (P.2.2.2 S.i) S.g), aN (qS P S).g, aN (qS P S).r) := by
  obtain ⟨h1, h2, h3, h4, h5⟩ := hS
  have hi : S.i < P.1 := h4 he
  have hin : inR (nI S.i) 20 := in_i (by have := hP.1; omega) (by decide)
  unfold f_X3_step
  rw [if_pos hin, if_pos hin, if_pos hin, aN_at _ (by omega), aN_at _ (by omega), aN_at _ (by omega), nI_1, show (0 : Int32) = nI 0 from rfl, l_obey fu (hP.2 _ hi) h1 h2, Option.bind_some]
  have ho := hP.2 _ hi
  have hN : qN (P.2.1 S.i) (P.2.2.1 S.i) (P.2.2.2 S.i) S.g S.i < 2 ^ 31 := by
    unfold qN
    obtain ⟨q1, q2, q3, -⟩ := ho
    split
    · omega
    · split <;> omega
  show (if nI (if qCr (P.2.1 S.i) (P.2.2.1 S.i) (P.2.2.2 S.i) S.g S.k then 1 else if P.2.1 S.i = 11 then 0 else 3) = nI 3 then _ else _) = _
  by_cases c1 : qCr (P.2.1 S.i) (P.2.2.1 S.i) (P.2.2.2 S.i) S.g S.k
  · rw [if_pos c1, if_neg (by decide)]
    simp only [qS, MS.g, MS.r, MS.k, MS.i, MS.e, qE, if_pos c1, qN, nI_1, fa_or]
  · rw [if_neg c1]
    by_cases c2 : P.2.1 S.i = 11
    · rw [if_pos c2, if_neg (by decide)]
      simp only [qS, MS.g, MS.r, MS.k, MS.i, MS.e, qE, if_neg c1, if_pos c2, qN, nI_1, fa_or]
    · rw [if_neg c2, if_pos rfl]
      show (Option.bind (f_X4_has fu (nI P.1) (nI (qN (P.2.1 S.i) (P.2.2.1 S.i) (P.2.2.2 S.i) S.g S.i))) _) = _
      rw [l_has fu (by have := hP.1; omega) hN, Option.bind_some]
      by_cases c3 : qN (P.2.1 S.i) (P.2.2.1 S.i) (P.2.2.2 S.i) S.g S.i < P.1
      · rw [if_pos c3, if_neg (by decide)]
        have e1 : qE P.1 (P.2.1 S.i) (P.2.2.1 S.i) (P.2.2.2 S.i) S.g S.k S.i = 3 := by unfold qE; rw [if_neg c1, if_neg c2, if_pos c3]
        show _ = some (_, _, _, nI (qE P.1 (P.2.1 S.i) (P.2.2.1 S.i) (P.2.2.2 S.i) S.g S.k S.i), _)
        rw [e1, nI_1, fa_or]
        rfl
      · rw [if_neg c3, if_pos (show (0 : Int32) = nI 0 from rfl)]
        have e1 : qE P.1 (P.2.1 S.i) (P.2.2.1 S.i) (P.2.2.2 S.i) S.g S.k S.i = 0 := by unfold qE; rw [if_neg c1, if_neg c2, if_neg c3]
        show _ = some (_, _, _, nI (qE P.1 (P.2.1 S.i) (P.2.2.1 S.i) (P.2.2.2 S.i) S.g S.k S.i), _)
        rw [e1, nI_1, fa_or]
        rfl
