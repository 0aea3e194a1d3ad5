/-! A FLIP IN THE REFERENCE: the run up to it, the flip, what comes of it -/
section FLIP
variable (fu : Nat) {P : PG} (lc lf wd so : Int32) (k : K197) {c : Nat}
/-- the loop's head at the flip's tick -/
theorem g_flip {S : MS} (hP1 : P.1 ≤ 20) (hi : S.i < P.1) (hc : c < 8) (n t v : Nat) (ht : t < 100) (km wr u : Int32) (r : Nat → Int32) :
    GL fu P lc lf (nI c) wd so (nI v) (nI t) k (n + 1) (nI t) 1 km 0 wr 0 u (aN S.g) r (nI S.i) = BL fu P lc lf (nI c) wd so (nI v) (nI t) k n (nI t) 1 km 1 wr 0 u (aN (va_up S.g c (S.g c ^^^ v))) r (nI S.i) := by
  show fr_X7_go_84 _ _ _ _ _ _ _ _ _ _ _ _ _ _ (n + 1) _ _ _ _ _ _ _ _ _ _ = _
  rw [fr_X7_go_84, if_neg (nI_pos (by omega)), if_neg (nI_ge hi (by omega)), if_pos rfl, if_pos rfl, if_neg (show ¬ nI t = (100 : Int32) from fun q => by have := (nI_eq (a := t) (b := 100) (by omega) (by decide)).mp q; omega), if_neg (nc_1 hc), if_pos rfl, if_pos (in_i hc (by decide)), if_pos (in_i hc (by decide)), aN_at _ (by omega), fb_xorI, aN_up _ _ (by omega)]
/-- the run with a flip from its tick on: not caught by reading -/
theorem g_f1 (hP : okP P) (hc : c < 8) (m n t v : Nat) (S X : MS) (hX : X = (va_up S.g c (S.g c ^^^ v), S.r, S.k, S.i, 3)) (u : Int32) (ht : t + (m + 1) = 100) (hn : m + 2 < n) (hSi : S.i < P.1) (hok : okS P X) (hct : ctc wd so → sRd P c X (m + 1) = false) :
    ∃ u2, GL fu P lc lf (nI c) wd so (nI v) (nI t) k n (nI t) 1 (nI S.k) 0 0 0 u (aN S.g) (aN S.r) (nI S.i) = k (nI (t + qT P X (m + 1))) (E4 (qI P X (m + 1)).e) (nI (qI P X (m + 1)).k) (if sSt P c X (m + 1) = true then 1 else 0) (if sRd P c X (m + 1) = true then 1 else 0) 0 u2 (aN (qI P X (m + 1)).g) (aN (qI P X (m + 1)).r) := by
  obtain ⟨n, rfl⟩ : ∃ z, n = z + 1 := ⟨n - 1, by omega⟩
  have he : X.e = 3 := by rw [hX]
  have ho := hP.2 _ (hok.2.2.2.1 he)
  have hR := R3_1 (g := X.g) hc ho wd so lc lf (nI t) (0, 0, u) rfl
  have hfu : ∀ t2 : Nat, t + 1 ≤ t2 → t2 < 100 → ¬ nI t2 = nI t := fun t2 a b q => by
    have := (nI_eq (a := t2) (b := t) (by omega) (by omega)).mp q
    omega
  have hca : (R3 (nI c) wd so 1 lc lf (nI t) (oA P X) (xA P X) (yA P X) X.g (0, 0, u)).2.1 = 0 := by
    by_cases q : rdS P X c
    · refine (hR.1 q).2.mpr (fun w => ?_)
      have := hct w
      rw [sRd, if_pos he, if_pos q] at this
      cases this
    · exact (hR.2 q).2
  have hbl : BL fu P lc lf (nI c) wd so (nI v) (nI t) k n (nI t) 1 (nI S.k) 1 0 0 u (aN (va_up S.g c (S.g c ^^^ v))) (aN S.r) (nI S.i) = _ := (show BL fu P lc lf (nI c) wd so (nI v) (nI t) k n (nI t) 1 (nI S.k) 1 0 0 u (aN (va_up S.g c (S.g c ^^^ v))) (aN S.r) (nI S.i) = BL fu P lc lf (nI c) wd so (nI v) (nI t) k n (nI t) 1 (nI X.k) 1 0 0 u (aN X.g) (aN X.r) (nI X.i) by rw [hX]).trans (b_step fu lc lf (nI c) wd so (nI v) (nI t) k hP hok he n t 1 0 u hca)
  rw [g_flip fu lc lf wd so k hP.1 hSi hc n t v (by omega), hbl, W3_1 hc ho, qT_go he, qI_go he, sSt, if_pos he, sRd, if_pos he, show t + (qT P (qS P X) m + 1) = t + 1 + qT P (qS P X) m by omega]
  have hw1 : (R3 (nI c) wd so 1 lc lf (nI t) (oA P X) (xA P X) (yA P X) X.g (0, 0, u)).1 = if rdS P X c then 1 else 0 := by
    by_cases q : rdS P X c
    · rw [if_pos q]; exact (hR.1 q).1
    · rw [if_neg q]; exact (hR.2 q).1
  rw [hw1]
  by_cases w : wrS P X c
  · rw [if_pos w, if_pos w, if_pos w]
    refine ⟨uN P lc lf (qS P X) (t + 1) (uS P X lc lf (nI t) u) m, ?_⟩
    rw [g_un fu lc lf (nI c) wd so (nI v) (nI t) k hP m n (t + 1) (qS P X) _ _ _ (by omega) (by omega) (qS_ok hP hok he) (N3_ok hP hok he) (fun t2 a b => Or.inr (hfu t2 a b))]
    by_cases q : rdS P X c
    · rw [if_pos q, if_pos q]; rfl
    · rw [if_neg q, if_neg q]; rfl
  · rw [if_neg w, if_neg w, if_neg w]
    have hct2 : ctc wd so → sRd P c (qS P X) m = false := fun z => by
      have := hct z
      rw [sRd, if_pos he] at this
      by_cases q : rdS P X c
      · rw [if_pos q] at this; cases this
      · rw [if_neg q, if_neg w] at this; exact this
    obtain ⟨u2, h⟩ := g_st fu lc lf wd so (nI v) (nI t) k hP hc m n (t + 1) (qS P X) (N3 (oA P X) (xA P X) (yA P X) X.g X.k X.i) (if rdS P X c then 1 else 0) (uS P X lc lf (nI t) u) (by omega) (by omega) (qS_ok hP hok he) (N3_ok hP hok he) hfu hct2
    refine ⟨u2, h.trans ?_⟩
    by_cases q : rdS P X c
    · rw [if_pos q, if_pos q]
      congr 1
      split <;> rfl
    · rw [if_neg q, if_neg q]
/-- .. caught by reading -/
theorem g_f2 (hP : okP P) (hc : c < 8) (m n t v : Nat) (S X : MS) (hX : X = (va_up S.g c (S.g c ^^^ v), S.r, S.k, S.i, 3)) (u : Int32) (ht : t + (m + 1) = 100) (hn : m + 2 < n) (hSi : S.i < P.1) (hok : okS P X) (hct : ctc wd so) (hs : sRd P c X (m + 1) = true) :
    ∃ km wr2 ca2 u2 g r, ¬ ca2 = 0 ∧ GL fu P lc lf (nI c) wd so (nI v) (nI t) k n (nI t) 1 (nI S.k) 0 0 0 u (aN S.g) (aN S.r) (nI S.i) = k (nI (t + sAt P c X (m + 1) + 1)) 1 km 1 wr2 ca2 u2 (aN g) (aN r) := by
  have he : X.e = 3 := by rw [hX]
  have ho := hP.2 _ (hok.2.2.2.1 he)
  have hR := R3_1 (g := X.g) hc ho wd so lc lf (nI t) (0, 0, u) rfl
  have hfu : ∀ t2 : Nat, t + 1 ≤ t2 → t2 < 100 → ¬ nI t2 = nI t := fun t2 a b q => by
    have := (nI_eq (a := t2) (b := t) (by omega) (by omega)).mp q
    omega
  have hBX : ∀ n, BL fu P lc lf (nI c) wd so (nI v) (nI t) k n (nI t) 1 (nI S.k) 1 0 0 u (aN (va_up S.g c (S.g c ^^^ v))) (aN S.r) (nI S.i) = BL fu P lc lf (nI c) wd so (nI v) (nI t) k n (nI t) 1 (nI X.k) 1 0 0 u (aN X.g) (aN X.r) (nI X.i) := fun n => by rw [hX]
  rw [sRd, if_pos he] at hs
  by_cases q : rdS P X c
  · obtain ⟨n, rfl⟩ : ∃ z, n = z + 1 + 1 := ⟨n - 2, by omega⟩
    obtain ⟨wr2, ca2, u2, h1, h2⟩ := b_caught fu lc lf wd so (nI v) (nI t) k hP hok he n t 0 u (fun z => (hR.1 q).2.mp z hct)
    refine ⟨nI X.k, wr2, ca2, u2, X.g, X.r, h1, ?_⟩
    rw [g_flip fu lc lf wd so k hP.1 hSi hc (n + 1) t v (by omega), hBX, h2, sAt, if_neg (fun z => z.2 q)]
  · obtain ⟨n, rfl⟩ : ∃ z, n = z + 1 := ⟨n - 1, by omega⟩
    rw [if_neg q] at hs
    have w : ¬ wrS P X c := fun z => by rw [if_pos z] at hs; cases hs
    rw [if_neg w] at hs
    obtain ⟨km, wr2, ca2, u2, g, r, h1, h2⟩ := g_sc fu lc lf wd so (nI v) (nI t) k hP hc hct m n (t + 1) (qS P X) (N3 (oA P X) (xA P X) (yA P X) X.g X.k X.i) (uS P X lc lf (nI t) u) (by omega) (by omega) (qS_ok hP hok he) (N3_ok hP hok he) hfu hs
    refine ⟨km, wr2, ca2, u2, g, r, h1, ?_⟩
    rw [g_flip fu lc lf wd so k hP.1 hSi hc n t v (by omega), hBX, b_step fu lc lf (nI c) wd so (nI v) (nI t) k hP hok he n t 1 0 u (hR.2 q).2, W3_1 hc ho, if_neg w, (hR.2 q).1, sAt, if_pos ⟨he, q⟩, show t + (sAt P c (qS P X) m + 1) + 1 = t + 1 + sAt P c (qS P X) m + 1 by omega]
    exact h2
end FLIP
