/-! ARGUMENTS -/
theorem nI_e {a : Int32} (h : ¬ a < 0) : ∃ j, j < 2 ^ 31 ∧ a = nI j := by
  obtain ⟨j, hj, e⟩ := nI_of (x := a) h
  exact ⟨j, hj, e⟩
theorem x_le (fu : Nat) (a : Int32) {m : Nat} (hm : m < 2 ^ 31) : (∃ j, j ≤ m ∧ a = nI j ∧ ¬ a < 0 ∧ a ≤ nI m ∧ f_X7_in fu a 0 (nI m) = some 1) ∨ ((a < 0 ∨ (¬ a < 0 ∧ ¬ a ≤ nI m)) ∧ f_X7_in fu a 0 (nI m) = some 0) := by
  unfold f_X7_in
  by_cases h : a < 0
  · rw [if_pos h]; exact Or.inr ⟨Or.inl h, rfl⟩
  · rw [if_neg h]
    obtain ⟨j, hj, rfl⟩ := nI_e h
    by_cases q : j ≤ m
    · rw [if_neg (nI_nlt q hm)]; exact Or.inl ⟨j, q, rfl, h, nI_le q hm, rfl⟩
    · rw [if_pos (nI_lt (show m < j by omega) hj)]; exact Or.inr ⟨Or.inr ⟨h, nI_ge (by omega) hj⟩, rfl⟩
theorem nI_m1 {n : Nat} (h : 0 < n) : nI n - 1 = nI (n - 1) := by
  obtain ⟨m, rfl⟩ : ∃ m, n = m + 1 := ⟨n - 1, by omega⟩
  rw [sub1, nI_p]; rfl
theorem x_lt (fu : Nat) (a : Int32) {n : Nat} (hn : n < 2 ^ 31) : (∃ j, j < n ∧ a = nI j ∧ ¬ a < 0 ∧ a < nI n ∧ f_X7_in fu a 0 (nI n - 1) = some 1) ∨ ((a < 0 ∨ (¬ a < 0 ∧ ¬ a < nI n)) ∧ f_X7_in fu a 0 (nI n - 1) = some 0) := by
  by_cases h0 : n = 0
  · subst h0
    refine Or.inr ⟨?_, ?_⟩
    · by_cases h : a < 0
      · exact Or.inl h
      · exact Or.inr ⟨h, h⟩
    · unfold f_X7_in
      by_cases h : a < 0
      · rw [if_pos h]
      · rw [if_neg h]
        obtain ⟨j, hj, rfl⟩ := nI_e h
        rw [if_pos]
        rw [show nI 0 - (1 : Int32) = -1 by decide, Int32.lt_iff_toInt_lt, nI_toInt hj]
        show (-1 : Int) < _
        omega
  · rw [nI_m1 (by omega)]
    rcases x_le fu a (m := n - 1) (by omega) with ⟨j, h1, rfl, h3, h4, h5⟩ | ⟨h1, h2⟩
    · exact Or.inl ⟨j, by omega, rfl, h3, nI_lt (by omega) hn, h5⟩
    · refine Or.inr ⟨h1.imp id (fun z => ⟨z.1, ?_⟩), h2⟩
      obtain ⟨j, hj, rfl⟩ := nI_e z.1
      refine nI_nlt ?_ hj
      rcases Nat.lt_or_ge j n with q | q
      · exact absurd (nI_le (show j ≤ n - 1 by omega) (by omega)) z.2
      · exact q
theorem x_cell (fu : Nat) (a : Int32) : (∃ c, c < 8 ∧ a = nI c ∧ f_X6_isCell fu a = some 1 ∧ f_X7_isCell fu a = some 1) ∨ (f_X6_isCell fu a = some 0 ∧ f_X7_isCell fu a = some 0) := by
  unfold f_X6_isCell f_X7_isCell
  rcases x_le fu a (m := 7) (by decide) with ⟨j, h1, rfl, h3, h4, h5⟩ | ⟨h1, h2⟩
  · rw [show (7 : Int32) = nI 7 from rfl, h5, Option.bind_some, if_pos (Or.inr rfl), if_neg h3, if_neg (show ¬ (8 : Int32) ≤ nI j from nI_ge (a := j) (b := 8) (by omega) (by decide))]
    exact Or.inl ⟨j, by omega, rfl, rfl, rfl⟩
  · rw [show (7 : Int32) = nI 7 from rfl, h2, Option.bind_some, if_pos (Or.inl rfl)]
    rcases h1 with h | ⟨h, q⟩
    · rw [if_pos h]; exact Or.inr ⟨rfl, rfl⟩
    · obtain ⟨j, hj, rfl⟩ := nI_e h
      rw [if_neg h, if_pos (show (8 : Int32) ≤ nI j from nI_le (a := 8) (b := j) (by
        rcases Nat.lt_or_ge j 8 with w | w
        · exact absurd (nI_le (show j ≤ 7 by omega) (by omega)) q
        · exact w) hj)]
      exact Or.inr ⟨rfl, rfl⟩
theorem x_wide (fu : Nat) (a : Int32) : (∃ w, (w = 1 ∨ w = 2) ∧ a = nI w ∧ f_X6_isWidth fu a = some 1 ∧ f_X7_in fu a 1 2 = some 1) ∨ (f_X6_isWidth fu a = some 0 ∧ f_X7_in fu a 1 2 = some 0) := by
  by_cases h1 : a = 1
  · subst h1; exact Or.inl ⟨1, Or.inl rfl, rfl, by rfl, by rfl⟩
  · by_cases h2 : a = 2
    · subst h2; exact Or.inl ⟨2, Or.inr rfl, rfl, by rfl, by rfl⟩
    · refine Or.inr ⟨?_, ?_⟩
      · unfold f_X6_isWidth
        rw [if_neg h1, if_neg h2]
      · unfold f_X7_in
        by_cases q : a < 1
        · rw [if_pos q]
        · rw [if_neg q]
          have z : ¬ a < 0 := fun w => q (Int32.lt_trans w (by decide))
          obtain ⟨j, hj, rfl⟩ := nI_e z
          rw [if_pos]
          refine nI_lt (a := 2) (b := j) ?_ hj
          rcases Nat.lt_or_ge 2 j with w | w
          · exact w
          · exfalso
            rcases (show j = 0 ∨ j = 1 ∨ j = 2 by omega) with rfl | rfl | rfl
            · exact q (by decide)
            · exact h1 rfl
            · exact h2 rfl
/-! THE PLAIN RUN'S QUESTIONS -/
theorem e3_of (fu : Nat) {P : PG} {c0 : Nat → Nat} (hP : okP P) (hc : ∀ j, j < 8 → c0 j < 256) (hf : 200 < fu) : (Pl P c0 100).e = 0 ∨ (Pl P c0 100).e = 1 ∨ (Pl P c0 100).e = 3 := (qI_ok hP 100 _ (S0_ok (P := P) (r := fun _ => 0) hc)).2.2.2.2
theorem k_of (fu : Nat) {P : PG} {c0 : Nat → Nat} (hP : okP P) (hc : ∀ j, j < 8 → c0 j < 256) (hf : 200 < fu) : (Pl P c0 100).k ≤ 12 := (qI_ok hP 100 _ (S0_ok (P := P) (r := fun _ => 0) hc)).2.1
theorem r_of (fu : Nat) {P : PG} {c0 : Nat → Nat} (hP : okP P) (hc : ∀ j, j < 8 → c0 j < 256) (hf : 200 < fu) : ∀ j, j < (Pl P c0 100).k → (Pl P c0 100).r j < 256 := row_b hP 100 _ (S0_ok (P := P) (r := fun _ => 0) hc) (fun j hj => absurd hj (Nat.not_lt_zero j))
theorem x_run (fu : Nat) {P : PG} {c0 : Nat → Nat} (hP : okP P) (hc : ∀ j, j < 8 → c0 j < 256) (hf : 200 < fu) {lf : Nat → Int32} {T : M16} (h : SO P c0 lf T) (lc lo : Int32) (Z : Z16) : ∃ (v : Int32) (U : M16) (W : Z16), f_X6_run fu T.1 (nI P.1) (aN P.2.1) (aN P.2.2.1) (aN P.2.2.2) (aN c0) T.2.1 T.2.2.1 T.2.2.2.1 T.2.2.2.2.1 T.2.2.2.2.2.1 T.2.2.2.2.2.2.1 T.2.2.2.2.2.2.2.1 T.2.2.2.2.2.2.2.2.1 T.2.2.2.2.2.2.2.2.2.1 T.2.2.2.2.2.2.2.2.2.2.1 T.2.2.2.2.2.2.2.2.2.2.2.1 T.2.2.2.2.2.2.2.2.2.2.2.2.1 T.2.2.2.2.2.2.2.2.2.2.2.2.2.1 T.2.2.2.2.2.2.2.2.2.2.2.2.2.2.1 T.2.2.2.2.2.2.2.2.2.2.2.2.2.2.2 = some (v, U) ∧ SO P c0 lf U ∧ f_X7_run fu (nI P.1) Z.1 Z.2.1 Z.2.2.1 Z.2.2.2.1 Z.2.2.2.2.1 Z.2.2.2.2.2.1 Z.2.2.2.2.2.2.1 Z.2.2.2.2.2.2.2.1 Z.2.2.2.2.2.2.2.2.1 lc lo Z.2.2.2.2.2.2.2.2.2.1 Z.2.2.2.2.2.2.2.2.2.2.1 Z.2.2.2.2.2.2.2.2.2.2.2.1 Z.2.2.2.2.2.2.2.2.2.2.2.2.1 (aN P.2.1) (aN P.2.2.1) (aN P.2.2.2) (aN c0) Z.2.2.2.2.2.2.2.2.2.2.2.2.2.1 Z.2.2.2.2.2.2.2.2.2.2.2.2.2.2.1 Z.2.2.2.2.2.2.2.2.2.2.2.2.2.2.2 = some (v, W) := by
  obtain ⟨U, h1, h2, h3⟩ := c_plain fu hP hc hf h
  obtain ⟨W, h4, h5, -⟩ := z_plain fu hP hc hf lc lo Z
  unfold f_X6_run f_X7_run
  rw [h1, Option.bind_some, h4, Option.bind_some]
  refine ⟨U.2.2.2.2.1, U, W, rfl, Or.inr ⟨h2, h3⟩, ?_⟩
  obtain ⟨g, r, A, w0, -, -, e5, -⟩ := h3
  have e11 := h5.1
  rcases e3_of fu hP hc hf with q | q | q
  · rw [if_pos (show W.2.2.2.2.2.2.2.2.2.2.1 = 1 by rw [e11, q]; rfl), e5, q]; rfl
  · rw [if_neg (show ¬ W.2.2.2.2.2.2.2.2.2.2.1 = 1 by rw [e11, q]; decide), if_pos (show W.2.2.2.2.2.2.2.2.2.2.1 = 3 by rw [e11, q]; rfl), e5, q]; rfl
  · rw [if_neg (show ¬ W.2.2.2.2.2.2.2.2.2.2.1 = 1 by rw [e11, q]; decide), if_neg (show ¬ W.2.2.2.2.2.2.2.2.2.2.1 = 3 by rw [e11, q]; decide), e5, q]; rfl
theorem x_ticks (fu : Nat) {P : PG} {c0 : Nat → Nat} (hP : okP P) (hc : ∀ j, j < 8 → c0 j < 256) (hf : 200 < fu) {lf : Nat → Int32} {T : M16} (h : SO P c0 lf T) (lc lo : Int32) (Z : Z16) : ∃ (v : Int32) (U : M16) (W : Z16), f_X6_ticks fu T.1 (nI P.1) (aN P.2.1) (aN P.2.2.1) (aN P.2.2.2) (aN c0) T.2.1 T.2.2.1 T.2.2.2.1 T.2.2.2.2.1 T.2.2.2.2.2.1 T.2.2.2.2.2.2.1 T.2.2.2.2.2.2.2.1 T.2.2.2.2.2.2.2.2.1 T.2.2.2.2.2.2.2.2.2.1 T.2.2.2.2.2.2.2.2.2.2.1 T.2.2.2.2.2.2.2.2.2.2.2.1 T.2.2.2.2.2.2.2.2.2.2.2.2.1 T.2.2.2.2.2.2.2.2.2.2.2.2.2.1 T.2.2.2.2.2.2.2.2.2.2.2.2.2.2.1 T.2.2.2.2.2.2.2.2.2.2.2.2.2.2.2 = some (v, U) ∧ SO P c0 lf U ∧ f_X7_ticks fu (nI P.1) Z.1 Z.2.1 Z.2.2.1 Z.2.2.2.1 Z.2.2.2.2.1 Z.2.2.2.2.2.1 Z.2.2.2.2.2.2.1 Z.2.2.2.2.2.2.2.1 Z.2.2.2.2.2.2.2.2.1 lc lo Z.2.2.2.2.2.2.2.2.2.1 Z.2.2.2.2.2.2.2.2.2.2.1 Z.2.2.2.2.2.2.2.2.2.2.2.1 Z.2.2.2.2.2.2.2.2.2.2.2.2.1 (aN P.2.1) (aN P.2.2.1) (aN P.2.2.2) (aN c0) Z.2.2.2.2.2.2.2.2.2.2.2.2.2.1 Z.2.2.2.2.2.2.2.2.2.2.2.2.2.2.1 Z.2.2.2.2.2.2.2.2.2.2.2.2.2.2.2 = some (v, W) := by
  obtain ⟨U, h1, h2, h3⟩ := c_plain fu hP hc hf h
  obtain ⟨W, h4, h5, -⟩ := z_plain fu hP hc hf lc lo Z
  unfold f_X6_ticks f_X7_ticks
  rw [h1, Option.bind_some, h4, Option.bind_some]
  refine ⟨U.2.2.2.1, U, W, rfl, Or.inr ⟨h2, h3⟩, ?_⟩
  obtain ⟨g, r, A, w0, -, e4, -⟩ := h3
  rw [e4, ← h5.2.1]
theorem x_many (fu : Nat) {P : PG} {c0 : Nat → Nat} (hP : okP P) (hc : ∀ j, j < 8 → c0 j < 256) (hf : 200 < fu) {lf : Nat → Int32} {T : M16} (h : SO P c0 lf T) (lc lo : Int32) (Z : Z16) : ∃ (v : Int32) (U : M16) (W : Z16), f_X6_many fu T.1 (nI P.1) (aN P.2.1) (aN P.2.2.1) (aN P.2.2.2) (aN c0) T.2.1 T.2.2.1 T.2.2.2.1 T.2.2.2.2.1 T.2.2.2.2.2.1 T.2.2.2.2.2.2.1 T.2.2.2.2.2.2.2.1 T.2.2.2.2.2.2.2.2.1 T.2.2.2.2.2.2.2.2.2.1 T.2.2.2.2.2.2.2.2.2.2.1 T.2.2.2.2.2.2.2.2.2.2.2.1 T.2.2.2.2.2.2.2.2.2.2.2.2.1 T.2.2.2.2.2.2.2.2.2.2.2.2.2.1 T.2.2.2.2.2.2.2.2.2.2.2.2.2.2.1 T.2.2.2.2.2.2.2.2.2.2.2.2.2.2.2 = some (v, U) ∧ SO P c0 lf U ∧ f_X7_many fu (nI P.1) Z.1 Z.2.1 Z.2.2.1 Z.2.2.2.1 Z.2.2.2.2.1 Z.2.2.2.2.2.1 Z.2.2.2.2.2.2.1 Z.2.2.2.2.2.2.2.1 Z.2.2.2.2.2.2.2.2.1 lc lo Z.2.2.2.2.2.2.2.2.2.1 Z.2.2.2.2.2.2.2.2.2.2.1 Z.2.2.2.2.2.2.2.2.2.2.2.1 Z.2.2.2.2.2.2.2.2.2.2.2.2.1 (aN P.2.1) (aN P.2.2.1) (aN P.2.2.2) (aN c0) Z.2.2.2.2.2.2.2.2.2.2.2.2.2.1 Z.2.2.2.2.2.2.2.2.2.2.2.2.2.2.1 Z.2.2.2.2.2.2.2.2.2.2.2.2.2.2.2 = some (v, W) := by
  obtain ⟨U, h1, h2, h3⟩ := c_plain fu hP hc hf h
  obtain ⟨W, h4, h5, -⟩ := z_plain fu hP hc hf lc lo Z
  unfold f_X6_many f_X7_many
  rw [h1, Option.bind_some, h4, Option.bind_some]
  refine ⟨U.2.1, U, W, rfl, Or.inr ⟨h2, h3⟩, ?_⟩
  obtain ⟨g, r, A, w0, e2, -⟩ := h3
  rw [e2, ← h5.2.2.1]
theorem x_told (fu : Nat) {P : PG} {c0 : Nat → Nat} (hP : okP P) (hc : ∀ j, j < 8 → c0 j < 256) (hf : 200 < fu) {lf : Nat → Int32} {T : M16} (h : SO P c0 lf T) (lc lo : Int32) (Z : Z16) (a : Int32) : ∃ (v : Int32) (U : M16) (W : Z16), f_X6_told fu T.1 (nI P.1) (aN P.2.1) (aN P.2.2.1) (aN P.2.2.2) (aN c0) T.2.1 T.2.2.1 T.2.2.2.1 T.2.2.2.2.1 T.2.2.2.2.2.1 T.2.2.2.2.2.2.1 T.2.2.2.2.2.2.2.1 T.2.2.2.2.2.2.2.2.1 T.2.2.2.2.2.2.2.2.2.1 T.2.2.2.2.2.2.2.2.2.2.1 T.2.2.2.2.2.2.2.2.2.2.2.1 T.2.2.2.2.2.2.2.2.2.2.2.2.1 T.2.2.2.2.2.2.2.2.2.2.2.2.2.1 T.2.2.2.2.2.2.2.2.2.2.2.2.2.2.1 T.2.2.2.2.2.2.2.2.2.2.2.2.2.2.2 a = some (v, U) ∧ SO P c0 lf U ∧ f_X7_told fu (nI P.1) Z.1 Z.2.1 Z.2.2.1 Z.2.2.2.1 Z.2.2.2.2.1 Z.2.2.2.2.2.1 Z.2.2.2.2.2.2.1 Z.2.2.2.2.2.2.2.1 Z.2.2.2.2.2.2.2.2.1 lc lo Z.2.2.2.2.2.2.2.2.2.1 Z.2.2.2.2.2.2.2.2.2.2.1 Z.2.2.2.2.2.2.2.2.2.2.2.1 Z.2.2.2.2.2.2.2.2.2.2.2.2.1 (aN P.2.1) (aN P.2.2.1) (aN P.2.2.2) (aN c0) Z.2.2.2.2.2.2.2.2.2.2.2.2.2.1 Z.2.2.2.2.2.2.2.2.2.2.2.2.2.2.1 Z.2.2.2.2.2.2.2.2.2.2.2.2.2.2.2 a = some (v, W) := by
  obtain ⟨U, h1, h2, h3⟩ := c_plain fu hP hc hf h
  obtain ⟨W, h4, h5, -⟩ := z_plain fu hP hc hf lc lo Z
  have hk := k_of fu hP hc hf
  unfold f_X6_told f_X7_told
  rw [h1, Option.bind_some, h4, Option.bind_some]
  have hp := h3
  obtain ⟨g, r, A, w0, e2, -, -, -, er, -, -, -, -, -, hA, -⟩ := h3
  obtain ⟨-, -, ez, -, rp, ep, hrp⟩ := h5
  rcases x_lt fu a (n := (Pl P c0 100).k) (by omega) with ⟨j, q1, rfl, q3, q4, q5⟩ | ⟨q1, q2⟩
  · have hin : inR (nI j) 12 := in_i (by omega) (by decide)
    rw [if_neg q3, if_pos (show nI j < U.2.1 by rw [e2]; exact q4), if_pos hin, ez, q5, Option.bind_some, if_neg (show ¬ (1 : Int32) = 0 by decide), if_pos hin]
    refine ⟨U.2.2.2.2.2.2.2.2.2.1 (nI j).toNatClampNeg, U, W, rfl, Or.inr ⟨h2, hp⟩, ?_⟩
    rw [er, ep, aN_at _ (by omega), aN_at _ (by omega), hrp j q1, hA.2.1 j q1, ← ez, ← ep]
  · rw [ez, q2, Option.bind_some, if_pos rfl]
    have hu : (if a < 0 then some ((-1 : Int32), U.1, U.2.1, U.2.2.1, U.2.2.2.1, U.2.2.2.2.1, U.2.2.2.2.2.1, U.2.2.2.2.2.2.1, U.2.2.2.2.2.2.2.1, U.2.2.2.2.2.2.2.2.1, U.2.2.2.2.2.2.2.2.2.1, U.2.2.2.2.2.2.2.2.2.2.1, U.2.2.2.2.2.2.2.2.2.2.2.1, U.2.2.2.2.2.2.2.2.2.2.2.2.1, U.2.2.2.2.2.2.2.2.2.2.2.2.2.1, U.2.2.2.2.2.2.2.2.2.2.2.2.2.2.1, U.2.2.2.2.2.2.2.2.2.2.2.2.2.2.2) else (if a < U.2.1 then (if inR a 12 then some ((U.2.2.2.2.2.2.2.2.2.1 a.toNatClampNeg), U.1, U.2.1, U.2.2.1, U.2.2.2.1, U.2.2.2.2.1, U.2.2.2.2.2.1, U.2.2.2.2.2.2.1, U.2.2.2.2.2.2.2.1, U.2.2.2.2.2.2.2.2.1, U.2.2.2.2.2.2.2.2.2.1, U.2.2.2.2.2.2.2.2.2.2.1, U.2.2.2.2.2.2.2.2.2.2.2.1, U.2.2.2.2.2.2.2.2.2.2.2.2.1, U.2.2.2.2.2.2.2.2.2.2.2.2.2.1, U.2.2.2.2.2.2.2.2.2.2.2.2.2.2.1, U.2.2.2.2.2.2.2.2.2.2.2.2.2.2.2) else none) else some ((-1 : Int32), U.1, U.2.1, U.2.2.1, U.2.2.2.1, U.2.2.2.2.1, U.2.2.2.2.2.1, U.2.2.2.2.2.2.1, U.2.2.2.2.2.2.2.1, U.2.2.2.2.2.2.2.2.1, U.2.2.2.2.2.2.2.2.2.1, U.2.2.2.2.2.2.2.2.2.2.1, U.2.2.2.2.2.2.2.2.2.2.2.1, U.2.2.2.2.2.2.2.2.2.2.2.2.1, U.2.2.2.2.2.2.2.2.2.2.2.2.2.1, U.2.2.2.2.2.2.2.2.2.2.2.2.2.2.1, U.2.2.2.2.2.2.2.2.2.2.2.2.2.2.2))) = some (-1, U) := by
      rcases q1 with q | ⟨q, w⟩
      · rw [if_pos q]
      · rw [if_neg q, e2, if_neg w, ← e2]
    exact ⟨-1, U, W, hu, Or.inr ⟨h2, hp⟩, by rw [← ez]⟩
theorem x_after (fu : Nat) {P : PG} {c0 : Nat → Nat} (hP : okP P) (hc : ∀ j, j < 8 → c0 j < 256) (hf : 200 < fu) {lf : Nat → Int32} {T : M16} (h : SO P c0 lf T) (lc lo : Int32) (Z : Z16) (a : Int32) : ∃ (v : Int32) (U : M16) (W : Z16), f_X6_after fu T.1 (nI P.1) (aN P.2.1) (aN P.2.2.1) (aN P.2.2.2) (aN c0) T.2.1 T.2.2.1 T.2.2.2.1 T.2.2.2.2.1 T.2.2.2.2.2.1 T.2.2.2.2.2.2.1 T.2.2.2.2.2.2.2.1 T.2.2.2.2.2.2.2.2.1 T.2.2.2.2.2.2.2.2.2.1 T.2.2.2.2.2.2.2.2.2.2.1 T.2.2.2.2.2.2.2.2.2.2.2.1 T.2.2.2.2.2.2.2.2.2.2.2.2.1 T.2.2.2.2.2.2.2.2.2.2.2.2.2.1 T.2.2.2.2.2.2.2.2.2.2.2.2.2.2.1 T.2.2.2.2.2.2.2.2.2.2.2.2.2.2.2 a = some (v, U) ∧ SO P c0 lf U ∧ f_X7_after fu (nI P.1) Z.1 Z.2.1 Z.2.2.1 Z.2.2.2.1 Z.2.2.2.2.1 Z.2.2.2.2.2.1 Z.2.2.2.2.2.2.1 Z.2.2.2.2.2.2.2.1 Z.2.2.2.2.2.2.2.2.1 lc lo Z.2.2.2.2.2.2.2.2.2.1 Z.2.2.2.2.2.2.2.2.2.2.1 Z.2.2.2.2.2.2.2.2.2.2.2.1 Z.2.2.2.2.2.2.2.2.2.2.2.2.1 (aN P.2.1) (aN P.2.2.1) (aN P.2.2.2) (aN c0) Z.2.2.2.2.2.2.2.2.2.2.2.2.2.1 Z.2.2.2.2.2.2.2.2.2.2.2.2.2.2.1 Z.2.2.2.2.2.2.2.2.2.2.2.2.2.2.2 a = some (v, W) := by
  unfold f_X6_after f_X7_after
  rcases x_cell fu a with ⟨c, hcc, rfl, q1, q2⟩ | ⟨q1, q2⟩
  · obtain ⟨U, h1, h2, h3⟩ := c_plain fu hP hc hf h
    obtain ⟨W, h4, h5, -⟩ := z_plain fu hP hc hf lc lo Z
    have hin : inR (nI c) 8 := in_i (by omega) (by decide)
    rw [q1, q2, Option.bind_some, Option.bind_some, if_neg (show ¬ (1 : Int32) = 0 by decide), if_neg (show ¬ (1 : Int32) = 0 by decide), h1, Option.bind_some, h4, Option.bind_some, if_pos hin, if_pos hin]
    refine ⟨U.2.2.2.2.2.2.2.2.1 (nI c).toNatClampNeg, U, W, rfl, Or.inr ⟨h2, h3⟩, ?_⟩
    obtain ⟨g, r, A, w0, -, -, -, eg, -, -, -, -, -, -, hA, -⟩ := h3
    obtain ⟨-, -, -, ⟨gz, ez, hz⟩, -⟩ := h5
    rw [eg, ez, aN_at _ (by omega), aN_at _ (by omega), hz c hcc, hA.1 c hcc, ← ez]
  · rw [q1, q2, Option.bind_some, Option.bind_some, if_pos rfl, if_pos rfl]
    exact ⟨-101, T, Z, rfl, h, rfl⟩
