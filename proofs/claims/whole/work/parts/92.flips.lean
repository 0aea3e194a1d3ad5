/-! DEAD, FLIP, HARM, LASTS -/
theorem x_tick (fu : Nat) {P : PG} {c0 : Nat → Nat} (hP : okP P) (hc : ∀ j, j < 8 → c0 j < 256) (hf : 200 < fu) {lf : Nat → Int32} {T : M16} (h : SO P c0 lf T) (a : Int32) : ∃ (v : Int32) (U : M16), f_X6_refusalOfTick fu T.1 (nI P.1) (aN P.2.1) (aN P.2.2.1) (aN P.2.2.2) (aN c0) T.2.1 T.2.2.1 T.2.2.2.1 T.2.2.2.2.1 T.2.2.2.2.2.1 T.2.2.2.2.2.2.1 T.2.2.2.2.2.2.2.1 T.2.2.2.2.2.2.2.2.1 T.2.2.2.2.2.2.2.2.2.1 T.2.2.2.2.2.2.2.2.2.2.1 T.2.2.2.2.2.2.2.2.2.2.2.1 T.2.2.2.2.2.2.2.2.2.2.2.2.1 T.2.2.2.2.2.2.2.2.2.2.2.2.2.1 T.2.2.2.2.2.2.2.2.2.2.2.2.2.2.1 T.2.2.2.2.2.2.2.2.2.2.2.2.2.2.2 a = some (v, U) ∧ U.1 = 0 ∧ PO P c0 lf U ∧
    (∀ W : Z16, ZP P c0 W → (v = -103 ∧ ¬ W.2.2.2.2.2.2.2.2.2.2.1 = 1) ∨ (W.2.2.2.2.2.2.2.2.2.2.1 = 1 ∧ v = -102 ∧ f_X7_in fu a 0 (W.2.2.2.2.2.2.2.2.2.2.2.1 - 1) = some 0) ∨ (W.2.2.2.2.2.2.2.2.2.2.1 = 1 ∧ v = 0 ∧ f_X7_in fu a 0 (W.2.2.2.2.2.2.2.2.2.2.2.1 - 1) = some 1 ∧ (Pl P c0 100).e = 0 ∧ ∃ t, t < Tk P c0 ∧ a = nI t)) := by
  obtain ⟨U, h1, h2, h3⟩ := c_plain fu hP hc hf h
  have hT := Tk_le P c0
  have hp := h3
  obtain ⟨g, r, A, w0, -, e4, e5, -⟩ := h3
  unfold f_X6_refusalOfTick
  rw [h1, Option.bind_some]
  by_cases q : (Pl P c0 100).e = 0
  · have e11 : ∀ W : Z16, ZP P c0 W → W.2.2.2.2.2.2.2.2.2.2.1 = 1 := fun W hW => by rw [hW.1, q]; rfl
    rw [if_pos (show U.2.2.2.2.1 = 0 by rw [e5, q]; rfl)]
    rcases x_lt fu a (n := Tk P c0) (by omega) with ⟨j, q1, rfl, q3, q4, q5⟩ | ⟨q1, q2⟩
    · rw [if_neg q3, if_pos (show nI j < U.2.2.2.1 by rw [e4]; exact q4)]
      exact ⟨0, U, rfl, h2, hp, fun W hW => Or.inr (Or.inr ⟨e11 W hW, rfl, by rw [hW.2.1]; exact q5, q, j, q1, rfl⟩)⟩
    · refine ⟨-102, U, ?_, h2, hp, fun W hW => Or.inr (Or.inl ⟨e11 W hW, rfl, by rw [hW.2.1]; exact q2⟩)⟩
      rcases q1 with w | ⟨w, z⟩
      · rw [if_pos w]
      · rw [if_neg w, if_neg (show ¬ a < U.2.2.2.1 by rw [e4]; exact z)]
  · have e11 : ∀ W : Z16, ZP P c0 W → ¬ W.2.2.2.2.2.2.2.2.2.2.1 = 1 := fun W hW => by
      rw [hW.1]
      rcases e3_of fu hP hc hf with z | z | z
      · exact absurd z q
      · rw [z]; decide
      · rw [z]; decide
    rw [if_neg (show ¬ U.2.2.2.2.1 = 0 by
      rw [e5]
      rcases e3_of fu hP hc hf with z | z | z
      · exact absurd z q
      · rw [z]; decide
      · rw [z]; decide)]
    exact ⟨-103, U, rfl, h2, hp, fun W hW => Or.inl ⟨rfl, e11 W hW⟩⟩
abbrev Z18 : Type := Int32 × Int32 × Int32 × Int32 × Int32 × Int32 × Int32 × Int32 × Int32 × Int32 × Int32 × Int32 × Int32 × Int32 × Int32 × (Nat → Int32) × (Nat → Int32) × (Nat → Int32)
theorem x_dead (fu : Nat) {P : PG} {c0 : Nat → Nat} (hP : okP P) (hc : ∀ j, j < 8 → c0 j < 256) (hf : 200 < fu) {lf : Nat → Int32} {T : M16} (h : SO P c0 lf T) (lc lo : Int32) (Z : Z16) (a b : Int32) : ∃ (v : Int32) (U : M16) (W : Z18), f_X6_dead fu T.1 (nI P.1) (aN P.2.1) (aN P.2.2.1) (aN P.2.2.2) (aN c0) T.2.1 T.2.2.1 T.2.2.2.1 T.2.2.2.2.1 T.2.2.2.2.2.1 T.2.2.2.2.2.2.1 T.2.2.2.2.2.2.2.1 T.2.2.2.2.2.2.2.2.1 T.2.2.2.2.2.2.2.2.2.1 T.2.2.2.2.2.2.2.2.2.2.1 T.2.2.2.2.2.2.2.2.2.2.2.1 T.2.2.2.2.2.2.2.2.2.2.2.2.1 T.2.2.2.2.2.2.2.2.2.2.2.2.2.1 T.2.2.2.2.2.2.2.2.2.2.2.2.2.2.1 T.2.2.2.2.2.2.2.2.2.2.2.2.2.2.2 a b = some (v, U) ∧ SO P c0 lf U ∧ f_X7_dead fu (nI P.1) Z.1 Z.2.1 Z.2.2.1 Z.2.2.2.1 Z.2.2.2.2.1 Z.2.2.2.2.2.1 Z.2.2.2.2.2.2.1 Z.2.2.2.2.2.2.2.1 Z.2.2.2.2.2.2.2.2.1 lc lo Z.2.2.2.2.2.2.2.2.2.1 Z.2.2.2.2.2.2.2.2.2.2.1 Z.2.2.2.2.2.2.2.2.2.2.2.1 Z.2.2.2.2.2.2.2.2.2.2.2.2.1 (aN P.2.1) (aN P.2.2.1) (aN P.2.2.2) (aN c0) Z.2.2.2.2.2.2.2.2.2.2.2.2.2.1 Z.2.2.2.2.2.2.2.2.2.2.2.2.2.2.1 Z.2.2.2.2.2.2.2.2.2.2.2.2.2.2.2 a b = some (v, W) := by
  unfold f_X6_dead f_X7_dead
  rcases x_cell fu a with ⟨c, hcc, rfl, q1, q2⟩ | ⟨q1, q2⟩
  · obtain ⟨v, U, h1, h2, h3, h6⟩ := x_tick fu hP hc hf h b
    obtain ⟨W, h4, h5, -⟩ := z_plain fu hP hc hf lc lo Z
    rw [q1, q2, Option.bind_some, Option.bind_some, if_neg (show ¬ (1 : Int32) = 0 by decide), if_neg (show ¬ (1 : Int32) = 0 by decide), h1, Option.bind_some, h4, Option.bind_some]
    dsimp only
    rcases h6 W h5 with ⟨rfl, w2⟩ | ⟨w1, rfl, w2⟩ | ⟨w1, rfl, w2, he, t, ht, rfl⟩
    · rw [if_neg (show ¬ (-103 : Int32) = 0 by decide), if_neg w2]
      exact ⟨-103, U, _, rfl, Or.inr ⟨h2, h3⟩, rfl⟩
    · rw [if_neg (show ¬ (-102 : Int32) = 0 by decide), if_pos w1, w2, Option.bind_some, if_pos rfl]
      exact ⟨-102, U, _, rfl, Or.inr ⟨h2, h3⟩, rfl⟩
    · obtain ⟨W2, i4, i5, i6⟩ := z_plain fu hP hc hf (nI c) (nI t) W
      have hp := h3
      have hn := nu_in P c0 (c := c) (Nat.le_of_lt ht)
      have hT := Tk_le P c0
      obtain ⟨g, r, A, w0, -, e4, -, -, -, -, -, -, er, ew, hA, -⟩ := h3
      rw [if_pos rfl, e4, er, ew, c_nextUse fu hP hc hf hA hcc (Nat.le_of_lt ht), Option.bind_some, c_isRead fu hP hc hf hA hcc (by omega), Option.bind_some, if_pos w1, w2, Option.bind_some, if_neg (show ¬ (1 : Int32) = 0 by decide), i4, Option.bind_some, ← e4, ← er, ← ew]
      have i7 := i6 c t hcc ht rfl rfl
      by_cases z : isR P c0 c t
      · rw [if_pos (show nu P c0 c t < Tk P c0 ∧ rdS P (Pl P c0 (nu P c0 c t)) c from z), if_neg (show ¬ (1 : Int32) = 0 by decide), if_pos (i7.mpr z)]
        exact ⟨0, U, _, rfl, Or.inr ⟨h2, hp⟩, rfl⟩
      · rw [if_neg (show ¬ (nu P c0 c t < Tk P c0 ∧ rdS P (Pl P c0 (nu P c0 c t)) c) from z), if_pos rfl, if_neg (fun y => z (i7.mp y))]
        exact ⟨1, U, _, rfl, Or.inr ⟨h2, hp⟩, rfl⟩
  · rw [q1, q2, Option.bind_some, Option.bind_some, if_pos rfl, if_pos rfl]
    exact ⟨-101, T, _, rfl, h, rfl⟩
theorem x_barred (fu : Nat) {P : PG} {c0 : Nat → Nat} (hP : okP P) (hc : ∀ j, j < 8 → c0 j < 256) (hf : 200 < fu) {lf : Nat → Int32} {T : M16} (h : SO P c0 lf T) (lc lo : Int32) (Z : Z16) (a0 a1 a2 a3 : Int32) : ∃ (v : Int32) (U : M16) (W : Z16), f_X6_refusalOfFlip fu T.1 (nI P.1) (aN P.2.1) (aN P.2.2.1) (aN P.2.2.2) (aN c0) T.2.1 T.2.2.1 T.2.2.2.1 T.2.2.2.2.1 T.2.2.2.2.2.1 T.2.2.2.2.2.2.1 T.2.2.2.2.2.2.2.1 T.2.2.2.2.2.2.2.2.1 T.2.2.2.2.2.2.2.2.2.1 T.2.2.2.2.2.2.2.2.2.2.1 T.2.2.2.2.2.2.2.2.2.2.2.1 T.2.2.2.2.2.2.2.2.2.2.2.2.1 T.2.2.2.2.2.2.2.2.2.2.2.2.2.1 T.2.2.2.2.2.2.2.2.2.2.2.2.2.2.1 T.2.2.2.2.2.2.2.2.2.2.2.2.2.2.2 a0 a1 a2 a3 = some (v, U) ∧ SO P c0 lf U ∧ f_X7_barred fu (nI P.1) Z.1 Z.2.1 Z.2.2.1 Z.2.2.2.1 Z.2.2.2.2.1 Z.2.2.2.2.2.1 Z.2.2.2.2.2.2.1 Z.2.2.2.2.2.2.2.1 Z.2.2.2.2.2.2.2.2.1 lc lo Z.2.2.2.2.2.2.2.2.2.1 Z.2.2.2.2.2.2.2.2.2.2.1 Z.2.2.2.2.2.2.2.2.2.2.2.1 Z.2.2.2.2.2.2.2.2.2.2.2.2.1 (aN P.2.1) (aN P.2.2.1) (aN P.2.2.2) (aN c0) Z.2.2.2.2.2.2.2.2.2.2.2.2.2.1 Z.2.2.2.2.2.2.2.2.2.2.2.2.2.2.1 Z.2.2.2.2.2.2.2.2.2.2.2.2.2.2.2 a0 a1 a2 a3 = some (v, W) ∧
    (¬ v = 0 ∨ (v = 0 ∧ PO P c0 lf U ∧ ZP P c0 W ∧ (Pl P c0 100).e = 0 ∧ ∃ c k w t, c < 8 ∧ (w = 1 ∨ w = 2) ∧ k + w ≤ 8 ∧ t < Tk P c0 ∧ a0 = nI c ∧ a1 = nI k ∧ a2 = nI w ∧ a3 = nI t)) := by
  unfold f_X6_refusalOfFlip f_X7_barred
  rcases x_cell fu a0 with ⟨c, hcc, rfl, q1, q2⟩ | ⟨q1, q2⟩
  · rw [q1, q2, Option.bind_some, Option.bind_some, if_neg (show ¬ (1 : Int32) = 0 by decide), if_neg (show ¬ (1 : Int32) = 0 by decide)]
    rcases x_wide fu a2 with ⟨w, hw, rfl, q3, q4⟩ | ⟨q3, q4⟩
    · have e8 : (8 : Int32) - nI w = nI (8 - w) := pk_sub (a := 8) (b := w) (by omega)
      rw [q3, q4, Option.bind_some, Option.bind_some, if_neg (show ¬ (1 : Int32) = 0 by decide), if_neg (show ¬ (1 : Int32) = 0 by decide), e8]
      rcases x_le fu a1 (m := 8 - w) (by omega) with ⟨k, p1, rfl, p3, p4, p5⟩ | ⟨p1, p2⟩
      · rw [if_neg p3, if_pos p4, p5, Option.bind_some, if_neg (show ¬ (1 : Int32) = 0 by decide)]
        obtain ⟨v, U, h1, h2, h3, h6⟩ := x_tick fu hP hc hf h a3
        obtain ⟨W, h4, h5, -⟩ := z_plain fu hP hc hf lc lo Z
        rw [h1, Option.bind_some, h4, Option.bind_some]
        rcases h6 W h5 with ⟨rfl, w2⟩ | ⟨w1, rfl, w2⟩ | ⟨w1, rfl, w2, he, t, ht, rfl⟩
        · rw [if_neg w2]
          exact ⟨-103, U, W, rfl, Or.inr ⟨h2, h3⟩, rfl, Or.inl (by decide)⟩
        · rw [if_pos w1, w2, Option.bind_some, if_pos rfl]
          exact ⟨-102, U, W, rfl, Or.inr ⟨h2, h3⟩, rfl, Or.inl (by decide)⟩
        · rw [if_pos w1, w2, Option.bind_some, if_neg (show ¬ (1 : Int32) = 0 by decide)]
          exact ⟨0, U, W, rfl, Or.inr ⟨h2, h3⟩, rfl, Or.inr ⟨rfl, h3, h5, he, c, k, w, t, hcc, hw, by omega, ht, rfl, rfl, rfl, rfl⟩⟩
      · rw [p2, Option.bind_some, if_pos rfl]
        refine ⟨-102, T, Z, ?_, h, rfl, Or.inl (by decide)⟩
        rcases p1 with z | ⟨z, y⟩
        · rw [if_pos z]
        · rw [if_neg z, if_neg y]
    · rw [q3, q4, Option.bind_some, Option.bind_some, if_pos rfl, if_pos rfl]
      exact ⟨-102, T, Z, rfl, h, rfl, Or.inl (by decide)⟩
  · rw [q1, q2, Option.bind_some, Option.bind_some, if_pos rfl, if_pos rfl]
    exact ⟨-101, T, Z, rfl, h, rfl, Or.inl (by decide)⟩
abbrev K9 : Type := Int32 × Int32 × Int32 × Int32 × Int32 × Int32 × Int32 × (Nat → Int32) × (Nat → Int32)
theorem fl_b {P : PG} {c0 : Nat → Nat} (hP : okP P) (hc : ∀ j, j < 8 → c0 j < 256) {c k w t : Nat} (hcc : c < 8) (hw : w = 1 ∨ w = 2) (hk : k + w ≤ 8) : Qa P c0 c (fm w k) t < 6 ∧ Qs P c0 c (fm w k) t < 2 ∧ Qh P c0 c (fm w k) t < 16 ∧ Qt P c0 c (fm w k) t < 2 ^ 20 := by
  have h1 := Qh_b (t := t) hP hc hcc (fm_lt w (by omega) k (by omega) hk)
  have h2 := Qt_b P c0 c (fm w k) t
  exact ⟨Qa_b P c0 c (fm w k) t, Qs_b P c0 c (fm w k) t, by omega, by omega⟩
theorem x_flip (fu : Nat) {P : PG} {c0 : Nat → Nat} (hP : okP P) (hc : ∀ j, j < 8 → c0 j < 256) (hf : 200 < fu) {lf : Nat → Int32} {T : M16} (h : SO P c0 lf T) {kc : Nat → Nat} (hk : ∀ j, j < 8 → kc j < 4) (K : K9) (lc lo : Int32) (Z : Z16) (a0 a1 a2 a3 : Int32) : ∃ (v : Int32) (U : M16) (J : K9) (W : Z16), f_X6_flip fu T.1 (nI P.1) (aN P.2.1) (aN P.2.2.1) (aN P.2.2.2) (aN c0) (aN kc) T.2.1 T.2.2.1 T.2.2.2.1 T.2.2.2.2.1 T.2.2.2.2.2.1 T.2.2.2.2.2.2.1 T.2.2.2.2.2.2.2.1 T.2.2.2.2.2.2.2.2.1 T.2.2.2.2.2.2.2.2.2.1 T.2.2.2.2.2.2.2.2.2.2.1 T.2.2.2.2.2.2.2.2.2.2.2.1 T.2.2.2.2.2.2.2.2.2.2.2.2.1 T.2.2.2.2.2.2.2.2.2.2.2.2.2.1 T.2.2.2.2.2.2.2.2.2.2.2.2.2.2.1 T.2.2.2.2.2.2.2.2.2.2.2.2.2.2.2 K.1 K.2.1 K.2.2.1 K.2.2.2.1 K.2.2.2.2.1 K.2.2.2.2.2.1 K.2.2.2.2.2.2.1 K.2.2.2.2.2.2.2.1 K.2.2.2.2.2.2.2.2 a0 a1 a2 a3 = some (v, U.1, U.2.1, U.2.2.1, U.2.2.2.1, U.2.2.2.2.1, U.2.2.2.2.2.1, U.2.2.2.2.2.2.1, U.2.2.2.2.2.2.2.1, U.2.2.2.2.2.2.2.2.1, U.2.2.2.2.2.2.2.2.2.1, U.2.2.2.2.2.2.2.2.2.2.1, U.2.2.2.2.2.2.2.2.2.2.2.1, U.2.2.2.2.2.2.2.2.2.2.2.2.1, U.2.2.2.2.2.2.2.2.2.2.2.2.2.1, U.2.2.2.2.2.2.2.2.2.2.2.2.2.2.1, U.2.2.2.2.2.2.2.2.2.2.2.2.2.2.2, J) ∧ SO P c0 lf U ∧ f_X7_flip fu (nI P.1) Z.1 Z.2.1 Z.2.2.1 Z.2.2.2.1 Z.2.2.2.2.1 Z.2.2.2.2.2.1 Z.2.2.2.2.2.2.1 Z.2.2.2.2.2.2.2.1 Z.2.2.2.2.2.2.2.2.1 lc lo Z.2.2.2.2.2.2.2.2.2.1 Z.2.2.2.2.2.2.2.2.2.2.1 Z.2.2.2.2.2.2.2.2.2.2.2.1 Z.2.2.2.2.2.2.2.2.2.2.2.2.1 (aN P.2.1) (aN P.2.2.1) (aN P.2.2.2) (aN c0) (aN kc) Z.2.2.2.2.2.2.2.2.2.2.2.2.2.1 Z.2.2.2.2.2.2.2.2.2.2.2.2.2.2.1 Z.2.2.2.2.2.2.2.2.2.2.2.2.2.2.2 a0 a1 a2 a3 = some (v, W) := by
  obtain ⟨v, U, W, h1, h2, h3, h4⟩ := x_barred fu hP hc hf h lc lo Z a0 a1 a2 a3
  unfold f_X6_flip f_X7_flip
  rw [h1, Option.bind_some, h3, Option.bind_some]
  dsimp only
  rcases h4 with hv | ⟨rfl, hp, hz, he, c, k, w, t, hcc, hw, hkw, ht, rfl, rfl, rfl, rfl⟩
  · rw [if_neg hv, if_neg hv]; exact ⟨v, U, K, W, rfl, h2, rfl⟩
  · obtain ⟨g, r, A, w0, e2, e4, -, -, er, a1, a2, a3, a4, a5, hA, -⟩ := hp
    obtain ⟨-, -, z3, -, rp, z5, z6⟩ := hz
    obtain ⟨kg, k1⟩ := aN_all K.2.2.2.2.2.2.2.1
    obtain ⟨kr, k2⟩ := aN_all K.2.2.2.2.2.2.2.2
    obtain ⟨zg, z7⟩ := aN_all W.2.2.2.2.2.2.2.2.2.2.2.2.2.1
    obtain ⟨zr, z8⟩ := aN_all W.2.2.2.2.2.2.2.2.2.2.2.2.2.2.1
    obtain ⟨y1, y2, y3, y4, y5, y6, y7, gk2, rk2, hF⟩ := c_fateOf fu hP hc hf hA hcc hw hkw ht K.1 K.2.1 K.2.2.1 K.2.2.2.1 K.2.2.2.2.1 K.2.2.2.2.2.1 K.2.2.2.2.2.2.1 kg kr
    obtain ⟨b1, b2, b3, b4⟩ := fl_b (t := t) hP hc hcc hw hkw
    have hin : inR (nI c) 8 := in_i (by omega) (by decide)
    obtain ⟨d1, d2, d3, d4, d5, d6, d7, d8, d9, dg, dr, hK, -⟩ := z_kind fu hP hc hf he z6 hcc hw hkw (hk c hcc) ht W.1 W.2.1 W.2.2.1 W.2.2.2.1 W.2.2.2.2.1 W.2.2.2.2.2.1 W.2.2.2.2.2.2.1 W.2.2.2.2.2.2.2.1 W.2.2.2.2.2.2.2.2.1 lc lo W.2.2.2.2.2.2.2.2.2.1 zg zr
    have hF2 : f_X2_fateOf fu (nI P.1) (aN P.2.1) (aN P.2.2.1) (aN P.2.2.2) U.2.1 U.2.2.2.1 U.2.2.2.2.2.2.2.2.2.1 U.2.2.2.2.2.2.2.2.2.2.1 U.2.2.2.2.2.2.2.2.2.2.2.1 U.2.2.2.2.2.2.2.2.2.2.2.2.1 U.2.2.2.2.2.2.2.2.2.2.2.2.2.1 U.2.2.2.2.2.2.2.2.2.2.2.2.2.2.1 K.1 K.2.1 K.2.2.1 K.2.2.2.1 K.2.2.2.2.1 K.2.2.2.2.2.1 K.2.2.2.2.2.2.1 K.2.2.2.2.2.2.2.1 K.2.2.2.2.2.2.2.2 (nI c) (nI k) (nI w) (nI t) = some (nI (Qf P c0 c (fm w k) t), y1, y2, y3, y4, y5, y6, y7, aN gk2, aN rk2) := by rw [e2, e4, er, a1, a2, a3, a4, a5, k1, k2]; exact hF
    have hK2 : f_X7_kindOf fu (nI P.1) W.1 W.2.1 W.2.2.1 W.2.2.2.1 W.2.2.2.2.1 W.2.2.2.2.2.1 W.2.2.2.2.2.2.1 W.2.2.2.2.2.2.2.1 W.2.2.2.2.2.2.2.2.1 lc lo W.2.2.2.2.2.2.2.2.2.1 W.2.2.2.2.2.2.2.2.2.2.2.2.1 (aN P.2.1) (aN P.2.2.1) (aN P.2.2.2) (aN c0) W.2.2.2.2.2.2.2.2.2.2.2.2.2.1 W.2.2.2.2.2.2.2.2.2.2.2.2.2.2.1 W.2.2.2.2.2.2.2.2.2.2.2.2.2.2.2 (nI c) (nI k) (nI w) (nI t) (aN kc (nI c).toNatClampNeg) = some (nI (KD P c0 c k w t (kc c)), nI (LD P c0 c k w t (kc c)), d1, d2, d3, d4, d5, d6, d7, d8, d9, aN dg, aN dr) := by rw [z3, z5, z7, z8, aN_at _ (by omega)]; exact hK
    rw [if_pos rfl, if_pos rfl, hF2, Option.bind_some, if_pos hin, if_pos hin, aN_at _ (by omega), l_kindU fu (by omega) b2 b3 b4 (hk c hcc) (by omega), Option.bind_some, ← aN_at kc (i := c) (by omega), hK2, Option.bind_some]
    exact ⟨_, U, _, _, rfl, h2, rfl⟩
theorem x_harm (fu : Nat) {P : PG} {c0 : Nat → Nat} (hP : okP P) (hc : ∀ j, j < 8 → c0 j < 256) (hf : 200 < fu) {lf : Nat → Int32} {T : M16} (h : SO P c0 lf T) {kc : Nat → Nat} (hk : ∀ j, j < 8 → kc j < 4) (K : K9) (lc lo : Int32) (Z : Z16) (a0 a1 a2 a3 : Int32) : ∃ (v : Int32) (U : M16) (J : K9) (W : Z16), f_X6_harm fu T.1 (nI P.1) (aN P.2.1) (aN P.2.2.1) (aN P.2.2.2) (aN c0) (aN kc) T.2.1 T.2.2.1 T.2.2.2.1 T.2.2.2.2.1 T.2.2.2.2.2.1 T.2.2.2.2.2.2.1 T.2.2.2.2.2.2.2.1 T.2.2.2.2.2.2.2.2.1 T.2.2.2.2.2.2.2.2.2.1 T.2.2.2.2.2.2.2.2.2.2.1 T.2.2.2.2.2.2.2.2.2.2.2.1 T.2.2.2.2.2.2.2.2.2.2.2.2.1 T.2.2.2.2.2.2.2.2.2.2.2.2.2.1 T.2.2.2.2.2.2.2.2.2.2.2.2.2.2.1 T.2.2.2.2.2.2.2.2.2.2.2.2.2.2.2 K.1 K.2.1 K.2.2.1 K.2.2.2.1 K.2.2.2.2.1 K.2.2.2.2.2.1 K.2.2.2.2.2.2.1 K.2.2.2.2.2.2.2.1 K.2.2.2.2.2.2.2.2 a0 a1 a2 a3 = some (v, U.1, U.2.1, U.2.2.1, U.2.2.2.1, U.2.2.2.2.1, U.2.2.2.2.2.1, U.2.2.2.2.2.2.1, U.2.2.2.2.2.2.2.1, U.2.2.2.2.2.2.2.2.1, U.2.2.2.2.2.2.2.2.2.1, U.2.2.2.2.2.2.2.2.2.2.1, U.2.2.2.2.2.2.2.2.2.2.2.1, U.2.2.2.2.2.2.2.2.2.2.2.2.1, U.2.2.2.2.2.2.2.2.2.2.2.2.2.1, U.2.2.2.2.2.2.2.2.2.2.2.2.2.2.1, U.2.2.2.2.2.2.2.2.2.2.2.2.2.2.2, J) ∧ SO P c0 lf U ∧ f_X7_harm fu (nI P.1) Z.1 Z.2.1 Z.2.2.1 Z.2.2.2.1 Z.2.2.2.2.1 Z.2.2.2.2.2.1 Z.2.2.2.2.2.2.1 Z.2.2.2.2.2.2.2.1 Z.2.2.2.2.2.2.2.2.1 lc lo Z.2.2.2.2.2.2.2.2.2.1 Z.2.2.2.2.2.2.2.2.2.2.1 Z.2.2.2.2.2.2.2.2.2.2.2.1 Z.2.2.2.2.2.2.2.2.2.2.2.2.1 (aN P.2.1) (aN P.2.2.1) (aN P.2.2.2) (aN c0) (aN kc) Z.2.2.2.2.2.2.2.2.2.2.2.2.2.1 Z.2.2.2.2.2.2.2.2.2.2.2.2.2.2.1 Z.2.2.2.2.2.2.2.2.2.2.2.2.2.2.2 a0 a1 a2 a3 = some (v, W) := by
  obtain ⟨v, U, W, h1, h2, h3, h4⟩ := x_barred fu hP hc hf h lc lo Z a0 a1 a2 a3
  unfold f_X6_harm f_X7_harm
  rw [h1, Option.bind_some, h3, Option.bind_some]
  dsimp only
  rcases h4 with hv | ⟨rfl, hp, hz, he, c, k, w, t, hcc, hw, hkw, ht, rfl, rfl, rfl, rfl⟩
  · rw [if_neg hv, if_neg hv]; exact ⟨v, U, K, W, rfl, h2, rfl⟩
  · obtain ⟨g, r, A, w0, e2, e4, -, -, er, a1, a2, a3, a4, a5, hA, -⟩ := hp
    obtain ⟨-, -, z3, -, rp, z5, z6⟩ := hz
    obtain ⟨kg, k1⟩ := aN_all K.2.2.2.2.2.2.2.1
    obtain ⟨kr, k2⟩ := aN_all K.2.2.2.2.2.2.2.2
    obtain ⟨zg, z7⟩ := aN_all W.2.2.2.2.2.2.2.2.2.2.2.2.2.1
    obtain ⟨zr, z8⟩ := aN_all W.2.2.2.2.2.2.2.2.2.2.2.2.2.2.1
    obtain ⟨y1, y2, y3, y4, y5, y6, y7, gk2, rk2, hF⟩ := c_fateOf fu hP hc hf hA hcc hw hkw ht K.1 K.2.1 K.2.2.1 K.2.2.2.1 K.2.2.2.2.1 K.2.2.2.2.2.1 K.2.2.2.2.2.2.1 kg kr
    obtain ⟨b1, b2, b3, b4⟩ := fl_b (t := t) hP hc hcc hw hkw
    have hin : inR (nI c) 8 := in_i (by omega) (by decide)
    obtain ⟨d1, d2, d3, d4, d5, d6, d7, d8, d9, dg, dr, hK, hH⟩ := z_kind fu hP hc hf he z6 hcc hw hkw (hk c hcc) ht W.1 W.2.1 W.2.2.1 W.2.2.2.1 W.2.2.2.2.1 W.2.2.2.2.2.1 W.2.2.2.2.2.2.1 W.2.2.2.2.2.2.2.1 W.2.2.2.2.2.2.2.2.1 lc lo W.2.2.2.2.2.2.2.2.2.1 zg zr
    have hF2 : f_X2_fateOf fu (nI P.1) (aN P.2.1) (aN P.2.2.1) (aN P.2.2.2) U.2.1 U.2.2.2.1 U.2.2.2.2.2.2.2.2.2.1 U.2.2.2.2.2.2.2.2.2.2.1 U.2.2.2.2.2.2.2.2.2.2.2.1 U.2.2.2.2.2.2.2.2.2.2.2.2.1 U.2.2.2.2.2.2.2.2.2.2.2.2.2.1 U.2.2.2.2.2.2.2.2.2.2.2.2.2.2.1 K.1 K.2.1 K.2.2.1 K.2.2.2.1 K.2.2.2.2.1 K.2.2.2.2.2.1 K.2.2.2.2.2.2.1 K.2.2.2.2.2.2.2.1 K.2.2.2.2.2.2.2.2 (nI c) (nI k) (nI w) (nI t) = some (nI (Qf P c0 c (fm w k) t), y1, y2, y3, y4, y5, y6, y7, aN gk2, aN rk2) := by rw [e2, e4, er, a1, a2, a3, a4, a5, k1, k2]; exact hF
    have hK2 : f_X7_kindOf fu (nI P.1) W.1 W.2.1 W.2.2.1 W.2.2.2.1 W.2.2.2.2.1 W.2.2.2.2.2.1 W.2.2.2.2.2.2.1 W.2.2.2.2.2.2.2.1 W.2.2.2.2.2.2.2.2.1 lc lo W.2.2.2.2.2.2.2.2.2.1 W.2.2.2.2.2.2.2.2.2.2.2.2.1 (aN P.2.1) (aN P.2.2.1) (aN P.2.2.2) (aN c0) W.2.2.2.2.2.2.2.2.2.2.2.2.2.1 W.2.2.2.2.2.2.2.2.2.2.2.2.2.2.1 W.2.2.2.2.2.2.2.2.2.2.2.2.2.2.2 (nI c) (nI k) (nI w) (nI t) (aN kc (nI c).toNatClampNeg) = some (nI (KD P c0 c k w t (kc c)), nI (LD P c0 c k w t (kc c)), d1, d2, d3, d4, d5, d6, d7, d8, d9, aN dg, aN dr) := by rw [z3, z5, z7, z8, aN_at _ (by omega)]; exact hK
    rw [if_pos rfl, if_pos rfl, hF2, Option.bind_some, if_pos hin, if_pos hin, aN_at _ (by omega), l_harmU fu b1 b2 b3 b4 (hk c hcc) (by omega), Option.bind_some, ← aN_at kc (i := c) (by omega), hK2, Option.bind_some]
    dsimp only
    have hb := KU_b (s := Qs P c0 c (fm w k) t) (so := kc c) (w := w) b1
    by_cases q : KD P c0 c k w t (kc c) = 5
    · have hH2 : f_X7_harmNow fu d2 W.2.2.2.2.2.2.2.2.2.2.2.2.1 (aN dr) W.2.2.2.2.2.2.2.2.2.2.2.2.2.2.2 = some (nI (HD P c0 c k w t (kc c))) := by rw [z3, z5]; exact hH q
      rw [if_pos (show nI (KD P c0 c k w t (kc c)) = 5 by rw [q]; rfl), hH2, Option.bind_some]
      exact ⟨_, U, _, _, rfl, h2, rfl⟩
    · rw [if_neg (show ¬ nI (KD P c0 c k w t (kc c)) = (5 : Int32) from fun z => q ((nI_eq (a := KD P c0 c k w t (kc c)) (b := 5) (by show KU _ _ _ _ < _; omega) (by decide)).mp z)), if_neg (show ¬ KU (Qa P c0 c (fm w k) t) (Qs P c0 c (fm w k) t) (kc c) w = 5 from q)]
      exact ⟨_, U, _, _, rfl, h2, rfl⟩
theorem x_lasts (fu : Nat) {P : PG} {c0 : Nat → Nat} (hP : okP P) (hc : ∀ j, j < 8 → c0 j < 256) (hf : 200 < fu) {lf : Nat → Int32} {T : M16} (h : SO P c0 lf T) {kc : Nat → Nat} (hk : ∀ j, j < 8 → kc j < 4) (K : K9) (lc lo : Int32) (Z : Z16) (a0 a1 a2 a3 : Int32) : ∃ (v : Int32) (U : M16) (J : K9) (W : Z16), f_X6_lasts fu T.1 (nI P.1) (aN P.2.1) (aN P.2.2.1) (aN P.2.2.2) (aN c0) (aN kc) T.2.1 T.2.2.1 T.2.2.2.1 T.2.2.2.2.1 T.2.2.2.2.2.1 T.2.2.2.2.2.2.1 T.2.2.2.2.2.2.2.1 T.2.2.2.2.2.2.2.2.1 T.2.2.2.2.2.2.2.2.2.1 T.2.2.2.2.2.2.2.2.2.2.1 T.2.2.2.2.2.2.2.2.2.2.2.1 T.2.2.2.2.2.2.2.2.2.2.2.2.1 T.2.2.2.2.2.2.2.2.2.2.2.2.2.1 T.2.2.2.2.2.2.2.2.2.2.2.2.2.2.1 T.2.2.2.2.2.2.2.2.2.2.2.2.2.2.2 K.1 K.2.1 K.2.2.1 K.2.2.2.1 K.2.2.2.2.1 K.2.2.2.2.2.1 K.2.2.2.2.2.2.1 K.2.2.2.2.2.2.2.1 K.2.2.2.2.2.2.2.2 a0 a1 a2 a3 = some (v, U.1, U.2.1, U.2.2.1, U.2.2.2.1, U.2.2.2.2.1, U.2.2.2.2.2.1, U.2.2.2.2.2.2.1, U.2.2.2.2.2.2.2.1, U.2.2.2.2.2.2.2.2.1, U.2.2.2.2.2.2.2.2.2.1, U.2.2.2.2.2.2.2.2.2.2.1, U.2.2.2.2.2.2.2.2.2.2.2.1, U.2.2.2.2.2.2.2.2.2.2.2.2.1, U.2.2.2.2.2.2.2.2.2.2.2.2.2.1, U.2.2.2.2.2.2.2.2.2.2.2.2.2.2.1, U.2.2.2.2.2.2.2.2.2.2.2.2.2.2.2, J) ∧ SO P c0 lf U ∧ f_X7_lasts fu (nI P.1) Z.1 Z.2.1 Z.2.2.1 Z.2.2.2.1 Z.2.2.2.2.1 Z.2.2.2.2.2.1 Z.2.2.2.2.2.2.1 Z.2.2.2.2.2.2.2.1 Z.2.2.2.2.2.2.2.2.1 lc lo Z.2.2.2.2.2.2.2.2.2.1 Z.2.2.2.2.2.2.2.2.2.2.1 Z.2.2.2.2.2.2.2.2.2.2.2.1 Z.2.2.2.2.2.2.2.2.2.2.2.2.1 (aN P.2.1) (aN P.2.2.1) (aN P.2.2.2) (aN c0) (aN kc) Z.2.2.2.2.2.2.2.2.2.2.2.2.2.1 Z.2.2.2.2.2.2.2.2.2.2.2.2.2.2.1 Z.2.2.2.2.2.2.2.2.2.2.2.2.2.2.2 a0 a1 a2 a3 = some (v, W) := by
  obtain ⟨v, U, W, h1, h2, h3, h4⟩ := x_barred fu hP hc hf h lc lo Z a0 a1 a2 a3
  unfold f_X6_lasts f_X7_lasts
  rw [h1, Option.bind_some, h3, Option.bind_some]
  dsimp only
  rcases h4 with hv | ⟨rfl, hp, hz, he, c, k, w, t, hcc, hw, hkw, ht, rfl, rfl, rfl, rfl⟩
  · rw [if_neg hv, if_neg hv]; exact ⟨v, U, K, W, rfl, h2, rfl⟩
  · obtain ⟨g, r, A, w0, e2, e4, -, -, er, a1, a2, a3, a4, a5, hA, -⟩ := hp
    obtain ⟨-, -, z3, -, rp, z5, z6⟩ := hz
    obtain ⟨kg, k1⟩ := aN_all K.2.2.2.2.2.2.2.1
    obtain ⟨kr, k2⟩ := aN_all K.2.2.2.2.2.2.2.2
    obtain ⟨zg, z7⟩ := aN_all W.2.2.2.2.2.2.2.2.2.2.2.2.2.1
    obtain ⟨zr, z8⟩ := aN_all W.2.2.2.2.2.2.2.2.2.2.2.2.2.2.1
    obtain ⟨y1, y2, y3, y4, y5, y6, y7, gk2, rk2, hF⟩ := c_fateOf fu hP hc hf hA hcc hw hkw ht K.1 K.2.1 K.2.2.1 K.2.2.2.1 K.2.2.2.2.1 K.2.2.2.2.2.1 K.2.2.2.2.2.2.1 kg kr
    obtain ⟨b1, b2, b3, b4⟩ := fl_b (t := t) hP hc hcc hw hkw
    have hin : inR (nI c) 8 := in_i (by omega) (by decide)
    obtain ⟨d1, d2, d3, d4, d5, d6, d7, d8, d9, dg, dr, hK, -⟩ := z_kind fu hP hc hf he z6 hcc hw hkw (hk c hcc) ht W.1 W.2.1 W.2.2.1 W.2.2.2.1 W.2.2.2.2.1 W.2.2.2.2.2.1 W.2.2.2.2.2.2.1 W.2.2.2.2.2.2.2.1 W.2.2.2.2.2.2.2.2.1 lc lo W.2.2.2.2.2.2.2.2.2.1 zg zr
    have hF2 : f_X2_fateOf fu (nI P.1) (aN P.2.1) (aN P.2.2.1) (aN P.2.2.2) U.2.1 U.2.2.2.1 U.2.2.2.2.2.2.2.2.2.1 U.2.2.2.2.2.2.2.2.2.2.1 U.2.2.2.2.2.2.2.2.2.2.2.1 U.2.2.2.2.2.2.2.2.2.2.2.2.1 U.2.2.2.2.2.2.2.2.2.2.2.2.2.1 U.2.2.2.2.2.2.2.2.2.2.2.2.2.2.1 K.1 K.2.1 K.2.2.1 K.2.2.2.1 K.2.2.2.2.1 K.2.2.2.2.2.1 K.2.2.2.2.2.2.1 K.2.2.2.2.2.2.2.1 K.2.2.2.2.2.2.2.2 (nI c) (nI k) (nI w) (nI t) = some (nI (Qf P c0 c (fm w k) t), y1, y2, y3, y4, y5, y6, y7, aN gk2, aN rk2) := by rw [e2, e4, er, a1, a2, a3, a4, a5, k1, k2]; exact hF
    have hK2 : f_X7_kindOf fu (nI P.1) W.1 W.2.1 W.2.2.1 W.2.2.2.1 W.2.2.2.2.1 W.2.2.2.2.2.1 W.2.2.2.2.2.2.1 W.2.2.2.2.2.2.2.1 W.2.2.2.2.2.2.2.2.1 lc lo W.2.2.2.2.2.2.2.2.2.1 W.2.2.2.2.2.2.2.2.2.2.2.2.1 (aN P.2.1) (aN P.2.2.1) (aN P.2.2.2) (aN c0) W.2.2.2.2.2.2.2.2.2.2.2.2.2.1 W.2.2.2.2.2.2.2.2.2.2.2.2.2.2.1 W.2.2.2.2.2.2.2.2.2.2.2.2.2.2.2 (nI c) (nI k) (nI w) (nI t) (aN kc (nI c).toNatClampNeg) = some (nI (KD P c0 c k w t (kc c)), nI (LD P c0 c k w t (kc c)), d1, d2, d3, d4, d5, d6, d7, d8, d9, aN dg, aN dr) := by rw [z3, z5, z7, z8, aN_at _ (by omega)]; exact hK
    have hN2 : f_X5_nextUse fu U.2.2.2.1 U.2.2.2.2.2.2.2.2.2.2.2.2.2.1 U.2.2.2.2.2.2.2.2.2.2.2.2.2.2.1 (nI c) (nI t) = some (nI (nu P c0 c t)) := by rw [e4, a4, a5]; exact c_nextUse fu hP hc hf hA hcc (Nat.le_of_lt ht)
    rw [if_pos rfl, if_pos rfl, hF2, Option.bind_some, if_pos hin, if_pos hin, aN_at _ (by omega), l_caughtR fu (by omega) (hk c hcc) (by omega), Option.bind_some, ← aN_at kc (i := c) (by omega), hK2, Option.bind_some, l_ticksOf fu (by omega) b2 b3 b4, hN2]
    by_cases q : lk (kc c) w ∧ ¬ Qa P c0 c (fm w k) t = 0
    · rw [if_pos q, if_neg (show ¬ (1 : Int32) = 0 by decide), Option.bind_some]
      refine ⟨nI (LD P c0 c k w t (kc c)) - nI t, U, (y1, y2, y3, y4, y5, y6, y7, aN gk2, aN rk2), _, ?_, h2, rfl⟩
      rw [LD, if_pos q, ← nI_1]
    · rw [if_neg q, if_pos rfl, Option.bind_some]
      refine ⟨nI (LD P c0 c k w t (kc c)) - nI t, U, (y1, y2, y3, y4, y5, y6, y7, aN gk2, aN rk2), _, ?_, h2, rfl⟩
      rw [LD, if_neg q]
