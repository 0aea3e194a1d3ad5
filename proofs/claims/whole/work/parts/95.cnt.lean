/-! COUNT -/
theorem x_search (fu : Nat) {P : PG} {c0 : Nat → Nat} (hP : okP P) (hc : ∀ j, j < 8 → c0 j < 256) (hf : 200 < fu) {lf : Nat → Int32} {T : M16} (h : SO P c0 lf T) {s m w : Nat} (hs : s ≤ 60) (hm : m ≤ 4) (hw : w = 1 ∨ w = 2) (lc lo : Int32) (Z : Z16) : ∃ (v : Int32) (U : M16) (W : Z16), f_X6_refusalOfSearch fu T.1 (nI s) (nI P.1) (aN P.2.1) (aN P.2.2.1) (aN P.2.2.2) (aN c0) T.2.1 T.2.2.1 T.2.2.2.1 T.2.2.2.2.1 T.2.2.2.2.2.1 T.2.2.2.2.2.2.1 T.2.2.2.2.2.2.2.1 T.2.2.2.2.2.2.2.2.1 T.2.2.2.2.2.2.2.2.2.1 T.2.2.2.2.2.2.2.2.2.2.1 T.2.2.2.2.2.2.2.2.2.2.2.1 T.2.2.2.2.2.2.2.2.2.2.2.2.1 T.2.2.2.2.2.2.2.2.2.2.2.2.2.1 T.2.2.2.2.2.2.2.2.2.2.2.2.2.2.1 T.2.2.2.2.2.2.2.2.2.2.2.2.2.2.2 (nI m) = some (v, U) ∧ U.1 = 0 ∧ PO P c0 lf U ∧
    ((¬ v = 0 ∧ f_X7_shut fu (nI P.1) (nI s) Z.1 Z.2.1 Z.2.2.1 Z.2.2.2.1 Z.2.2.2.2.1 Z.2.2.2.2.2.1 Z.2.2.2.2.2.2.1 Z.2.2.2.2.2.2.2.1 Z.2.2.2.2.2.2.2.2.1 lc lo Z.2.2.2.2.2.2.2.2.2.1 Z.2.2.2.2.2.2.2.2.2.2.1 Z.2.2.2.2.2.2.2.2.2.2.2.1 Z.2.2.2.2.2.2.2.2.2.2.2.2.1 (aN P.2.1) (aN P.2.2.1) (aN P.2.2.2) (aN c0) Z.2.2.2.2.2.2.2.2.2.2.2.2.2.1 Z.2.2.2.2.2.2.2.2.2.2.2.2.2.2.1 Z.2.2.2.2.2.2.2.2.2.2.2.2.2.2.2 (nI w) (nI m) = some (v, nI s, W)) ∨ (v = 0 ∧ s + m ≤ 60 ∧ (Pl P c0 100).e = 0 ∧ ZP P c0 W ∧ f_X7_shut fu (nI P.1) (nI s) Z.1 Z.2.1 Z.2.2.1 Z.2.2.2.1 Z.2.2.2.2.1 Z.2.2.2.2.2.1 Z.2.2.2.2.2.2.1 Z.2.2.2.2.2.2.2.1 Z.2.2.2.2.2.2.2.2.1 lc lo Z.2.2.2.2.2.2.2.2.2.1 Z.2.2.2.2.2.2.2.2.2.2.1 Z.2.2.2.2.2.2.2.2.2.2.2.1 Z.2.2.2.2.2.2.2.2.2.2.2.2.1 (aN P.2.1) (aN P.2.2.1) (aN P.2.2.2) (aN c0) Z.2.2.2.2.2.2.2.2.2.2.2.2.2.1 Z.2.2.2.2.2.2.2.2.2.2.2.2.2.2.1 Z.2.2.2.2.2.2.2.2.2.2.2.2.2.2.2 (nI w) (nI m) = some (v, nI (s + m), W))) := by
  obtain ⟨U, h1, h2, h3⟩ := c_plain fu hP hc hf h
  obtain ⟨W, h4, h5, -⟩ := z_plain fu hP hc hf lc lo Z
  have hp := h3
  obtain ⟨g, r, A, w0, -, -, e5, -⟩ := h3
  have hin : f_X7_in fu (nI w) 1 2 = some 1 := by rcases hw with rfl | rfl <;> rfl
  unfold f_X6_refusalOfSearch f_X7_shut
  rw [h1, Option.bind_some, hin, Option.bind_some, if_neg (show ¬ (1 : Int32) = 0 by decide), h4, Option.bind_some, nI_add]
  by_cases q : (Pl P c0 100).e = 0
  · rw [if_pos (show U.2.2.2.2.1 = 0 by rw [e5, q]; rfl), if_pos (show W.2.2.2.2.2.2.2.2.2.2.1 = 1 by rw [h5.1, q]; rfl)]
    by_cases q2 : s + m ≤ 60
    · rw [if_pos (show nI (s + m) ≤ (60 : Int32) from nI_le (b := 60) q2 (by decide)), if_pos (show nI (s + m) ≤ (60 : Int32) from nI_le (b := 60) q2 (by decide))]
      exact ⟨0, U, W, rfl, h2, hp, Or.inr ⟨rfl, q2, q, h5, rfl⟩⟩
    · rw [if_neg (show ¬ nI (s + m) ≤ (60 : Int32) from nI_ge (a := 60) (b := s + m) (by omega) (by omega)), if_neg (show ¬ nI (s + m) ≤ (60 : Int32) from nI_ge (a := 60) (b := s + m) (by omega) (by omega))]
      exact ⟨-104, U, W, rfl, h2, hp, Or.inl ⟨by decide, rfl⟩⟩
  · have a1 : ¬ U.2.2.2.2.1 = 0 := by
      rw [e5]
      rcases e3_of fu hP hc hf with z | z | z
      · exact absurd z q
      · rw [z]; decide
      · rw [z]; decide
    have a2 : ¬ W.2.2.2.2.2.2.2.2.2.2.1 = 1 := by
      rw [h5.1]
      rcases e3_of fu hP hc hf with z | z | z
      · exact absurd z q
      · rw [z]; decide
      · rw [z]; decide
    rw [if_neg a1, if_neg a2]
    exact ⟨-103, U, W, rfl, h2, hp, Or.inl ⟨by decide, rfl⟩⟩
theorem c_try (fu : Nat) {P : PG} {c0 : Nat → Nat} (hP : okP P) (hc : ∀ j, j < 8 → c0 j < 256) (hf : 200 < fu) {lf : Nat → Int32} {U : M16} (h0 : U.1 = 0) (h : PO P c0 lf U) {w : Nat} (hw : w = 1 ∨ w = 2) (K : K9) : ∃ (J : K9) (f : Nat → Nat), f_X2_tryAll fu (nI P.1) (aN P.2.1) (aN P.2.2.1) (aN P.2.2.2) U.2.1 U.2.2.2.1 U.2.2.2.2.2.2.2.2.2.1 U.2.2.2.2.2.2.2.2.2.2.1 U.2.2.2.2.2.2.2.2.2.2.2.1 U.2.2.2.2.2.2.2.2.2.2.2.2.1 U.2.2.2.2.2.2.2.2.2.2.2.2.2.1 U.2.2.2.2.2.2.2.2.2.2.2.2.2.2.1 U.2.2.2.2.2.2.2.2.2.2.2.2.2.2.2 K.1 K.2.1 K.2.2.1 K.2.2.2.1 K.2.2.2.2.1 K.2.2.2.2.2.1 K.2.2.2.2.2.2.1 K.2.2.2.2.2.2.2.1 K.2.2.2.2.2.2.2.2 lf (nI w) = some (nI w, J.1, J.2.1, J.2.2.1, J.2.2.2.1, J.2.2.2.2.1, J.2.2.2.2.2.1, J.2.2.2.2.2.2.1, J.2.2.2.2.2.2.2.1, J.2.2.2.2.2.2.2.2, aN f) ∧ FO P c0 w f ∧ SO P c0 (aN f) (U.1, U.2.1, U.2.2.1, U.2.2.2.1, U.2.2.2.2.1, U.2.2.2.2.2.1, U.2.2.2.2.2.2.1, U.2.2.2.2.2.2.2.1, U.2.2.2.2.2.2.2.2.1, U.2.2.2.2.2.2.2.2.2.1, U.2.2.2.2.2.2.2.2.2.2.1, U.2.2.2.2.2.2.2.2.2.2.2.1, U.2.2.2.2.2.2.2.2.2.2.2.2.1, U.2.2.2.2.2.2.2.2.2.2.2.2.2.1, U.2.2.2.2.2.2.2.2.2.2.2.2.2.2.1, nI w) ∧ U.2.2.2.1 = nI (Tk P c0) := by
  obtain ⟨g, r, A, w0, e2, e4, e5, eg, er, a1, a2, a3, a4, a5, hA, e16, hw0, hlf⟩ := h
  obtain ⟨kg, k1⟩ := aN_all K.2.2.2.2.2.2.2.1
  obtain ⟨kr, k2⟩ := aN_all K.2.2.2.2.2.2.2.2
  obtain ⟨f0, hf0, hF0⟩ : ∃ f0, lf = aN f0 ∧ (w0 = 0 ∨ FO P c0 w0 f0) := by
    rcases hlf with q | ⟨f, q1, q2⟩
    · obtain ⟨f, q2⟩ := aN_all lf
      exact ⟨f, q2, Or.inl q⟩
    · exact ⟨f, q1, Or.inr q2⟩
  obtain ⟨y1, y2, y3, y4, y5, y6, y7, gk2, rk2, f2, hT, hFO⟩ := c_tryAll fu hP hc hf hA hw hw0 f0 hF0 K.1 K.2.1 K.2.2.1 K.2.2.2.1 K.2.2.2.2.1 K.2.2.2.2.2.1 K.2.2.2.2.2.2.1 kg kr
  refine ⟨(y1, y2, y3, y4, y5, y6, y7, aN gk2, aN rk2), f2, ?_, hFO, Or.inr ⟨h0, g, r, A, w, e2, e4, e5, eg, er, a1, a2, a3, a4, a5, hA, rfl, by omega, Or.inr ⟨f2, rfl, hFO⟩⟩, e4⟩
  rw [e2, e4, er, a1, a2, a3, a4, a5, e16, k1, k2, hf0]
  exact hT
abbrev K13b : Type := Int32 → Int32 → Int32 → Int32 → Int32 → Int32 → Int32 → Int32 → Int32 → Int32 → (Nat → Int32) → (Nat → Int32) → Int32 → Option (Int32 × Int32 × Z16)
theorem z_cntC (fu : Nat) {P : PG} {c0 : Nat → Nat} (hP : okP P) (hc : ∀ j, j < 8 → c0 j < 256) (hf : 200 < fu) (he : (Pl P c0 100).e = 0) {rp : Nat → Nat} (hrp : ∀ j, j < (Pl P c0 100).k → rp j = (Pl P c0 100).r j) {kc : Nat → Nat} (hk : ∀ j, j < 8 → kc j < 4) {w C kd : Nat} (hw : w = 1 ∨ w = 2) (hC : C ≤ 8) (hkd : kd < 6) (lc lo : Int32) (k96 : K13b) : ∀ (m n i : Nat) (X : Z12), i + m = 8 → m < n →
    ∃ Y : Z12, fr_X7_count_47 fu (nI P.1) lc lo (aN P.2.1) (aN P.2.2.1) (aN P.2.2.2) (aN c0) (aN kc) (nI (Tk P c0)) (nI (Pl P c0 100).k) (aN rp) (nI C) (nI w) (nI kd) k96 n X.1 X.2.1 X.2.2.1 X.2.2.2.1 X.2.2.2.2.1 X.2.2.2.2.2.1 X.2.2.2.2.2.2.1 X.2.2.2.2.2.2.2.1 X.2.2.2.2.2.2.2.2.1 X.2.2.2.2.2.2.2.2.2.1 X.2.2.2.2.2.2.2.2.2.2.1 X.2.2.2.2.2.2.2.2.2.2.2 (nI (fb_sm (fun i => if C = 8 ∨ C = i then CT P c0 w i (kc i) kd else 0) i)) (nI i) = k96 Y.1 Y.2.1 Y.2.2.1 Y.2.2.2.1 Y.2.2.2.2.1 Y.2.2.2.2.2.1 Y.2.2.2.2.2.2.1 Y.2.2.2.2.2.2.2.1 Y.2.2.2.2.2.2.2.2.1 Y.2.2.2.2.2.2.2.2.2.1 Y.2.2.2.2.2.2.2.2.2.2.1 Y.2.2.2.2.2.2.2.2.2.2.2 (nI (fb_sm (fun i => if C = 8 ∨ C = i then CT P c0 w i (kc i) kd else 0) 8)) := by
  intro m
  induction m with
  | zero =>
    intro n i X hi hn
    obtain ⟨n, rfl⟩ : ∃ z, n = z + 1 := ⟨n - 1, by omega⟩
    refine ⟨X, ?_⟩
    rw [fr_X7_count_47, if_pos (show (8 : Int32) ≤ nI i from nI_le (a := 8) (by omega) (by omega)), show i = 8 by omega]
  | succ m ih =>
    intro n i X hi hn
    obtain ⟨n, rfl⟩ : ∃ z, n = z + 1 := ⟨n - 1, by omega⟩
    have hin : inR (nI i) 8 := in_i (by omega) (by decide)
    rw [fr_X7_count_47, if_neg (show ¬ (8 : Int32) ≤ nI i from nI_ge (b := 8) (by omega) (by decide))]
    obtain ⟨Y, h1⟩ := z_counted fu hP hc hf he hrp (c := i) (by omega) hw (hk i (by omega)) hkd lc lo X
    rw [if_pos hin, aN_at _ (by omega), h1, Option.bind_some, nI_1, nI_add]
    have e8 : nI C = (8 : Int32) ↔ C = 8 := nI_eq (b := 8) (by omega) (by decide)
    have ei : nI C = nI i ↔ C = i := nI_eq (by omega) (by omega)
    by_cases q : C = 8
    · obtain ⟨Y2, h2⟩ := ih n (i + 1) Y (by omega) (by omega)
      rw [fb_sm_succ, if_pos (Or.inl q)] at h2
      rw [if_pos (e8.mpr q)]
      exact ⟨Y2, h2⟩
    · rw [if_neg (fun z => q (e8.mp z))]
      by_cases q2 : C = i
      · obtain ⟨Y2, h2⟩ := ih n (i + 1) Y (by omega) (by omega)
        rw [fb_sm_succ, if_pos (Or.inr q2)] at h2
        rw [if_pos (ei.mpr q2)]
        exact ⟨Y2, h2⟩
      · obtain ⟨Y2, h2⟩ := ih n (i + 1) X (by omega) (by omega)
        rw [fb_sm_succ, if_neg (fun z => z.elim q q2)] at h2
        rw [if_neg (fun z => q2 (ei.mp z)), show (0 : Int32) = nI 0 from rfl, nI_add]
        exact ⟨Y2, h2⟩
theorem cnt_eq {P : PG} {c0 kc : Nat → Nat} {w C kd : Nat} (hC : C ≤ 8) : fb_ct (fun x => decide (C = 8 ∨ C = x / 8 % 8) && decide (x % 8 + w ≤ 8 ∧ KX P c0 w (kc (x / 8 % 8)) x = kd)) (64 * Tk P c0) = fb_sm (fun i => if C = 8 ∨ C = i then CT P c0 w i (kc i) kd else 0) 8 := by
  by_cases q : C = 8
  · rw [fb_sm_cong (g := fun i => CT P c0 w i (kc i) kd) (fun i _ => if_pos (Or.inl q)), ← CT_all]
    refine fb_ct_cong (fun x _ => ?_)
    rw [decide_eq_true (Or.inl q : C = 8 ∨ C = x / 8 % 8), Bool.true_and]
  · rw [fb_sm_cong (g := fun i => if i = C then CT P c0 w C (kc C) kd else 0) (fun i _ => by
      by_cases z : i = C
      · subst z; rw [if_pos (Or.inr rfl), if_pos rfl]
      · rw [if_neg (fun y => y.elim q (fun y => z y.symm)), if_neg z]), sm_one _ (by omega)]
    unfold CT
    refine fb_ct_cong (fun x _ => ?_)
    by_cases z : x / 8 % 8 = C
    · rw [decide_eq_true (Or.inr z.symm : C = 8 ∨ C = x / 8 % 8), decide_eq_true z, z]
    · rw [decide_eq_false (show ¬ (C = 8 ∨ C = x / 8 % 8) from fun y => y.elim q (fun y => z y.symm)), decide_eq_false z]; rfl
/-- behind the cell's own test -/
theorem x_count2 (fu : Nat) {P : PG} {c0 : Nat → Nat} (hP : okP P) (hc : ∀ j, j < 8 → c0 j < 256) (hf : 200 < fu) {lf : Nat → Int32} {T : M16} (h : SO P c0 lf T) {kc : Nat → Nat} (hk : ∀ j, j < 8 → kc j < 4) {s : Nat} (hs : s ≤ 60) (hF : 70000 < fu) (K : K9) (lc lo : Int32) (Z : Z16) {C : Nat} (hC : C ≤ 8) (a1 a2 : Int32) : ∃ (v : Int32) (U : M16) (J : K9) (lf2 : Nat → Int32) (s2 : Nat) (W : Z16), fr_X6_count_16 fu (nI P.1) (aN P.2.1) (aN P.2.2.1) (aN P.2.2.2) (aN c0) (aN kc) T.1 (nI s) T.2.1 T.2.2.1 T.2.2.2.1 T.2.2.2.2.1 T.2.2.2.2.2.1 T.2.2.2.2.2.2.1 T.2.2.2.2.2.2.2.1 T.2.2.2.2.2.2.2.2.1 T.2.2.2.2.2.2.2.2.2.1 T.2.2.2.2.2.2.2.2.2.2.1 T.2.2.2.2.2.2.2.2.2.2.2.1 T.2.2.2.2.2.2.2.2.2.2.2.2.1 T.2.2.2.2.2.2.2.2.2.2.2.2.2.1 T.2.2.2.2.2.2.2.2.2.2.2.2.2.2.1 T.2.2.2.2.2.2.2.2.2.2.2.2.2.2.2 K.1 K.2.1 K.2.2.1 K.2.2.2.1 K.2.2.2.2.1 K.2.2.2.2.2.1 K.2.2.2.2.2.2.1 K.2.2.2.2.2.2.2.1 K.2.2.2.2.2.2.2.2 lf (nI C) a1 a2 = some (v, U.1, nI s2, U.2.1, U.2.2.1, U.2.2.2.1, U.2.2.2.2.1, U.2.2.2.2.2.1, U.2.2.2.2.2.2.1, U.2.2.2.2.2.2.2.1, U.2.2.2.2.2.2.2.2.1, U.2.2.2.2.2.2.2.2.2.1, U.2.2.2.2.2.2.2.2.2.2.1, U.2.2.2.2.2.2.2.2.2.2.2.1, U.2.2.2.2.2.2.2.2.2.2.2.2.1, U.2.2.2.2.2.2.2.2.2.2.2.2.2.1, U.2.2.2.2.2.2.2.2.2.2.2.2.2.2.1, U.2.2.2.2.2.2.2.2.2.2.2.2.2.2.2, J.1, J.2.1, J.2.2.1, J.2.2.2.1, J.2.2.2.2.1, J.2.2.2.2.2.1, J.2.2.2.2.2.2.1, J.2.2.2.2.2.2.2.1, J.2.2.2.2.2.2.2.2, lf2) ∧ SO P c0 lf2 U ∧ s2 ≤ 60 ∧ f_X7_count fu (nI P.1) (nI s) Z.1 Z.2.1 Z.2.2.1 Z.2.2.2.1 Z.2.2.2.2.1 Z.2.2.2.2.2.1 Z.2.2.2.2.2.2.1 Z.2.2.2.2.2.2.2.1 Z.2.2.2.2.2.2.2.2.1 lc lo Z.2.2.2.2.2.2.2.2.2.1 Z.2.2.2.2.2.2.2.2.2.2.1 Z.2.2.2.2.2.2.2.2.2.2.2.1 Z.2.2.2.2.2.2.2.2.2.2.2.2.1 (aN P.2.1) (aN P.2.2.1) (aN P.2.2.2) (aN c0) (aN kc) Z.2.2.2.2.2.2.2.2.2.2.2.2.2.1 Z.2.2.2.2.2.2.2.2.2.2.2.2.2.2.1 Z.2.2.2.2.2.2.2.2.2.2.2.2.2.2.2 (nI C) a1 a2 = some (v, nI s2, W) := by
  unfold fr_X6_count_16 f_X7_count
  have h8 : f_X7_in fu (nI C) 0 8 = some 1 := by
    rcases x_le fu (nI C) (m := 8) (by decide) with ⟨j, q1, q2, q3, q4, q5⟩ | ⟨q1, q2⟩
    · exact q5
    · exfalso
      rcases q1 with q | ⟨-, q⟩
      · exact nI_pos (by omega) q
      · exact q (nI_le hC (by decide))
  rw [h8, Option.bind_some, if_neg (show ¬ (1 : Int32) = 0 by decide)]
  rcases x_wide fu a1 with ⟨w, hw, rfl, q3, q4⟩ | ⟨q3, q4⟩
  · rw [q3, Option.bind_some, if_neg (show ¬ (1 : Int32) = 0 by decide)]
    rcases x_le fu a2 (m := 5) (by decide) with ⟨kd, p1, rfl, p3, p4, p5⟩ | ⟨p1, p2⟩
    · rw [if_neg p3, if_pos (show nI kd < (6 : Int32) from nI_lt (b := 6) (by omega) (by decide)), show (5 : Int32) = nI 5 from rfl, p5, Option.bind_some, if_neg (show ¬ (1 : Int32) = 0 by decide)]
      obtain ⟨v, U, W, h1, h2, h3, h4⟩ := x_search fu hP hc hf h (m := 1) hs (by decide) hw lc lo Z
      rw [show (1 : Int32) = nI 1 from rfl, h1, Option.bind_some]
      dsimp only
      rcases h4 with ⟨hv, h4⟩ | ⟨rfl, hs2, he, hz, h4⟩
      · rw [h4, Option.bind_some, if_neg hv]
        dsimp only
        rw [if_neg hv]
        exact ⟨v, U, K, lf, s, W, rfl, Or.inr ⟨h2, h3⟩, hs, rfl⟩
      · obtain ⟨J, f, i1, i2, i3, i4⟩ := c_try fu hP hc hf h2 h3 hw K
        rw [if_pos rfl, i1, Option.bind_some, h4, Option.bind_some, if_pos rfl]
        dsimp only
        have hT := Tk_le P c0
        obtain ⟨-, z2, z3, -, rp, z5, z6⟩ := hz
        obtain ⟨Y, j1⟩ := z_cntC fu hP hc hf he z6 hk hw hC (show kd < 6 by omega) lc lo (fun x1 x2 x3 x4 x5 x6 x7 x8 x9 x10 x11 x12 y => some (y, nI (s + 1), x1, x2, x3, x4, x5, x6, x7, x8, x9, x10, W.2.2.2.2.2.2.2.2.2.2.1, W.2.2.2.2.2.2.2.2.2.2.2.1, W.2.2.2.2.2.2.2.2.2.2.2.2.1, x11, x12, W.2.2.2.2.2.2.2.2.2.2.2.2.2.2.2)) 8 fu 0 (W.1, W.2.1, W.2.2.1, W.2.2.2.1, W.2.2.2.2.1, W.2.2.2.2.2.1, W.2.2.2.2.2.2.1, W.2.2.2.2.2.2.2.1, W.2.2.2.2.2.2.2.2.1, W.2.2.2.2.2.2.2.2.2.1, W.2.2.2.2.2.2.2.2.2.2.2.2.2.1, W.2.2.2.2.2.2.2.2.2.2.2.2.2.2.1) rfl (by omega)
        rw [← z2, ← z3, ← z5, ← cnt_eq hC] at j1
        have j2 := c_countL fu hP hc hf hk hw hC (show kd < 6 by omega) i2 (fun y => some (y, U.1, nI (s + 1), U.2.1, U.2.2.1, U.2.2.2.1, U.2.2.2.2.1, U.2.2.2.2.2.1, U.2.2.2.2.2.2.1, U.2.2.2.2.2.2.2.1, U.2.2.2.2.2.2.2.2.1, U.2.2.2.2.2.2.2.2.2.1, U.2.2.2.2.2.2.2.2.2.2.1, U.2.2.2.2.2.2.2.2.2.2.2.1, U.2.2.2.2.2.2.2.2.2.2.2.2.1, U.2.2.2.2.2.2.2.2.2.2.2.2.2.1, U.2.2.2.2.2.2.2.2.2.2.2.2.2.2.1, nI w, J.1, J.2.1, J.2.2.1, J.2.2.2.1, J.2.2.2.2.1, J.2.2.2.2.2.1, J.2.2.2.2.2.2.1, J.2.2.2.2.2.2.2.1, J.2.2.2.2.2.2.2.2, aN f)) (64 * Tk P c0) fu 0 (by omega) (by omega)
        rw [← i4] at j2
        refine ⟨_, (U.1, U.2.1, U.2.2.1, U.2.2.2.1, U.2.2.2.2.1, U.2.2.2.2.2.1, U.2.2.2.2.2.2.1, U.2.2.2.2.2.2.2.1, U.2.2.2.2.2.2.2.2.1, U.2.2.2.2.2.2.2.2.2.1, U.2.2.2.2.2.2.2.2.2.2.1, U.2.2.2.2.2.2.2.2.2.2.2.1, U.2.2.2.2.2.2.2.2.2.2.2.2.1, U.2.2.2.2.2.2.2.2.2.2.2.2.2.1, U.2.2.2.2.2.2.2.2.2.2.2.2.2.2.1, nI w), J, aN f, s + 1, _, ?_, i3, by omega, j1⟩
        rw [nI_add]
        exact j2
    · rw [show (5 : Int32) = nI 5 from rfl, p2, Option.bind_some, if_pos rfl]
      refine ⟨-102, T, K, lf, s, Z, ?_, h, hs, rfl⟩
      rcases p1 with z | ⟨z, y⟩
      · rw [if_pos z]
      · obtain ⟨j, hj, rfl⟩ := nI_e z
        rw [if_neg z, if_neg (show ¬ nI j < (6 : Int32) from nI_nlt (a := j) (b := 6) (by
          rcases Nat.lt_or_ge j 6 with u | u
          · exact absurd (nI_le (show j ≤ 5 by omega) (by decide)) y
          · exact u) hj)]
  · rw [q3, Option.bind_some, if_pos rfl]
    refine ⟨-102, T, K, lf, s, Z, rfl, h, hs, ?_⟩
    rcases x_le fu a2 (m := 5) (by decide) with ⟨kd, p1, rfl, p3, p4, p5⟩ | ⟨p1, p2⟩
    · rw [show (5 : Int32) = nI 5 from rfl, p5, Option.bind_some, if_neg (show ¬ (1 : Int32) = 0 by decide)]
      unfold f_X7_shut
      rw [q4, Option.bind_some, if_pos rfl, Option.bind_some]
      dsimp only
      rw [if_neg (show ¬ (-102 : Int32) = 0 by decide)]
    · rw [show (5 : Int32) = nI 5 from rfl, p2, Option.bind_some, if_pos rfl]
theorem x_count (fu : Nat) {P : PG} {c0 : Nat → Nat} (hP : okP P) (hc : ∀ j, j < 8 → c0 j < 256) (hf : 200 < fu) {lf : Nat → Int32} {T : M16} (h : SO P c0 lf T) {kc : Nat → Nat} (hk : ∀ j, j < 8 → kc j < 4) {s : Nat} (hs : s ≤ 60) (hF : 70000 < fu) (K : K9) (lc lo : Int32) (Z : Z16) (a0 a1 a2 : Int32) : ∃ (v : Int32) (U : M16) (J : K9) (lf2 : Nat → Int32) (s2 : Nat) (W : Z16), f_X6_count fu T.1 (nI s) (nI P.1) (aN P.2.1) (aN P.2.2.1) (aN P.2.2.2) (aN c0) (aN kc) T.2.1 T.2.2.1 T.2.2.2.1 T.2.2.2.2.1 T.2.2.2.2.2.1 T.2.2.2.2.2.2.1 T.2.2.2.2.2.2.2.1 T.2.2.2.2.2.2.2.2.1 T.2.2.2.2.2.2.2.2.2.1 T.2.2.2.2.2.2.2.2.2.2.1 T.2.2.2.2.2.2.2.2.2.2.2.1 T.2.2.2.2.2.2.2.2.2.2.2.2.1 T.2.2.2.2.2.2.2.2.2.2.2.2.2.1 T.2.2.2.2.2.2.2.2.2.2.2.2.2.2.1 T.2.2.2.2.2.2.2.2.2.2.2.2.2.2.2 K.1 K.2.1 K.2.2.1 K.2.2.2.1 K.2.2.2.2.1 K.2.2.2.2.2.1 K.2.2.2.2.2.2.1 K.2.2.2.2.2.2.2.1 K.2.2.2.2.2.2.2.2 lf a0 a1 a2 = some (v, U.1, nI s2, U.2.1, U.2.2.1, U.2.2.2.1, U.2.2.2.2.1, U.2.2.2.2.2.1, U.2.2.2.2.2.2.1, U.2.2.2.2.2.2.2.1, U.2.2.2.2.2.2.2.2.1, U.2.2.2.2.2.2.2.2.2.1, U.2.2.2.2.2.2.2.2.2.2.1, U.2.2.2.2.2.2.2.2.2.2.2.1, U.2.2.2.2.2.2.2.2.2.2.2.2.1, U.2.2.2.2.2.2.2.2.2.2.2.2.2.1, U.2.2.2.2.2.2.2.2.2.2.2.2.2.2.1, U.2.2.2.2.2.2.2.2.2.2.2.2.2.2.2, J.1, J.2.1, J.2.2.1, J.2.2.2.1, J.2.2.2.2.1, J.2.2.2.2.2.1, J.2.2.2.2.2.2.1, J.2.2.2.2.2.2.2.1, J.2.2.2.2.2.2.2.2, lf2) ∧ SO P c0 lf2 U ∧ s2 ≤ 60 ∧ f_X7_count fu (nI P.1) (nI s) Z.1 Z.2.1 Z.2.2.1 Z.2.2.2.1 Z.2.2.2.2.1 Z.2.2.2.2.2.1 Z.2.2.2.2.2.2.1 Z.2.2.2.2.2.2.2.1 Z.2.2.2.2.2.2.2.2.1 lc lo Z.2.2.2.2.2.2.2.2.2.1 Z.2.2.2.2.2.2.2.2.2.2.1 Z.2.2.2.2.2.2.2.2.2.2.2.1 Z.2.2.2.2.2.2.2.2.2.2.2.2.1 (aN P.2.1) (aN P.2.2.1) (aN P.2.2.2) (aN c0) (aN kc) Z.2.2.2.2.2.2.2.2.2.2.2.2.2.1 Z.2.2.2.2.2.2.2.2.2.2.2.2.2.2.1 Z.2.2.2.2.2.2.2.2.2.2.2.2.2.2.2 a0 a1 a2 = some (v, nI s2, W) := by
  unfold f_X6_count
  rcases x_cell fu a0 with ⟨c, hcc, rfl, q1, q2⟩ | ⟨q1, q2⟩
  · rw [q1, Option.bind_some, if_neg (show ¬ (1 : Int32) = 0 by decide)]
    exact x_count2 fu hP hc hf h hk hs hF K lc lo Z (Nat.le_of_lt hcc) a1 a2
  · rw [q1, Option.bind_some, if_pos rfl]
    by_cases q : a0 = 8
    · rw [if_pos q, q]
      exact x_count2 fu hP hc hf h hk hs hF K lc lo Z (C := 8) (Nat.le_refl 8) a1 a2
    · rw [if_neg q]
      refine ⟨-101, T, K, lf, s, Z, rfl, h, hs, ?_⟩
      unfold f_X7_count
      rcases x_le fu a0 (m := 8) (by decide) with ⟨j, p1, rfl, p3, p4, p5⟩ | ⟨p1, p2⟩
      · exfalso
        rcases Nat.lt_or_ge j 8 with u | u
        · unfold f_X6_isCell at q1
          rw [if_neg p3, if_neg (show ¬ (8 : Int32) ≤ nI j from nI_ge (b := 8) u (by decide))] at q1
          exact absurd (Option.some.inj q1) (by decide)
        · exact q (by rw [show j = 8 by omega]; rfl)
      · rw [show (8 : Int32) = nI 8 from rfl, p2, Option.bind_some, if_pos rfl]
