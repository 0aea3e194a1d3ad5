/-! THE REFERENCE'S RUN WITHOUT A FLIP, AND ITS HARM -/
/-- now[k] = cells[k] for all k -/
theorem l_cells (fu : Nat) (c0 : Nat → Nat) (y1 y2 y3 y4 y5 : Int32) (k30 : (Nat → Int32) → Option RESg) : ∀ (m n i : Nat) (g : Nat → Nat), i + m = 8 → m < n →
    ∃ g2, fr_X7_go_3 fu (aN c0) y1 y2 y3 y4 y5 k30 n (aN g) (nI i) = k30 (aN g2) ∧ (∀ j, j < i → g2 j = g j) ∧ (∀ j, i ≤ j → j < 8 → g2 j = c0 j) := by
  intro m
  induction m with
  | zero =>
    intro n i g hi hn
    obtain ⟨n, rfl⟩ : ∃ z, n = z + 1 := ⟨n - 1, by omega⟩
    refine ⟨g, ?_, fun _ _ => rfl, fun j h1 h2 => by omega⟩
    rw [fr_X7_go_3, if_pos (show (8 : Int32) ≤ nI i from nI_le (a := 8) (b := i) (by omega) (by omega))]
  | succ m ih =>
    intro n i g hi hn
    obtain ⟨n, rfl⟩ : ∃ z, n = z + 1 := ⟨n - 1, by omega⟩
    have hin : inR (nI i) 8 := in_i (by omega) (by decide)
    obtain ⟨g2, h1, h2, h3⟩ := ih n (i + 1) (va_up g i (c0 i)) (by omega) (by omega)
    refine ⟨g2, ?_, fun j hj => ?_, fun j hj hj2 => ?_⟩
    · rw [fr_X7_go_3, if_neg (show ¬ (8 : Int32) ≤ nI i from nI_ge (a := i) (b := 8) (by omega) (by decide)), if_pos hin, if_pos hin, aN_at _ (by omega), aN_up _ _ (by omega), nI_1]
      exact h1
    · rw [h2 j (by omega)]; exact up_n _ _ (by omega)
    · by_cases q : j = i
      · subst q; rw [h2 j (by omega)]; exact up_s _ _ _
      · exact h3 j (by omega) hj2
/-- go(): the loop from the start -/
theorem l_goG (fu : Nat) {P : PG} (c0 : Nat → Nat) (hf : 200 < fu) (lc lf x1 x2 x3 x4 x5 x6 x7 x8 x9 x10 a0 a1 a2 a3 a4 : Int32) (gm rm : Nat → Nat) :
    ∃ g2, (∀ j, j < 8 → g2 j = c0 j) ∧ f_X7_go fu (nI P.1) x1 x2 x3 x4 x5 x6 x7 x8 x9 lc lf x10 (aN P.2.1) (aN P.2.2.1) (aN P.2.2.2) (aN c0) (aN gm) (aN rm) a0 a1 a2 a3 a4
      = GL fu P lc lf a0 a2 a4 a1 a3 (fun e1 e2 e3 e4 e5 e6 e7 e8 e9 => fr_X7_go_197 fu e1 e2 e3 a0 a2 a4 e4 e5 e6 e7 e8 e9) fu (nI 0) (enI (S0 P g2 rm).e) (nI (S0 P g2 rm).k) 0 0 0 0 (aN (S0 P g2 rm).g) (aN (S0 P g2 rm).r) (nI 0) := by
  unfold f_X7_go
  obtain ⟨g2, h1, -, h3⟩ := l_cells fu c0 a0 a1 a2 a3 a4 (fun e3_30_zn => (fr_X7_go_84 fu (nI P.1) lc lf (aN P.2.1) (aN P.2.2.1) (aN P.2.2.2) a0 a2 a4 a0 a1 a3 (fun e1 e2 e3 e4 e5 e6 e7 e8 e9 => (fr_X7_go_197 fu e1 e2 e3 a0 a2 a4 e4 e5 e6 e7 e8 e9)) fu (0 : Int32) (1 : Int32) (0 : Int32) (0 : Int32) (0 : Int32) (0 : Int32) (0 : Int32) e3_30_zn (aN rm) (0 : Int32))) 8 fu 0 gm rfl (by omega)
  refine ⟨g2, fun j hj => h3 j (Nat.zero_le _) hj, h1.trans ?_⟩
  have e1 : enI (S0 P g2 rm).e = 1 := by
    show enI (if 0 < P.1 then 3 else 0) = 1
    by_cases q : 0 < P.1
    · rw [if_pos q]; rfl
    · rw [if_neg q]; rfl
  rw [e1]
  rfl
theorem S0_N {P : PG} (g r : Nat → Nat) : okN P (S0 P g r) (nI 0) := by
  show ((if 0 < P.1 then 3 else 0) = 3 → nI 0 = nI 0) ∧ ((if 0 < P.1 then 3 else 0) = 1 → nI 0 = -1) ∧ ((if 0 < P.1 then 3 else 0) = 0 → ¬ nI 0 < 0 ∧ nI P.1 ≤ nI 0)
  by_cases q : 0 < P.1
  · rw [if_pos q]; exact ⟨fun _ => rfl, fun z => absurd z (by decide), fun z => absurd z (by decide)⟩
  · rw [if_neg q, show P.1 = 0 by omega]; exact ⟨fun z => absurd z (by decide), fun z => absurd z (by decide), fun _ => ⟨by decide, by decide⟩⟩
/-- go() without a flip -/
theorem l_goP (fu : Nat) {P : PG} {c0 : Nat → Nat} (hP : okP P) (hc : ∀ j, j < 8 → c0 j < 256) (hf : 200 < fu) (lc lf x1 x2 x3 x4 x5 x6 x7 x8 x9 x10 y1 y3 y4 : Int32) (gm rm : Nat → Nat) :
    ∃ S : MS, sim S (S0 P c0 (fun _ => 0)) ∧ okS P S ∧
      f_X7_go fu (nI P.1) x1 x2 x3 x4 x5 x6 x7 x8 x9 lc lf x10 (aN P.2.1) (aN P.2.2.1) (aN P.2.2.2) (aN c0) (aN gm) (aN rm) (-1 : Int32) y1 y3 y4 (0 : Int32)
        = some (nI (Tk P c0), E4 (Pl P c0 100).e, nI (Pl P c0 100).k, -1, y3, 0, 0, 0, 0, uN P lc lf S 0 0 100, aN (qI P S 100).g, aN (qI P S 100).r) := by
  obtain ⟨g2, hg, h⟩ := l_goG fu (P := P) c0 hf lc lf x1 x2 x3 x4 x5 x6 x7 x8 x9 x10 (-1) y1 y3 y4 0 gm rm
  have hok : okS P (S0 P g2 rm) := S0_ok (fun j hj => by rw [hg j hj]; exact hc j hj)
  have hsim : sim (S0 P g2 rm) (S0 P c0 (fun _ => 0)) := ⟨hg, fun j hj => absurd hj (Nat.not_lt_zero j), rfl, rfl, rfl⟩
  refine ⟨S0 P g2 rm, hsim, hok, h.trans ?_⟩
  rw [g_un fu lc lf (-1) y3 0 y1 y4 _ hP 100 fu 0 (S0 P g2 rm) (nI 0) 0 0 rfl (by omega) hok (S0_N g2 rm) (fun _ _ _ => Or.inl rfl)]
  have hE := qI_sim hP 100 _ _ hok hsim
  rw [qT_sim hP 100 _ _ hok hsim, hE.2.2.1, hE.2.2.2.2, Nat.zero_add]
  unfold fr_X7_go_197
  by_cases q : E4 (qI P (S0 P c0 (fun _ => 0)) 100).e = 1
  · rw [if_pos q, if_pos rfl]
  · rw [if_neg q]
/-- harmNow() -/
theorem l_harmL (fu : Nat) {r1 r2 : Nat → Nat} {k1 k2 b : Nat} (h1 : k1 ≤ 12) (h2 : k2 ≤ 12) (hb : b ≤ 12) (hr1 : ∀ i, i < k1 → r1 i < 2 ^ 31) (hr2 : ∀ i, i < k2 → r2 i < 2 ^ 31) (k77 : Int32 → Option Int32) : ∀ (m n i s : Nat), i + m = b → m < n →
    fr_X7_harmNow_27 fu (nI k2) (nI k1) (aN r2) (aN r1) (nI b) k77 n (nI s) (nI i) = k77 (nI (s + fb_ct (fun j => decide (k1 ≤ i + j ∨ k2 ≤ i + j ∨ ¬ r1 (i + j) = r2 (i + j))) m)) := by
  intro m
  induction m with
  | zero =>
    intro n i s hi hn
    obtain ⟨n, rfl⟩ : ∃ z, n = z + 1 := ⟨n - 1, by omega⟩
    rw [fr_X7_harmNow_27, if_pos (nI_le (by omega) (by omega))]
    rfl
  | succ m ih =>
    intro n i s hi hn
    obtain ⟨n, rfl⟩ : ∃ z, n = z + 1 := ⟨n - 1, by omega⟩
    have hs : fb_ct (fun j => decide (k1 ≤ i + j ∨ k2 ≤ i + j ∨ ¬ r1 (i + j) = r2 (i + j))) (m + 1) = (if k1 ≤ i ∨ k2 ≤ i ∨ ¬ r1 i = r2 i then 1 else 0) + fb_ct (fun j => decide (k1 ≤ i + 1 + j ∨ k2 ≤ i + 1 + j ∨ ¬ r1 (i + 1 + j) = r2 (i + 1 + j))) m := by
      rw [show m + 1 = 1 + m by omega, fb_ct_split]
      congr 1
      · rw [fb_ct_succ]
        show 0 + (if decide (k1 ≤ i + 0 ∨ k2 ≤ i + 0 ∨ ¬ r1 (i + 0) = r2 (i + 0)) = true then 1 else 0) = _
        rw [Nat.zero_add, Nat.add_zero]
        simp only [decide_eq_true_eq]
      · refine fb_ct_cong (fun j _ => ?_)
        rw [show i + (1 + j) = i + 1 + j by omega]
    rw [fr_X7_harmNow_27, if_neg (nI_ge (by omega) (by omega)), hs]
    by_cases q2 : k2 ≤ i
    · rw [if_pos (nI_le q2 (by omega)), nI_1, nI_1, ih n (i + 1) (s + 1) (by omega) (by omega), if_pos (Or.inr (Or.inl q2)), Nat.add_assoc]
    rw [if_neg (nI_ge (by omega) (by omega))]
    by_cases q1 : k1 ≤ i
    · rw [if_pos (nI_le q1 (by omega)), nI_1, nI_1, ih n (i + 1) (s + 1) (by omega) (by omega), if_pos (Or.inl q1), Nat.add_assoc]
    have hin : inR (nI i) 12 := in_i (by omega) (by decide)
    rw [if_neg (nI_ge (by omega) (by omega)), if_pos hin, if_pos hin, aN_at _ (by omega), aN_at _ (by omega)]
    by_cases q : r1 i = r2 i
    · have hn0 : ¬ (k1 ≤ i ∨ k2 ≤ i ∨ ¬ r1 i = r2 i) := fun z => z.elim q1 (fun z => z.elim q2 (fun z => z q))
      rw [if_pos (by rw [q]), show nI s + (0 : Int32) = nI s from (nI_add s 0), nI_1, ih n (i + 1) s (by omega) (by omega), if_neg hn0, Nat.zero_add]
    · have hn0 : k1 ≤ i ∨ k2 ≤ i ∨ ¬ r1 i = r2 i := Or.inr (Or.inr q)
      rw [if_neg (fun z => q ((nI_eq (hr2 i (by omega)) (hr1 i (by omega))).mp z).symm), nI_1, nI_1, ih n (i + 1) (s + 1) (by omega) (by omega), if_pos hn0, Nat.add_assoc]
theorem l_harmNow (fu : Nat) {r1 r2 : Nat → Nat} {k1 k2 : Nat} (h1 : k1 ≤ 12) (h2 : k2 ≤ 12) (hr1 : ∀ i, i < k1 → r1 i < 2 ^ 31) (hr2 : ∀ i, i < k2 → r2 i < 2 ^ 31) (hf : 100 < fu) : f_X7_harmNow fu (nI k2) (nI k1) (aN r2) (aN r1) = some (nI (qH r1 k1 r2 k2)) := by
  unfold f_X7_harmNow qH
  by_cases q : k2 ≤ k1
  · rw [if_pos (nI_le q (by omega)), if_neg (show ¬ k1 < k2 by omega), show (0 : Int32) = nI 0 from rfl, l_harmL fu h1 h2 h1 hr1 hr2 _ k1 fu 0 0 (by omega) (by omega)]
    simp only [Nat.zero_add]
  · rw [if_neg (nI_ge (by omega) (by omega)), if_pos (show k1 < k2 by omega), show (0 : Int32) = nI 0 from rfl, l_harmL fu h1 h2 h2 hr1 hr2 _ k2 fu 0 0 (by omega) (by omega)]
    simp only [Nat.zero_add]
