/-! go() WITH A FLIP: not caught by reading -/
theorem E4_1 {e : Nat} (h : e = 0 ∨ e = 1 ∨ e = 3) : E4 e = 1 ↔ e = 0 := by
  rcases h with rfl | rfl | rfl <;> decide
/-- the flipped machine at the first use is FS -/
theorem X_sim {P : PG} {c0 : Nat → Nat} (hP : okP P) {S : MS} (hS : okS P S) (hs : sim S (S0 P c0 (fun _ => 0))) {c u v w : Nat} (hcc : c < 8) (hu : u < Tk P c0) (hw : w = (qI P S u).g c ^^^ v) : sim (upS (qI P S u) c w) (FS P c0 c v u) := by
  have hsu := qI_sim hP u _ _ hS hs
  have heu : (qI P S u).e = 3 := by
    rw [hsu.2.2.2.2]
    exact qT_lt P 100 _ u hu
  refine ⟨up_e hsu.1 (by rw [hw, hsu.1 c hcc]), hsu.2.1, hsu.2.2.1, hsu.2.2.2.1, ?_⟩
  show (qI P S u).e = 3
  exact heu
theorem l_goB (fu : Nat) {P : PG} {c0 : Nat → Nat} (hP : okP P) (hc : ∀ j, j < 8 → c0 j < 256) (hf : 200 < fu) {c v t : Nat} (hcc : c < 8) (hv : v < 256) (ht : t < Tk P c0) (hu : nu P c0 c t < Tk P c0) (hr : rdS P (Pl P c0 (nu P c0 c t)) c) (lc lf x1 x2 x3 x4 x5 x6 x7 x8 x9 x10 wd so : Int32) (hct : ¬ ctc wd so) (gm rm : Nat → Nat) :
    ∃ (st u2 : Int32) (g r : Nat → Nat), (∀ j, j < (FE P c0 c v (nu P c0 c t)).k → r j = (FE P c0 c v (nu P c0 c t)).r j) ∧ f_X7_go fu (nI P.1) x1 x2 x3 x4 x5 x6 x7 x8 x9 lc lf x10 (aN P.2.1) (aN P.2.2.1) (aN P.2.2.2) (aN c0) (aN gm) (aN rm) (nI c) (nI v) wd (nI t) so
        = some (nI (FT P c0 c v (nu P c0 c t)), E4 (FE P c0 c v (nu P c0 c t)).e, nI (FE P c0 c v (nu P c0 c t)).k, nI c, wd, so, st, 1, (if (FE P c0 c v (nu P c0 c t)).e = 0 ∧ FL P c0 c v (nu P c0 c t) = 1 ∧ so = 3 then 1 else 0), u2, aN g, aN r) := by
  obtain ⟨S, u, hs, hS, he, h⟩ := l_goT fu hP hc hf (v := v) hcc ht lc lf x1 x2 x3 x4 x5 x6 x7 x8 x9 x10 wd so gm rm
  have hT := Tk_le P c0
  have hn := nu_in P c0 (c := c) (Nat.le_of_lt ht)
  have hSt := qI_ok hP t S hS
  have hw : (qI P S t).g c ^^^ v < 256 := xor_b (hSt.1 c hcc) hv
  obtain ⟨m, hm⟩ : ∃ m, 100 - nu P c0 c t = m + 1 := ⟨100 - nu P c0 c t - 1, by omega⟩
  obtain ⟨m0, hm0⟩ : ∃ m0, 100 - t = m0 + 1 := ⟨100 - t - 1, by omega⟩
  have hX := X_run hP hS hs (c := c) (t := t) (w := (qI P S t).g c ^^^ v) (m := m + 1) (Nat.le_of_lt ht)
  rw [show nu P c0 c t - t + (m + 1) = m0 + 1 by omega] at hX
  have hsu := qI_sim hP (nu P c0 c t) _ _ hS hs
  have heu : (qI P S (nu P c0 c t)).e = 3 := by
    rw [hsu.2.2.2.2]
    exact qT_lt P 100 _ (nu P c0 c t) hu
  have hru : rdS P (qI P S (nu P c0 c t)) c := (rdS_e hP ((qI_ok hP (nu P c0 c t) S hS).2.2.2.1 heu) hsu).mpr hr
  have hU := use_rd (w := (qI P S t).g c ^^^ v) heu hru m
  have hok2 : okS P (upS (qI P S (nu P c0 c t)) c ((qI P S t).g c ^^^ v)) := up_ok (qI_ok hP (nu P c0 c t) S hS) hw
  have hsim := X_sim hP hS hs (c := c) (u := nu P c0 c t) (v := v) (w := (qI P S t).g c ^^^ v) hcc hu (by rw [hX.2.2.2.2.2])
  have hE := qI_sim hP (m + 1) _ _ hok2 hsim
  have hQ := qT_sim hP (m + 1) _ _ hok2 hsim
  have hV := qV_sim hP (m + 1) 0 _ _ hok2 hsim
  obtain ⟨u2, h2⟩ := g_f1 fu lc lf wd so (fun e1 e2 e3 e4 e5 e6 e7 e8 e9 => fr_X7_go_197 fu e1 e2 e3 (nI c) wd so e4 e5 e6 e7 e8 e9) hP hcc m0 (fu - t) t v (qI P S t) (upS (qI P S t) c ((qI P S t).g c ^^^ v)) (upS_3 he c _) u (by omega) (by omega) (hSt.2.2.2.1 he) (up_ok hSt hw) (fun z => absurd z hct)
  rw [hX.1, hX.2.1, hX.2.2.1, hX.2.2.2.2.1, hU.1, hQ, sSt_v, hV, hE.2.2.1, hE.2.2.2.2] at h2
  have hFEe : (FE P c0 c v (nu P c0 c t)) = qI P (FS P c0 c v (nu P c0 c t)) (m + 1) := by rw [← hm]
  have hFTe : FT P c0 c v (nu P c0 c t) = t + (nu P c0 c t - t + qT P (FS P c0 c v (nu P c0 c t)) (m + 1)) := by
    show nu P c0 c t + qT P (FS P c0 c v (nu P c0 c t)) (100 - nu P c0 c t) = _
    rw [hm]; omega
  have hFS := FS_ok hP hc hcc hv hu
  have h3 := (qI_ok hP (m + 1) _ hFS).2.2.2.2
  have hFLe : FL P c0 c v (nu P c0 c t) = if (qV P (FS P c0 c v (nu P c0 c t)) 0 (m + 1)).testBit c = true then 0 else 1 := by
    unfold FL; rw [hm]
  rw [hFEe, hFTe]
  refine ⟨(if (!(qV P (FS P c0 c v (nu P c0 c t)) 0 (m + 1)).testBit c) = true then 1 else 0), u2, (qI P (upS (qI P S (nu P c0 c t)) c ((qI P S t).g c ^^^ v)) (m + 1)).g, (qI P (upS (qI P S (nu P c0 c t)) c ((qI P S t).g c ^^^ v)) (m + 1)).r, fun j hj => hE.2.1 j (by rw [hE.2.2.1]; exact hj), (h.trans h2).trans ?_⟩
  show fr_X7_go_197 _ _ _ _ _ _ _ _ _ _ _ _ _ = _
  unfold fr_X7_go_197
  rw [if_pos (show true = true from rfl), hFLe]
  by_cases q : (qI P (FS P c0 c v (nu P c0 c t)) (m + 1)).e = 0
  · rw [if_pos ((E4_1 h3).mpr q)]
    by_cases q2 : (qV P (FS P c0 c v (nu P c0 c t)) 0 (m + 1)).testBit c = true
    · rw [q2, if_neg (show ¬ ((!true) = true) by decide), if_pos rfl, if_pos (show true = true from rfl), if_neg (fun z => absurd z.2.1 (by decide))]
    · rw [Bool.eq_false_iff.mpr q2, if_pos (show (!false) = true from rfl), if_neg (show ¬ (1 : Int32) = 0 by decide), if_neg (show ¬ (false = true) by decide)]
      by_cases q3 : so = 3
      · rw [if_pos q3, if_pos ⟨q, rfl, q3⟩]
      · rw [if_neg q3, if_neg (fun z => q3 z.2.2)]
  · rw [if_neg (fun z => q ((E4_1 h3).mp z)), if_neg (show ¬ ((qI P (FS P c0 c v (nu P c0 c t)) (m + 1)).e = 0 ∧ (if (qV P (FS P c0 c v (nu P c0 c t)) 0 (m + 1)).testBit c = true then 0 else 1) = 1 ∧ so = 3) from fun z => q z.1)]
/-- the flip's cell is written first, or never used: the run goes as without a flip -/
theorem l_goC (fu : Nat) {P : PG} {c0 : Nat → Nat} (hP : okP P) (hc : ∀ j, j < 8 → c0 j < 256) (hf : 200 < fu) {c v t : Nat} (hcc : c < 8) (hv : v < 256) (ht : t < Tk P c0) (hu : nu P c0 c t < Tk P c0) (hr : ¬ rdS P (Pl P c0 (nu P c0 c t)) c) (lc lf x1 x2 x3 x4 x5 x6 x7 x8 x9 x10 wd so : Int32) (gm rm : Nat → Nat) :
    ∃ (x y st u2 : Int32) (g r : Nat → Nat), f_X7_go fu (nI P.1) x1 x2 x3 x4 x5 x6 x7 x8 x9 lc lf x10 (aN P.2.1) (aN P.2.2.1) (aN P.2.2.2) (aN c0) (aN gm) (aN rm) (nI c) (nI v) wd (nI t) so
        = some (nI (Tk P c0), x, y, nI c, wd, so, st, 0, 0, u2, aN g, aN r) := by
  obtain ⟨S, u, hs, hS, he, h⟩ := l_goT fu hP hc hf (v := v) hcc ht lc lf x1 x2 x3 x4 x5 x6 x7 x8 x9 x10 wd so gm rm
  have hT := Tk_le P c0
  have hn := nu_in P c0 (c := c) (Nat.le_of_lt ht)
  have hSt := qI_ok hP t S hS
  have hw : (qI P S t).g c ^^^ v < 256 := xor_b (hSt.1 c hcc) hv
  obtain ⟨m, hm⟩ : ∃ m, 100 - nu P c0 c t = m + 1 := ⟨100 - nu P c0 c t - 1, by omega⟩
  obtain ⟨m0, hm0⟩ : ∃ m0, 100 - t = m0 + 1 := ⟨100 - t - 1, by omega⟩
  have hX := X_run hP hS hs (c := c) (t := t) (w := (qI P S t).g c ^^^ v) (m := m + 1) (Nat.le_of_lt ht)
  rw [show nu P c0 c t - t + (m + 1) = m0 + 1 by omega] at hX
  have hsu := qI_sim hP (nu P c0 c t) _ _ hS hs
  have heu : (qI P S (nu P c0 c t)).e = 3 := by
    rw [hsu.2.2.2.2]
    exact qT_lt P 100 _ (nu P c0 c t) hu
  have hiu := (qI_ok hP (nu P c0 c t) S hS).2.2.2.1 heu
  have hru : ¬ rdS P (qI P S (nu P c0 c t)) c := fun z => hr ((rdS_e hP hiu hsu).mp z)
  have hwu : wrS P (qI P S (nu P c0 c t)) c := (wrS_e hP hiu hsu).mpr ((nu_yes (Nat.le_of_lt ht) hu).resolve_left hr)
  have hU := use_wr (w := (qI P S t).g c ^^^ v) heu hru hwu m
  have hQ : t + (nu P c0 c t - t + qT P (qI P S (nu P c0 c t)) (m + 1)) = Tk P c0 := by
    have h1 := qT_sim hP 100 _ _ hS hs
    have h2 := qT_add P (nu P c0 c t) (m + 1) S (by rw [show nu P c0 c t + (m + 1) = 100 by omega, h1]; exact hn.2)
    rw [show nu P c0 c t + (m + 1) = 100 by omega, h1] at h2
    show _ = qT P (S0 P c0 (fun _ => 0)) 100
    omega
  obtain ⟨u2, h2⟩ := g_f1 fu lc lf wd so (fun e1 e2 e3 e4 e5 e6 e7 e8 e9 => fr_X7_go_197 fu e1 e2 e3 (nI c) wd so e4 e5 e6 e7 e8 e9) hP hcc m0 (fu - t) t v (qI P S t) (upS (qI P S t) c ((qI P S t).g c ^^^ v)) (upS_3 he c _) u (by omega) (by omega) (hSt.2.2.2.1 he) (up_ok hSt hw) (fun _ => hX.2.2.1.trans hU.1)
  rw [hX.1, hX.2.1, hX.2.2.1, hX.2.2.2.2.1, hU.1, hU.2.1, hU.2.2.1, hU.2.2.2, hQ] at h2
  refine ⟨E4 (qI P (qI P S (nu P c0 c t)) (m + 1)).e, nI (qI P (qI P S (nu P c0 c t)) (m + 1)).k, 0, u2, (qI P (qI P S (nu P c0 c t)) (m + 1)).g, (qI P (qI P S (nu P c0 c t)) (m + 1)).r, (h.trans h2).trans ?_⟩
  show fr_X7_go_197 _ _ _ _ _ _ _ _ _ _ _ _ _ = _
  unfold fr_X7_go_197
  rw [if_neg (show ¬ (false = true) by decide)]
  split
  · rw [if_pos rfl]
  · rfl
theorem l_goD (fu : Nat) {P : PG} {c0 : Nat → Nat} (hP : okP P) (hc : ∀ j, j < 8 → c0 j < 256) (hf : 200 < fu) {c v t : Nat} (hcc : c < 8) (hv : v < 256) (ht : t < Tk P c0) (hu : ¬ nu P c0 c t < Tk P c0) (hz : (Pl P c0 100).e = 0) (lc lf x1 x2 x3 x4 x5 x6 x7 x8 x9 x10 wd so : Int32) (gm rm : Nat → Nat) :
    ∃ (x y st u2 : Int32) (g r : Nat → Nat), f_X7_go fu (nI P.1) x1 x2 x3 x4 x5 x6 x7 x8 x9 lc lf x10 (aN P.2.1) (aN P.2.2.1) (aN P.2.2.2) (aN c0) (aN gm) (aN rm) (nI c) (nI v) wd (nI t) so
        = some (nI (Tk P c0), x, y, nI c, wd, so, st, 0, (if so = 3 then 1 else 0), u2, aN g, aN r) := by
  obtain ⟨S, u, hs, hS, he, h⟩ := l_goT fu hP hc hf (v := v) hcc ht lc lf x1 x2 x3 x4 x5 x6 x7 x8 x9 x10 wd so gm rm
  have hT := Tk_le P c0
  have hn := nu_in P c0 (c := c) (Nat.le_of_lt ht)
  have hnT : nu P c0 c t = Tk P c0 := by omega
  have hSt := qI_ok hP t S hS
  have hw : (qI P S t).g c ^^^ v < 256 := xor_b (hSt.1 c hcc) hv
  obtain ⟨m0, hm0⟩ : ∃ m0, 100 - t = m0 + 1 := ⟨100 - t - 1, by omega⟩
  have hX := X_run hP hS hs (c := c) (t := t) (w := (qI P S t).g c ^^^ v) (m := 100 - Tk P c0) (Nat.le_of_lt ht)
  rw [hnT, show Tk P c0 - t + (100 - Tk P c0) = m0 + 1 by omega] at hX
  have hsu := qI_sim hP (Tk P c0) _ _ hS hs
  have hend : Pl P c0 (Tk P c0) = Pl P c0 100 := qT_end P 100 _
  have heu : (qI P S (Tk P c0)).e = 0 := by
    rw [hsu.2.2.2.2]; exact (congrArg (fun S : MS => S.e) hend).trans hz
  have hU := use_no (c := c) (w := (qI P S t).g c ^^^ v) (P := P) (S := qI P S (Tk P c0)) (by rw [heu]; decide) (100 - Tk P c0)
  obtain ⟨u2, h2⟩ := g_f1 fu lc lf wd so (fun e1 e2 e3 e4 e5 e6 e7 e8 e9 => fr_X7_go_197 fu e1 e2 e3 (nI c) wd so e4 e5 e6 e7 e8 e9) hP hcc m0 (fu - t) t v (qI P S t) (upS (qI P S t) c ((qI P S t).g c ^^^ v)) (upS_3 he c _) u (by omega) (by omega) (hSt.2.2.2.1 he) (up_ok hSt hw) (fun _ => hX.2.2.1.trans hU.1)
  rw [hX.1, hX.2.1, hX.2.2.1, hX.2.2.2.2.1, hU.1, hU.2.1, hU.2.2.1, hU.2.2.2, upS_e, heu, show t + (Tk P c0 - t + 0) = Tk P c0 by omega] at h2
  refine ⟨E4 0, nI (upS (qI P S (Tk P c0)) c ((qI P S t).g c ^^^ v)).k, 1, u2, (upS (qI P S (Tk P c0)) c ((qI P S t).g c ^^^ v)).g, (upS (qI P S (Tk P c0)) c ((qI P S t).g c ^^^ v)).r, (h.trans h2).trans ?_⟩
  show fr_X7_go_197 _ _ _ _ _ _ _ _ _ _ _ _ _ = _
  unfold fr_X7_go_197
  rw [if_pos (show E4 0 = 1 from rfl), if_pos (show true = true from rfl), if_neg (show ¬ (false = true) by decide), if_neg (show ¬ (1 : Int32) = 0 by decide)]
  by_cases q3 : so = 3
  · rw [if_pos q3, if_pos q3]
  · rw [if_neg q3, if_neg q3]
