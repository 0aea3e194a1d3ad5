/-! go() WITH A FLIP -/
/-- up to the flip's tick: what the loop then comes to -/
theorem l_goT (fu : Nat) {P : PG} {c0 : Nat → Nat} (hP : okP P) (hc : ∀ j, j < 8 → c0 j < 256) (hf : 200 < fu) {c v t : Nat} (hcc : c < 8) (ht : t < Tk P c0) (lc lf x1 x2 x3 x4 x5 x6 x7 x8 x9 x10 wd so : Int32) (gm rm : Nat → Nat) :
    ∃ (S : MS) (u : Int32), sim S (S0 P c0 (fun _ => 0)) ∧ okS P S ∧ (qI P S t).e = 3 ∧
      f_X7_go fu (nI P.1) x1 x2 x3 x4 x5 x6 x7 x8 x9 lc lf x10 (aN P.2.1) (aN P.2.2.1) (aN P.2.2.2) (aN c0) (aN gm) (aN rm) (nI c) (nI v) wd (nI t) so
        = GL fu P lc lf (nI c) wd so (nI v) (nI t) (fun e1 e2 e3 e4 e5 e6 e7 e8 e9 => fr_X7_go_197 fu e1 e2 e3 (nI c) wd so e4 e5 e6 e7 e8 e9) (fu - t) (nI t) 1 (nI (qI P S t).k) 0 0 0 u (aN (qI P S t).g) (aN (qI P S t).r) (nI (qI P S t).i) := by
  obtain ⟨g2, hg, h⟩ := l_goG fu (P := P) c0 hf lc lf x1 x2 x3 x4 x5 x6 x7 x8 x9 x10 (nI c) (nI v) wd (nI t) so gm rm
  have hok : okS P (S0 P g2 rm) := S0_ok (fun j hj => by rw [hg j hj]; exact hc j hj)
  have hsim : sim (S0 P g2 rm) (S0 P c0 (fun _ => 0)) := ⟨hg, fun j hj => absurd hj (Nat.not_lt_zero j), rfl, rfl, rfl⟩
  have hT := Tk_le P c0
  have hgo : ∀ j, j ≤ t → (qI P (S0 P g2 rm) j).e = 3 := fun j hj => by
    rw [(qI_sim hP j _ _ hok hsim).2.2.2.2]
    exact qT_lt P 100 _ j (by have : j < Tk P c0 := by omega
                              exact this)
  obtain ⟨nx2, u2, h1, h2⟩ := g_pre fu lc lf wd so (nI v) (nI t) (fun e1 e2 e3 e4 e5 e6 e7 e8 e9 => fr_X7_go_197 fu e1 e2 e3 (nI c) wd so e4 e5 e6 e7 e8 e9) (nI c) hP t (fu - t) 0 (S0 P g2 rm) 0 (by omega) hok (fun j hj => hgo j (by omega)) (fun t2 _ hb => Or.inr (fun q => by have := (nI_eq (a := t2) (b := t) (by omega) (by omega)).mp q; omega)) (nI 0) (S0_N g2 rm)
  have he := hgo t (Nat.le_refl t)
  refine ⟨S0 P g2 rm, u2, hsim, hok, he, h.trans ?_⟩
  have e1 : enI (qI P (S0 P g2 rm) t).e = 1 := by rw [he]; rfl
  rw [show fu - t + t = fu by omega, Nat.zero_add, e1, h1.1 he] at h2
  exact h2
theorem upS_3 {S : MS} (he : S.e = 3) (c w : Nat) : upS S c w = (va_up S.g c w, S.r, S.k, S.i, 3) := by
  show (va_up S.g c w, S.r, S.k, S.i, S.e) = _
  rw [he]
theorem up_ok {P : PG} {S : MS} (hS : okS P S) {c w : Nat} (hw : w < 256) : okS P (upS S c w) := ⟨up_b hS.1 hw, hS.2⟩
/-- the flip is read first, and caught there -/
theorem l_goA (fu : Nat) {P : PG} {c0 : Nat → Nat} (hP : okP P) (hc : ∀ j, j < 8 → c0 j < 256) (hf : 200 < fu) {c v t : Nat} (hcc : c < 8) (hv : v < 256) (ht : t < Tk P c0) (hu : nu P c0 c t < Tk P c0) (hr : rdS P (Pl P c0 (nu P c0 c t)) c) (lc lf x1 x2 x3 x4 x5 x6 x7 x8 x9 x10 wd so : Int32) (hct : ctc wd so) (gm rm : Nat → Nat) :
    ∃ (km st wr ca u2 : Int32) (g r : Nat → Nat), ¬ ca = 0 ∧ f_X7_go fu (nI P.1) x1 x2 x3 x4 x5 x6 x7 x8 x9 lc lf x10 (aN P.2.1) (aN P.2.2.1) (aN P.2.2.2) (aN c0) (aN gm) (aN rm) (nI c) (nI v) wd (nI t) so
        = some (nI (nu P c0 c t + 1), 1, km, nI c, wd, so, st, wr, ca, u2, aN g, aN r) := by
  obtain ⟨S, u, hs, hS, he, h⟩ := l_goT fu hP hc hf (v := v) hcc ht lc lf x1 x2 x3 x4 x5 x6 x7 x8 x9 x10 wd so gm rm
  have hT := Tk_le P c0
  have hn := nu_in P c0 (c := c) (Nat.le_of_lt ht)
  have hSt := qI_ok hP t S hS
  have hw : (qI P S t).g c ^^^ v < 256 := xor_b (hSt.1 c hcc) hv
  obtain ⟨m, hm⟩ : ∃ m, 100 - nu P c0 c t = m + 1 := ⟨100 - nu P c0 c t - 1, by omega⟩
  obtain ⟨m0, hm0⟩ : ∃ m0, 100 - t = m0 + 1 := ⟨100 - t - 1, by omega⟩
  have hX := X_run hP hS hs (c := c) (t := t) (w := (qI P S t).g c ^^^ v) (m := m + 1) (Nat.le_of_lt ht)
  rw [show nu P c0 c t - t + (m + 1) = m0 + 1 by omega] at hX
  have hsu := qI_sim hP (nu P c0 c t) _ _ hS hs
  have heu : (qI P S (nu P c0 c t)).e = 3 := by
    rw [hsu.2.2.2.2]
    exact qT_lt P 100 _ (nu P c0 c t) hu
  have hru : rdS P (qI P S (nu P c0 c t)) c := (rdS_e hP ((qI_ok hP (nu P c0 c t) S hS).2.2.2.1 heu) hsu).mpr hr
  have hU := use_rd (w := (qI P S t).g c ^^^ v) heu hru m
  obtain ⟨km, wr2, ca2, u2, g, r, h1, h2⟩ := g_f2 fu lc lf wd so (fun e1 e2 e3 e4 e5 e6 e7 e8 e9 => fr_X7_go_197 fu e1 e2 e3 (nI c) wd so e4 e5 e6 e7 e8 e9) hP hcc m0 (fu - t) t v (qI P S t) (upS (qI P S t) c ((qI P S t).g c ^^^ v)) (upS_3 he c _) u (by omega) (by omega) (hSt.2.2.2.1 he) (up_ok hSt hw) hct (hX.2.2.1.trans hU.1)
  refine ⟨km, 1, wr2, ca2, u2, g, r, h1, (h.trans h2).trans ?_⟩
  rw [hX.2.2.2.1, hU.2, show t + (nu P c0 c t - t + 0) + 1 = nu P c0 c t + 1 by omega]
  have n3 : ¬ so = 3 := by
    rcases hct with z | z
    · rw [z.1]; decide
    · rw [z]; decide
  unfold fr_X7_go_197
  rw [if_pos rfl, if_neg (show ¬ (1 : Int32) = 0 by decide), if_neg n3]
