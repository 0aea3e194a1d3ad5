/-- the reference's kindOf, in a run that ends -/
theorem lk_c {so w : Nat} (hso : so < 4) (hw : w < 3) : ctc (nI w) (nI so) ↔ lk so w := by
  have e2 : (nI so = (2 : Int32)) ↔ so = 2 := nI_eq (a := so) (b := 2) (by omega) (by decide)
  have e1 : (nI so = (1 : Int32)) ↔ so = 1 := nI_eq (a := so) (b := 1) (by omega) (by decide)
  have ew : (nI w = (1 : Int32)) ↔ w = 1 := nI_eq (a := w) (b := 1) (by omega) (by decide)
  show ((nI so = 1 ∧ nI w = 1) ∨ nI so = 2) ↔ _
  rw [e1, e2, ew]
theorem so3 {so : Nat} (hso : so < 4) : (nI so = (3 : Int32)) ↔ so = 3 := nI_eq (a := so) (b := 3) (by omega) (by decide)
set_option maxHeartbeats 1000000 in
theorem z_kind (fu : Nat) {P : PG} {c0 : Nat → Nat} (hP : okP P) (hc : ∀ j, j < 8 → c0 j < 256) (hf : 200 < fu) (hz : (Pl P c0 100).e = 0) {rp : Nat → Nat} (hrp : ∀ j, j < (Pl P c0 100).k → rp j = (Pl P c0 100).r j)
    {c k w t so : Nat} (hcc : c < 8) (hw : w = 1 ∨ w = 2) (hk : k + w ≤ 8) (hso : so < 4) (ht : t < Tk P c0) (x1 x2 x3 x4 x5 x6 x7 x8 x9 lc lf x10 : Int32) (gm rm : Nat → Nat) :
    ∃ (e1 km e3 e4 e5 e6 e7 e8 e9 : Int32) (g r : Nat → Nat), f_X7_kindOf fu (nI P.1) x1 x2 x3 x4 x5 x6 x7 x8 x9 lc lf x10 (nI (Pl P c0 100).k) (aN P.2.1) (aN P.2.2.1) (aN P.2.2.2) (aN c0) (aN gm) (aN rm) (aN rp) (nI c) (nI k) (nI w) (nI t) (nI so)
        = some (nI (KD P c0 c k w t so), nI (LD P c0 c k w t so), e1, km, e3, e4, e5, e6, e7, e8, e9, aN g, aN r) ∧
      (KD P c0 c k w t so = 5 → f_X7_harmNow fu km (nI (Pl P c0 100).k) (aN r) (aN rp) = some (nI (HD P c0 c k w t so))) := by
  have hw3 : w < 3 := by omega
  have hv := fm_lt w hw3 k (by omega) hk
  rw [kindOf_KT fu hw hk]
  by_cases hR : isR P c0 c t
  · have ea : Qa P c0 c (fm w k) t = FFa P c0 c (fm w k) (nu P c0 c t) := by unfold Qa; rw [if_pos hR]
    have es : Qs P c0 c (fm w k) t = FFs P c0 c (fm w k) (nu P c0 c t) := by unfold Qs; rw [if_pos hR]
    have eh : Qh P c0 c (fm w k) t = FFh P c0 c (fm w k) (nu P c0 c t) := by unfold Qh; rw [if_pos hR]
    have et : Qt P c0 c (fm w k) t = FT P c0 c (fm w k) (nu P c0 c t) := by unfold Qt; rw [if_pos hR]
    have hA := FFa_b P c0 c (fm w k) (nu P c0 c t)
    by_cases hl : lk so w
    · obtain ⟨km, st, wr, ca, u2, g, r, h1, h2⟩ := l_goA fu hP hc hf hcc hv ht hR.1 hR.2 lc lf x1 x2 x3 x4 x5 x6 x7 x8 x9 x10 (nI w) (nI so) ((lk_c hso hw3).mpr hl) gm rm
      have hK : KD P c0 c k w t so = 2 := by
        unfold KD KU
        rw [ea]
        split
        · rfl
        · rw [if_pos ⟨hl, hA.2⟩]
      have hL : LD P c0 c k w t so = nu P c0 c t + 1 := by
        unfold LD
        rw [ea, if_pos ⟨hl, hA.2⟩]
      refine ⟨1, km, nI c, nI w, nI so, st, wr, ca, u2, g, r, ?_, fun q => by rw [hK] at q; exact absurd q (by decide)⟩
      rw [h2, Option.bind_some, hK, hL]
      unfold KT
      rw [if_neg h1]
      rfl
    · obtain ⟨st, u2, g, r, h1, h2⟩ := l_goB fu hP hc hf hcc hv ht hR.1 hR.2 lc lf x1 x2 x3 x4 x5 x6 x7 x8 x9 x10 (nI w) (nI so) (fun q => hl ((lk_c hso hw3).mp q)) gm rm
      have hL : LD P c0 c k w t so = FT P c0 c (fm w k) (nu P c0 c t) := by
        unfold LD
        rw [if_neg (fun q => hl q.1), et]
      have hFS := FS_ok hP hc hcc hv hR.1
      have hFE := qI_ok hP (100 - nu P c0 c t) _ hFS
      have hPe := qI_ok hP 100 _ (S0_ok (P := P) (r := fun _ => 0) hc)
      have hrb : ∀ j, j < (Pl P c0 100).k → (Pl P c0 100).r j < 256 := row_b hP 100 _ (S0_ok hc) (fun j hj => absurd hj (Nat.not_lt_zero j))
      have hu := hR.1
      have hkr : (Pl P c0 (nu P c0 c t)).k ≤ (Pl P c0 100).k ∧ ∀ j, j < (Pl P c0 (nu P c0 c t)).k → (Pl P c0 100).r j = (Pl P c0 (nu P c0 c t)).r j := by
        have hT := Tk_le P c0
        have := row_k (P := P) (100 - nu P c0 c t) (Pl P c0 (nu P c0 c t))
        rw [show qI P (Pl P c0 (nu P c0 c t)) (100 - nu P c0 c t) = Pl P c0 100 by rw [qI_add]; congr 1; omega] at this
        exact this
      have hrb2 : ∀ j, j < (FE P c0 c (fm w k) (nu P c0 c t)).k → (FE P c0 c (fm w k) (nu P c0 c t)).r j < 256 := row_b hP (100 - nu P c0 c t) _ hFS (fun j hj => by
        show (Pl P c0 (nu P c0 c t)).r j < 256
        rw [← hkr.2 j hj]; exact hrb j (Nat.lt_of_lt_of_le hj hkr.1))
      have hH : f_X7_harmNow fu (nI (FE P c0 c (fm w k) (nu P c0 c t)).k) (nI (Pl P c0 100).k) (aN r) (aN rp) = some (nI (FH P c0 c (fm w k) (nu P c0 c t))) := by
        rw [l_harmNow fu (r1 := rp) (r2 := r) hPe.2.1 hFE.2.1 (fun i hi => by rw [hrp i hi]; exact Nat.lt_trans (hrb i hi) (by decide)) (fun i hi => by rw [h1 i hi]; exact Nat.lt_trans (hrb2 i hi) (by decide)) (by omega)]
        rw [qH_e hrp h1]
      have h12 : FH P c0 c (fm w k) (nu P c0 c t) ≤ 12 := qH_le (Pl P c0 100).r (FE P c0 c (fm w k) (nu P c0 c t)).r hPe.2.1 hFE.2.1
      have hKe : KD P c0 c k w t so = if so = 3 ∧ FFs P c0 c (fm w k) (nu P c0 c t) = 1 then 2 else FFa P c0 c (fm w k) (nu P c0 c t) := by
        unfold KD KU
        rw [ea, es, if_neg (fun q : lk so w ∧ ¬ FFa P c0 c (fm w k) (nu P c0 c t) = 0 => hl q.1)]
      refine ⟨E4 (FE P c0 c (fm w k) (nu P c0 c t)).e, nI (FE P c0 c (fm w k) (nu P c0 c t)).k, nI c, nI w, nI so, st, 1, (if (FE P c0 c (fm w k) (nu P c0 c t)).e = 0 ∧ FL P c0 c (fm w k) (nu P c0 c t) = 1 ∧ nI so = 3 then 1 else 0), u2, g, r, ?_, ?_⟩
      · rw [h2, Option.bind_some, hL]
        unfold KT
        have h13 : ¬ (1 : Int32) = 0 := by decide
        rcases hFE.2.2.2.2 with z | z | z
        · have z0 : (FE P c0 c (fm w k) (nu P c0 c t)).e = 0 := z
          have n1 : ¬ (FE P c0 c (fm w k) (nu P c0 c t)).e = 1 := by omega
          have n3 : ¬ (FE P c0 c (fm w k) (nu P c0 c t)).e = 3 := by omega
          have hs : FFs P c0 c (fm w k) (nu P c0 c t) = FL P c0 c (fm w k) (nu P c0 c t) := by unfold FFs; rw [if_neg n1, if_neg n3]
          have ha : FFa P c0 c (fm w k) (nu P c0 c t) = if FH P c0 c (fm w k) (nu P c0 c t) = 0 then 1 else 5 := by unfold FFa; rw [if_neg n1, if_neg n3]
          by_cases hca : so = 3 ∧ FL P c0 c (fm w k) (nu P c0 c t) = 1
          · have hK : KD P c0 c k w t so = 2 := by rw [hKe, hs, if_pos hca]
            rw [if_pos (show (FE P c0 c (fm w k) (nu P c0 c t)).e = 0 ∧ FL P c0 c (fm w k) (nu P c0 c t) = 1 ∧ nI so = 3 from ⟨z0, hca.2, (so3 hso).mpr hca.1⟩), if_neg h13, hK]
            rfl
          · have hK : KD P c0 c k w t so = if FH P c0 c (fm w k) (nu P c0 c t) = 0 then 1 else 5 := by rw [hKe, hs, if_neg hca, ha]
            rw [if_neg (show ¬ ((FE P c0 c (fm w k) (nu P c0 c t)).e = 0 ∧ FL P c0 c (fm w k) (nu P c0 c t) = 1 ∧ nI so = 3) from fun q => hca ⟨(so3 hso).mp q.2.2, q.2.1⟩), if_pos rfl]
            dsimp only
            rw [if_neg h13, if_pos (show E4 (FE P c0 c (fm w k) (nu P c0 c t)).e = 1 by rw [z0]; rfl), hH, Option.bind_some, hK]
            by_cases q0 : FH P c0 c (fm w k) (nu P c0 c t) = 0
            · rw [if_pos (show nI (FH P c0 c (fm w k) (nu P c0 c t)) ≤ 0 by rw [q0]; decide), if_pos q0]
              rfl
            · rw [if_neg (show ¬ nI (FH P c0 c (fm w k) (nu P c0 c t)) ≤ 0 from nI_ge (a := 0) (b := FH P c0 c (fm w k) (nu P c0 c t)) (by omega) (by omega)), if_neg q0]
              rfl
        · have z0 : (FE P c0 c (fm w k) (nu P c0 c t)).e = 1 := z
          have hK : KD P c0 c k w t so = 3 := by
            rw [hKe]
            unfold FFs FFa
            rw [if_pos z0, if_neg (show ¬ (so = 3 ∧ 0 = 1) by omega), if_pos z0]
          rw [if_neg (show ¬ ((FE P c0 c (fm w k) (nu P c0 c t)).e = 0 ∧ FL P c0 c (fm w k) (nu P c0 c t) = 1 ∧ nI so = 3) by omega), if_pos rfl]
          dsimp only
          rw [if_neg h13, show E4 (FE P c0 c (fm w k) (nu P c0 c t)).e = 3 by rw [z0]; rfl, if_neg (by decide), hK]
          rfl
        · have z0 : (FE P c0 c (fm w k) (nu P c0 c t)).e = 3 := z
          have hK : KD P c0 c k w t so = 4 := by
            rw [hKe]
            unfold FFs FFa
            rw [if_neg (show ¬ (FE P c0 c (fm w k) (nu P c0 c t)).e = 1 by omega), if_pos z0, if_neg (show ¬ (so = 3 ∧ 0 = 1) by omega), if_neg (show ¬ (FE P c0 c (fm w k) (nu P c0 c t)).e = 1 by omega), if_pos z0]
          rw [if_neg (show ¬ ((FE P c0 c (fm w k) (nu P c0 c t)).e = 0 ∧ FL P c0 c (fm w k) (nu P c0 c t) = 1 ∧ nI so = 3) by omega), if_pos rfl]
          dsimp only
          rw [if_neg h13, show E4 (FE P c0 c (fm w k) (nu P c0 c t)).e = 4 by rw [z0]; rfl, if_neg (by decide), hK]
          rfl
      · intro q5
        have hHe : HD P c0 c k w t so = FH P c0 c (fm w k) (nu P c0 c t) := by
          unfold HD
          rw [if_pos q5, eh]
          rw [hKe] at q5
          unfold FFh
          have n2 : ¬ (so = 3 ∧ FFs P c0 c (fm w k) (nu P c0 c t) = 1) := fun z => by rw [if_pos z] at q5; exact absurd q5 (by decide)
          rw [if_neg n2] at q5
          unfold FFa at q5
          by_cases n1 : (FE P c0 c (fm w k) (nu P c0 c t)).e = 1
          · rw [if_pos n1] at q5; exact absurd q5 (by decide)
          · rw [if_neg n1] at q5 ⊢
            by_cases n3 : (FE P c0 c (fm w k) (nu P c0 c t)).e = 3
            · rw [if_pos n3] at q5; exact absurd q5 (by decide)
            · rw [if_neg n3]
        rw [hH, hHe]
  · have ea : Qa P c0 c (fm w k) t = 0 := by unfold Qa; rw [if_neg hR]
    have et : Qt P c0 c (fm w k) t = Tk P c0 := by unfold Qt; rw [if_neg hR]
    have hL : LD P c0 c k w t so = Tk P c0 := by
      unfold LD
      rw [if_neg (fun q => q.2 ea), et]
    by_cases hu : nu P c0 c t < Tk P c0
    · have es : Qs P c0 c (fm w k) t = 0 := by unfold Qs; rw [if_neg hR, if_pos hu]
      have hK : KD P c0 c k w t so = 0 := by
        unfold KD KU
        rw [ea, es, if_neg (show ¬ (so = 3 ∧ 0 = 1) by omega), if_neg (fun q => q.2 rfl)]
      obtain ⟨x, y, st, u2, g, r, h2⟩ := l_goC fu hP hc hf hcc hv ht hu (fun q => hR ⟨hu, q⟩) lc lf x1 x2 x3 x4 x5 x6 x7 x8 x9 x10 (nI w) (nI so) gm rm
      refine ⟨x, y, nI c, nI w, nI so, st, 0, 0, u2, g, r, ?_, fun q => by rw [hK] at q; exact absurd q (by decide)⟩
      rw [h2, Option.bind_some, hK, hL]
      unfold KT
      rw [if_pos rfl, if_pos rfl]
      rfl
    · have es : Qs P c0 c (fm w k) t = 1 := by unfold Qs; rw [if_neg hR, if_neg hu]
      obtain ⟨x, y, st, u2, g, r, h2⟩ := l_goD fu hP hc hf hcc hv ht hu hz lc lf x1 x2 x3 x4 x5 x6 x7 x8 x9 x10 (nI w) (nI so) gm rm
      by_cases q3 : so = 3
      · have hK : KD P c0 c k w t so = 2 := by
          unfold KD KU
          rw [ea, es, if_pos ⟨q3, rfl⟩]
        refine ⟨x, y, nI c, nI w, nI so, st, 0, 1, u2, g, r, ?_, fun q => by rw [hK] at q; exact absurd q (by decide)⟩
        rw [h2, Option.bind_some, hK, hL, if_pos ((so3 hso).mpr q3)]
        unfold KT
        rw [if_neg (show ¬ (1 : Int32) = 0 by decide)]
        rfl
      · have hK : KD P c0 c k w t so = 0 := by
          unfold KD KU
          rw [ea, es, if_neg (fun q : so = 3 ∧ 1 = 1 => q3 q.1), if_neg (fun q => q.2 rfl)]
        refine ⟨x, y, nI c, nI w, nI so, st, 0, 0, u2, g, r, ?_, fun q => by rw [hK] at q; exact absurd q (by decide)⟩
        rw [h2, Option.bind_some, hK, hL, if_neg (fun q => q3 ((so3 hso).mp q))]
        unfold KT
        rw [if_pos rfl, if_pos rfl]
        rfl
