/-! THE CLASS: tryAll -/
/-- all fates of a width -/
def FO (P : PG) (c0 : Nat → Nat) (w : Nat) (f : Nat → Nat) : Prop := ∀ t c k, t < Tk P c0 → c < 8 → k + w ≤ 8 → f (64 * t + (8 * c + k)) = Qf P c0 c (fm w k) t
theorem aN_all (a : Nat → Int32) : ∃ f, a = aN f := ⟨fun j => (a j).toUInt32.toNat, by
  funext j
  show a j = nI ((a j).toUInt32.toNat)
  apply Int32.toBitVec_inj.1
  show (a j).toBitVec = BitVec.ofNat 32 ((a j).toBitVec.toNat)
  simp⟩
abbrev R11 : Type := Int32 × Int32 × Int32 × Int32 × Int32 × Int32 × Int32 × Int32 × (Nat → Int32) × (Nat → Int32) × (Nat → Int32)
abbrev K10 : Type := Int32 → Int32 → Int32 → Int32 → Int32 → Int32 → Int32 → (Nat → Int32) → (Nat → Int32) → (Nat → Int32) → Option R11
set_option maxHeartbeats 1000000 in
theorem l_tryI (fu : Nat) {P : PG} {c0 g r : Nat → Nat} {A : TA} (hP : okP P) (hc : ∀ j, j < 8 → c0 j < 256) (hf : 200 < fu) (hA : TrOK P c0 g r A) (k131 : K10) {c k w : Nat} (hcc : c < 8) (hw : w = 1 ∨ w = 2) (hk : k < 8) :
    ∀ (m n : Nat) (x1 x2 x3 x4 x5 x6 x7 : Int32) (gk rk f : Nat → Nat), m ≤ Tk P c0 → m < n →
    ∃ (y1 y2 y3 y4 y5 y6 y7 : Int32) (gk2 rk2 f2 : Nat → Nat), fr_X2_tryAll_48 fu (nI P.1) (aN P.2.1) (aN P.2.2.1) (aN P.2.2.2) (nI (Pl P c0 100).k) (nI (Tk P c0)) (aN r) (aN A.1) (aN A.2.1) (aN A.2.2.1) (aN A.2.2.2.1) (aN A.2.2.2.2) (nI w) (nI w) (nI (8 * c + k)) (nI c) k131 n x1 x2 x3 x4 x5 x6 x7 (aN gk) (aN rk) (aN f) (nI (Qf P c0 c (fm w k) m)) (nI m + -1)
        = k131 y1 y2 y3 y4 y5 y6 y7 (aN gk2) (aN rk2) (aN f2) ∧ (k + w ≤ 8 → ∀ t, t < m → f2 (64 * t + (8 * c + k)) = Qf P c0 c (fm w k) t) ∧ (∀ j, ¬ j % 64 = 8 * c + k → f2 j = f j) ∧ (∀ t, m ≤ t → f2 (64 * t + (8 * c + k)) = f (64 * t + (8 * c + k))) := by
  have hT := Tk_le P c0
  intro m
  induction m with
  | zero =>
    intro n x1 x2 x3 x4 x5 x6 x7 gk rk f hm hn
    obtain ⟨n, rfl⟩ : ∃ z, n = z + 1 := ⟨n - 1, by omega⟩
    refine ⟨x1, x2, x3, x4, x5, x6, x7, gk, rk, f, ?_, fun _ t h => absurd h (Nat.not_lt_zero t), fun _ _ => rfl, fun _ _ => rfl⟩
    rw [fr_X2_tryAll_48, if_pos (show nI 0 + (-1 : Int32) < 0 by decide)]
  | succ m ih =>
    intro n x1 x2 x3 x4 x5 x6 x7 gk rk f hm hn
    obtain ⟨n, rfl⟩ : ∃ z, n = z + 1 := ⟨n - 1, by omega⟩
    rw [nI_p, fr_X2_tryAll_48, if_neg (nI_pos (by omega)), l_isFlip fu (by omega) (by omega), Option.bind_some]
    by_cases hfl : k + w ≤ 8
    · have ht : m < Tk P c0 := by omega
      rw [if_pos (show (8 * c + k) % 8 + w ≤ 8 by omega), if_neg (show ¬ (1 : Int32) = 0 by decide), c_isRead fu hP hc hf hA hcc (by omega), Option.bind_some]
      have hin : inR (nI (m * 64 + (8 * c + k))) 6400 := in_i (by omega) (by decide)
      have e64 : nI m * (64 : Int32) + nI (8 * c + k) = nI (m * 64 + (8 * c + k)) := by rw [show (64 : Int32) = nI 64 from rfl, pk_mul, nI_add]
      -- one fate written, then the rest
      have fin : ∀ (x1 x2 x3 x4 x5 x6 x7 : Int32) (gk rk : Nat → Nat), ∃ (y1 y2 y3 y4 y5 y6 y7 : Int32) (gk2 rk2 f2 : Nat → Nat), fr_X2_tryAll_111 fu (nI w) (nI (8 * c + k)) (nI c) (fun a1 a2 a3 a4 a5 a6 a7 a8 a9 a10 a11 a12 => fr_X2_tryAll_48 fu (nI P.1) (aN P.2.1) (aN P.2.2.1) (aN P.2.2.2) (nI (Pl P c0 100).k) (nI (Tk P c0)) (aN r) (aN A.1) (aN A.2.1) (aN A.2.2.1) (aN A.2.2.2.1) (aN A.2.2.2.2) (nI w) (nI w) (nI (8 * c + k)) (nI c) k131 n a1 a2 a3 a4 a5 a6 a7 a8 a9 a10 a11 a12) x1 x2 x3 x4 x5 x6 x7 (aN gk) (aN rk) (aN f) (nI (Qf P c0 c (fm w k) m)) (nI m)
          = k131 y1 y2 y3 y4 y5 y6 y7 (aN gk2) (aN rk2) (aN f2) ∧ (k + w ≤ 8 → ∀ t, t < m + 1 → f2 (64 * t + (8 * c + k)) = Qf P c0 c (fm w k) t) ∧ (∀ j, ¬ j % 64 = 8 * c + k → f2 j = f j) ∧ (∀ t, m + 1 ≤ t → f2 (64 * t + (8 * c + k)) = f (64 * t + (8 * c + k))) := by
        intro x1 x2 x3 x4 x5 x6 x7 gk rk
        obtain ⟨y1, y2, y3, y4, y5, y6, y7, gk2, rk2, f2, h1, h2, h3, h4⟩ := ih n x1 x2 x3 x4 x5 x6 x7 gk rk (va_up f (m * 64 + (8 * c + k)) (Qf P c0 c (fm w k) m)) (by omega) (by omega)
        refine ⟨y1, y2, y3, y4, y5, y6, y7, gk2, rk2, f2, ?_, fun _ t htm => ?_, fun j hj => ?_, fun t htm => ?_⟩
        · unfold fr_X2_tryAll_111
          rw [e64, if_pos hin, aN_up _ _ (by omega)]
          exact h1
        · by_cases q : t = m
          · subst q
            rw [h4 t (Nat.le_refl t), show 64 * t + (8 * c + k) = t * 64 + (8 * c + k) by omega]
            exact up_s _ _ _
          · exact h2 hfl t (by omega)
        · rw [h3 j hj]
          exact up_n _ _ (fun q => hj (by omega))
        · rw [h4 t (by omega)]
          exact up_n _ _ (by omega)
      by_cases hr : rdS P (Pl P c0 m) c
      · have hnu : nu P c0 c m = m := by rw [nu_s ht, if_pos (Or.inl hr)]
        have hR : isR P c0 c m := by rw [isR, hnu]; exact ⟨ht, hr⟩
        rw [if_pos (show m < Tk P c0 ∧ rdS P (Pl P c0 m) c from ⟨ht, hr⟩), if_neg (show ¬ (1 : Int32) = 0 by decide), rem8 (by omega), show (8 * c + k) % 8 = k by omega]
        obtain ⟨z1, z2, z3, z4, z5, z6, z7, gk3, rk3, h⟩ := l_fateFrom fu hP hc (by omega) hA hcc (by omega) hk hfl ht x1 x2 x3 x4 x5 x6 x7 gk rk
        have hQ : FF P c0 c (fm w k) m = Qf P c0 c (fm w k) m := by rw [Qf_r hR, hnu]
        rw [h, Option.bind_some, hQ]
        exact fin z1 z2 z3 z4 z5 z6 z7 gk3 rk3
      · rw [if_neg (show ¬ (m < Tk P c0 ∧ rdS P (Pl P c0 m) c) from fun z => hr z.2), if_pos rfl, c_isWritten fu hP hc hf hA hcc (by omega), Option.bind_some]
        by_cases hwr : wrS P (Pl P c0 m) c
        · have hnu : nu P c0 c m = m := by rw [nu_s ht, if_pos (Or.inr hwr)]
          have hR : ¬ isR P c0 c m := by rw [isR, hnu]; exact fun z => hr z.2
          have hQ : fN 0 0 0 (Tk P c0) = Qf P c0 c (fm w k) m := by rw [Qf_n hR, hnu, if_pos ht]
          rw [if_pos (show m < Tk P c0 ∧ wrS P (Pl P c0 m) c from ⟨ht, hwr⟩), if_neg (show ¬ (1 : Int32) = 0 by decide), show (0 : Int32) = nI 0 from rfl, c_unread fu 0 (by decide), Option.bind_some, hQ]
          exact fin x1 x2 x3 x4 x5 x6 x7 gk rk
        · have hnu : nu P c0 c m = nu P c0 c (m + 1) := by rw [nu_s ht, if_neg (fun z => z.elim hr hwr)]
          have hQ : Qf P c0 c (fm w k) (m + 1) = Qf P c0 c (fm w k) m := by
            unfold Qf Qa Qs Qh Qt isR
            rw [hnu]
          rw [if_neg (show ¬ (m < Tk P c0 ∧ wrS P (Pl P c0 m) c) from fun z => hwr z.2), if_pos rfl, hQ]
          exact fin x1 x2 x3 x4 x5 x6 x7 gk rk
    · rw [if_neg (show ¬ ((8 * c + k) % 8 + w ≤ 8) by omega), if_pos rfl]
      exact ⟨x1, x2, x3, x4, x5, x6, x7, gk, rk, f, rfl, fun z => absurd z hfl, fun _ _ => rfl, fun _ _ => rfl⟩
theorem l_tryO (fu : Nat) {P : PG} {c0 g r : Nat → Nat} {A : TA} (hP : okP P) (hc : ∀ j, j < 8 → c0 j < 256) (hf : 200 < fu) (hA : TrOK P c0 g r A) (k137 : K10) {w : Nat} (hw : w = 1 ∨ w = 2) :
    ∀ (m n p : Nat) (x1 x2 x3 x4 x5 x6 x7 : Int32) (gk rk f : Nat → Nat), p + m = 64 → m < n →
    ∃ (y1 y2 y3 y4 y5 y6 y7 : Int32) (gk2 rk2 f2 : Nat → Nat), fr_X2_tryAll_16 fu (nI P.1) (aN P.2.1) (aN P.2.2.1) (aN P.2.2.2) (nI (Pl P c0 100).k) (nI (Tk P c0)) (aN r) (aN A.1) (aN A.2.1) (aN A.2.2.1) (aN A.2.2.2.1) (aN A.2.2.2.2) (nI w) (nI w) k137 n x1 x2 x3 x4 x5 x6 x7 (aN gk) (aN rk) (aN f) (nI p)
        = k137 y1 y2 y3 y4 y5 y6 y7 (aN gk2) (aN rk2) (aN f2) ∧ (∀ t c k, t < Tk P c0 → c < 8 → k + w ≤ 8 → p ≤ 8 * c + k → f2 (64 * t + (8 * c + k)) = Qf P c0 c (fm w k) t) ∧ (∀ j, j % 64 < p → f2 j = f j) := by
  have hT := Tk_le P c0
  intro m
  induction m with
  | zero =>
    intro n p x1 x2 x3 x4 x5 x6 x7 gk rk f hp hn
    obtain ⟨n, rfl⟩ : ∃ z, n = z + 1 := ⟨n - 1, by omega⟩
    refine ⟨x1, x2, x3, x4, x5, x6, x7, gk, rk, f, ?_, fun t c k _ _ _ _ => by omega, fun _ _ => rfl⟩
    rw [fr_X2_tryAll_16, if_pos (show (64 : Int32) ≤ nI p from nI_le (a := 64) (b := p) (by omega) (by omega))]
  | succ m ih =>
    intro n p x1 x2 x3 x4 x5 x6 x7 gk rk f hp hn
    obtain ⟨n, rfl⟩ : ∃ z, n = z + 1 := ⟨n - 1, by omega⟩
    have hQ : fN 0 1 0 (Tk P c0) = Qf P c0 (p / 8 % 8) (fm w (p % 8)) (Tk P c0) := by
      have hR : ¬ isR P c0 (p / 8 % 8) (Tk P c0) := by rw [isR, nu_T]; exact fun z => absurd z.1 (Nat.lt_irrefl _)
      rw [Qf_n hR, nu_T, if_neg (Nat.lt_irrefl _)]
    have hpe : p = 8 * (p / 8 % 8) + p % 8 := by omega
    obtain ⟨y1, y2, y3, y4, y5, y6, y7, gk2, rk2, f2, h1, h2, h3, -⟩ := l_tryI fu hP hc hf hA (fun e1 e2 e3 e4 e5 e6 e7 e8 e9 e10 => fr_X2_tryAll_16 fu (nI P.1) (aN P.2.1) (aN P.2.2.1) (aN P.2.2.2) (nI (Pl P c0 100).k) (nI (Tk P c0)) (aN r) (aN A.1) (aN A.2.1) (aN A.2.2.1) (aN A.2.2.2.1) (aN A.2.2.2.2) (nI w) (nI w) k137 n e1 e2 e3 e4 e5 e6 e7 e8 e9 e10 (nI p + 1)) (c := p / 8 % 8) (k := p % 8) (by omega) hw (by omega) (Tk P c0) fu x1 x2 x3 x4 x5 x6 x7 gk rk f (Nat.le_refl _) (by omega)
    obtain ⟨u1, u2, u3, u4, u5, u6, u7, gk3, rk3, f3, i1, i2, i3⟩ := ih n (p + 1) y1 y2 y3 y4 y5 y6 y7 gk2 rk2 f2 (by omega) (by omega)
    refine ⟨u1, u2, u3, u4, u5, u6, u7, gk3, rk3, f3, ?_, fun t c k ht hcc hk hpk => ?_, fun j hj => ?_⟩
    · rw [fr_X2_tryAll_16, if_neg (show ¬ (64 : Int32) ≤ nI p from nI_ge (a := p) (b := 64) (by omega) (by decide)), l_cellOf fu (by omega), Option.bind_some, show (1 : Int32) = nI 1 from rfl, c_unread fu 1 (by decide), Option.bind_some, hQ, show nI 1 = (1 : Int32) from rfl, sub1]
      rw [← hpe] at h1
      rw [nI_1] at h1 ⊢
      exact h1.trans i1
    · by_cases q : p = 8 * c + k
      · have e1 : p / 8 % 8 = c := by omega
        have e2 : p % 8 = k := by omega
        rw [i3 _ (by omega)]
        have := h2 (by omega) t ht
        rw [e1, e2] at this
        exact this
      · exact i2 t c k ht hcc hk (by omega)
    · rw [i3 j (by omega)]
      exact h3 j (by omega)
/-- tryAll(): the fates of the width, whatever stood there -/
theorem c_tryAll (fu : Nat) {P : PG} {c0 g r : Nat → Nat} {A : TA} (hP : okP P) (hc : ∀ j, j < 8 → c0 j < 256) (hf : 200 < fu) (hA : TrOK P c0 g r A) {w w0 : Nat} (hw : w = 1 ∨ w = 2) (hw0 : w0 < 3) (f : Nat → Nat) (h0 : w0 = 0 ∨ FO P c0 w0 f) (x1 x2 x3 x4 x5 x6 x7 : Int32) (gk rk : Nat → Nat) :
    ∃ (y1 y2 y3 y4 y5 y6 y7 : Int32) (gk2 rk2 f2 : Nat → Nat), f_X2_tryAll fu (nI P.1) (aN P.2.1) (aN P.2.2.1) (aN P.2.2.2) (nI (Pl P c0 100).k) (nI (Tk P c0)) (aN r) (aN A.1) (aN A.2.1) (aN A.2.2.1) (aN A.2.2.2.1) (aN A.2.2.2.2) (nI w0) x1 x2 x3 x4 x5 x6 x7 (aN gk) (aN rk) (aN f) (nI w)
        = some (nI w, y1, y2, y3, y4, y5, y6, y7, aN gk2, aN rk2, aN f2) ∧ FO P c0 w f2 := by
  unfold f_X2_tryAll
  by_cases q : w0 = w
  · subst q
    rw [if_pos rfl]
    exact ⟨x1, x2, x3, x4, x5, x6, x7, gk, rk, f, rfl, h0.resolve_left (by omega)⟩
  · rw [if_neg (fun z => q ((nI_eq (a := w0) (b := w) (by omega) (by omega)).mp z))]
    obtain ⟨y1, y2, y3, y4, y5, y6, y7, gk2, rk2, f2, h1, h2, -⟩ := l_tryO fu hP hc hf hA (fun e1 e2 e3 e4 e5 e6 e7 e8 e9 e10 => some (nI w, e1, e2, e3, e4, e5, e6, e7, e8, e9, e10)) hw 64 fu 0 x1 x2 x3 x4 x5 x6 x7 gk rk f rfl (by omega)
    exact ⟨y1, y2, y3, y4, y5, y6, y7, gk2, rk2, f2, h1, fun t c k ht hcc hk => h2 t c k ht hcc hk (Nat.zero_le _)⟩
