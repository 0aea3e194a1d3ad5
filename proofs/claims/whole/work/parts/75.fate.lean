/-! FATES -/
/-- how many places of two rows are unlike -/
def qH (r1 : Nat → Nat) (k1 : Nat) (r2 : Nat → Nat) (k2 : Nat) : Nat := fb_ct (fun i => decide (k1 ≤ i ∨ k2 ≤ i ∨ ¬ r1 i = r2 i)) (if k1 < k2 then k2 else k1)
theorem qH_e {r1 r2 s1 s2 : Nat → Nat} {k1 k2 : Nat} (h1 : ∀ j, j < k1 → r1 j = s1 j) (h2 : ∀ j, j < k2 → r2 j = s2 j) : qH r1 k1 r2 k2 = qH s1 k1 s2 k2 := by
  unfold qH
  refine fb_ct_cong (fun i _ => ?_)
  by_cases q1 : k1 ≤ i
  · simp [q1]
  · by_cases q2 : k2 ≤ i
    · simp [q2]
    · rw [h1 i (by omega), h2 i (by omega)]
theorem qH_le (r1 : Nat → Nat) {k1 : Nat} (r2 : Nat → Nat) {k2 : Nat} (h1 : k1 ≤ 12) (h2 : k2 ≤ 12) : qH r1 k1 r2 k2 ≤ 12 := by
  unfold qH
  refine Nat.le_trans (fb_ct_le _ _) ?_
  split <;> omega
theorem qH_split (r1 : Nat → Nat) (k1 : Nat) (r2 : Nat → Nat) (k2 : Nat) : qH r1 k1 r2 k2 = ((if k1 < k2 then k2 else k1) - (if k2 < k1 then k2 else k1)) + fb_ct (fun i => decide (¬ r1 i = r2 i)) (if k2 < k1 then k2 else k1) := by
  unfold qH
  have e : (if k1 < k2 then k2 else k1) = (if k2 < k1 then k2 else k1) + ((if k1 < k2 then k2 else k1) - (if k2 < k1 then k2 else k1)) := by split <;> split <;> omega
  have h1 : fb_ct (fun i => decide (k1 ≤ i ∨ k2 ≤ i ∨ ¬ r1 i = r2 i)) (if k2 < k1 then k2 else k1) = fb_ct (fun i => decide (¬ r1 i = r2 i)) (if k2 < k1 then k2 else k1) := by
    refine fb_ct_cong (fun i hi => ?_)
    have q1 : ¬ k1 ≤ i := by split at hi <;> omega
    have q2 : ¬ k2 ≤ i := by split at hi <;> omega
    simp [q1, q2]
  have h2 : fb_ct (fun i => decide (k1 ≤ (if k2 < k1 then k2 else k1) + i ∨ k2 ≤ (if k2 < k1 then k2 else k1) + i ∨ ¬ r1 ((if k2 < k1 then k2 else k1) + i) = r2 ((if k2 < k1 then k2 else k1) + i))) ((if k1 < k2 then k2 else k1) - (if k2 < k1 then k2 else k1)) = (if k1 < k2 then k2 else k1) - (if k2 < k1 then k2 else k1) := by
    refine fb_ct_all.mpr (fun i hi => decide_eq_true ?_)
    by_cases q : k2 < k1
    · rw [if_pos q]; exact Or.inr (Or.inl (by omega))
    · rw [if_neg q]; exact Or.inl (by omega)
  rw [e, fb_ct_split, h1, h2]
  omega
theorem l_unlike (fu : Nat) {r1 r2 : Nat → Nat} {b : Nat} (hb : b ≤ 12) (hr1 : ∀ i, i < b → r1 i < 2 ^ 31) (hr2 : ∀ i, i < b → r2 i < 2 ^ 31) (k78 : Int32 → Option Int32) : ∀ (m n i s : Nat), i + m = b → m < n →
    fr_X2_unlikePlaces_43 fu (aN r1) (aN r2) (nI b) k78 n (nI s) (nI i) = k78 (nI (s + fb_ct (fun j => decide (¬ r1 (i + j) = r2 (i + j))) m)) := by
  intro m
  induction m with
  | zero =>
    intro n i s hi hn
    obtain ⟨n, rfl⟩ : ∃ z, n = z + 1 := ⟨n - 1, by omega⟩
    rw [fr_X2_unlikePlaces_43, if_pos (nI_le (by omega) (by omega))]
    rfl
  | succ m ih =>
    intro n i s hi hn
    obtain ⟨n, rfl⟩ : ∃ z, n = z + 1 := ⟨n - 1, by omega⟩
    have hin : inR (nI i) 12 := in_i (by omega) (by decide)
    have hs : fb_ct (fun j => decide (¬ r1 (i + j) = r2 (i + j))) (m + 1) = (if ¬ r1 i = r2 i then 1 else 0) + fb_ct (fun j => decide (¬ r1 (i + 1 + j) = r2 (i + 1 + j))) m := by
      rw [show m + 1 = 1 + m by omega, fb_ct_split]
      congr 1
      · rw [fb_ct_succ]
        show 0 + (if decide (¬ r1 (i + 0) = r2 (i + 0)) = true then 1 else 0) = _
        rw [Nat.zero_add, Nat.add_zero]
        simp only [decide_eq_true_eq]
      · refine fb_ct_cong (fun j _ => ?_)
        rw [show i + (1 + j) = i + 1 + j by omega]
    rw [fr_X2_unlikePlaces_43, if_neg (nI_ge (by omega) (by omega)), if_pos hin, if_pos hin, aN_at _ (by omega), aN_at _ (by omega), hs]
    by_cases q : r1 i = r2 i
    · rw [if_pos (by rw [q]), nI_1, ih n (i + 1) s (by omega) (by omega), if_neg (fun w => w q), Nat.zero_add]
    · rw [if_neg (fun w => q ((nI_eq (hr1 i (by omega)) (hr2 i (by omega))).mp w)), nI_1, nI_1, ih n (i + 1) (s + 1) (by omega) (by omega), if_pos q, Nat.add_assoc]
theorem l_unlikeF (fu : Nat) {r1 r2 : Nat → Nat} {k1 k2 : Nat} (h1 : k1 ≤ 12) (h2 : k2 ≤ 12) (hr1 : ∀ i, i < k1 → r1 i < 2 ^ 31) (hr2 : ∀ i, i < k2 → r2 i < 2 ^ 31) (hf : 100 < fu) :
    f_X2_unlikePlaces fu (nI k1) (aN r1) (nI k2) (aN r2) = some (nI (qH r1 k1 r2 k2)) := by
  unfold f_X2_unlikePlaces
  have e1 : (if nI k2 < nI k1 then nI k2 else nI k1) = nI (if k2 < k1 then k2 else k1) := by
    by_cases q : k2 < k1
    · rw [if_pos (nI_lt q (by omega)), if_pos q]
    · rw [if_neg (nI_nlt (by omega) (by omega)), if_neg q]
  have e2 : (if nI k1 < nI k2 then nI k2 else nI k1) = nI (if k1 < k2 then k2 else k1) := by
    by_cases q : k1 < k2
    · rw [if_pos (nI_lt q (by omega)), if_pos q]
    · rw [if_neg (nI_nlt (by omega) (by omega)), if_neg q]
  rw [e1, e2, pk_sub (by split <;> split <;> omega), show (0 : Int32) = nI 0 from rfl]
  rw [l_unlike fu (b := if k2 < k1 then k2 else k1) (by split <;> omega) (fun i hi => hr1 i (by split at hi <;> omega)) (fun i hi => hr2 i (by split at hi <;> omega)) _ (if k2 < k1 then k2 else k1) fu 0 _ (by omega) (by split <;> omega), qH_split]
  simp only [Nat.zero_add]
/-- a fate as a number -/
abbrev fN (a s h t : Nat) : Nat := a + 8 * s + 16 * h + 256 * t
theorem or_low {a b k : Nat} (h : a < 2 ^ k) : a ||| 2 ^ k * b = a + 2 ^ k * b := by rw [Nat.or_comm, ← Nat.two_pow_add_eq_or_of_lt h, Nat.add_comm]
theorem l_of (fu : Nat) {a s h t : Nat} (ha : a < 8) (hs : s < 2) (hh : h < 16) (ht : t < 2 ^ 20) : f_X1_of fu (nI a) (nI s) (nI h) (nI t) = some (nI (fN a s h t)) := by
  unfold f_X1_of
  have e4 : nI h <<< ((4 : Int32) &&& 31) = nI (2 ^ 4 * h) := by rw [pk_shlN _ 4 (by decide) (by omega), Nat.mul_comm]
  have e8 : nI t <<< ((8 : Int32) &&& 31) = nI (2 ^ 8 * t) := by rw [pk_shlN _ 8 (by decide) (by omega), Nat.mul_comm]
  rw [e4, e8]
  rcases (show s = 0 ∨ s = 1 by omega) with rfl | rfl
  · have e : a + 2 ^ 4 * h + 2 ^ 8 * t = fN a 0 h t := by
      show _ = a + 8 * 0 + 16 * h + 256 * t
      omega
    rw [if_pos (show nI 0 = (0 : Int32) from rfl), show (0 : Int32) = nI 0 from rfl, fa_or, fa_or, fa_or, Nat.or_zero, or_low (k := 4) (by omega), or_low (k := 8) (by omega), e]
  · rw [if_neg (by decide), show (8 : Int32) = nI (2 ^ 3 * 1) from rfl, fa_or, fa_or, fa_or, or_low (k := 3) (by omega), or_low (k := 4) (by omega), or_low (k := 8) (by omega)]
abbrev fm (w k : Nat) : Nat := (2 ^ w - 1) * 2 ^ k
theorem msk : ∀ w, w < 3 → ∀ k, k < 8 → ((((1 : Int32) <<< (nI w &&& 31)) - (1 : Int32)) <<< (nI k &&& 31)) = nI (fm w k) := by decide +kernel
theorem fm_lt : ∀ w, w < 3 → ∀ k, k < 8 → k + w ≤ 8 → fm w k < 256 := by decide +kernel
/-- a run with a flip from tick u on -/
def FS (P : PG) (c0 : Nat → Nat) (c v u : Nat) : MS := (va_up (Pl P c0 u).g c ((Pl P c0 u).g c ^^^ v), (Pl P c0 u).r, (Pl P c0 u).k, (Pl P c0 u).i, 3)
abbrev FE (P : PG) (c0 : Nat → Nat) (c v u : Nat) : MS := qI P (FS P c0 c v u) (100 - u)
abbrev FT (P : PG) (c0 : Nat → Nat) (c v u : Nat) : Nat := u + qT P (FS P c0 c v u) (100 - u)
abbrev FH (P : PG) (c0 : Nat → Nat) (c v u : Nat) : Nat := qH (Pl P c0 100).r (Pl P c0 100).k (FE P c0 c v u).r (FE P c0 c v u).k
def FL (P : PG) (c0 : Nat → Nat) (c v u : Nat) : Nat := if (qV P (FS P c0 c v u) 0 (100 - u)).testBit c = true then 0 else 1
/-- the fate of a flip that is read first at tick u -/
def FF (P : PG) (c0 : Nat → Nat) (c v u : Nat) : Nat := if (FE P c0 c v u).e = 1 then fN 3 0 0 (FT P c0 c v u) else if (FE P c0 c v u).e = 3 then fN 4 0 0 (FT P c0 c v u) else fN (if FH P c0 c v u = 0 then 1 else 5) (FL P c0 c v u) (FH P c0 c v u) (FT P c0 c v u)
theorem qV_sim {P : PG} (hP : okP P) : ∀ (m w : Nat) (S S2 : MS), okS P S → sim S S2 → qV P S w m = qV P S2 w m
  | 0, _, _, _, _, _ => rfl
  | m + 1, w, S, S2, hS, h => by
    by_cases he : S.e = 3
    · rw [qV, if_pos he, qV, if_pos (h.2.2.2.2 ▸ he), wMs_e hP (hS.2.2.2.1 he) h]; exact qV_sim hP m _ _ _ (qS_ok hP hS he) (qS_sim hP hS he h)
    · rw [qV, if_neg he, qV, if_neg (h.2.2.2.2 ▸ he)]
theorem qV_lt {P : PG} (hP : okP P) : ∀ (m w : Nat) (S : MS), okS P S → w < 2 ^ 8 → qV P S w m < 2 ^ 8
  | 0, _, _, _, h => h
  | m + 1, w, S, hS, h => by
    by_cases he : S.e = 3
    · rw [qV, if_pos he]; exact qV_lt hP m _ _ (qS_ok hP hS he) (Nat.or_lt_two_pow h (wM_lt (hP.2 _ (hS.2.2.2.1 he))))
    · rw [qV, if_neg he]; exact h
/-- rows that were told stay -/
theorem row_b {P : PG} (hP : okP P) : ∀ (m : Nat) (S : MS), okS P S → (∀ j, j < S.k → S.r j < 256) → ∀ j, j < (qI P S m).k → (qI P S m).r j < 256
  | 0, _, _, h => h
  | m + 1, S, hS, h => by
    by_cases he : S.e = 3
    · rw [qI_go he]
      refine row_b hP m _ (qS_ok hP hS he) ?_
      intro j hj
      have ho := hP.2 _ (hS.2.2.2.1 he)
      change j < qK _ _ at hj
      show qR _ _ _ _ _ j < 256
      unfold qK at hj
      unfold qR
      by_cases q : P.2.1 S.i = 8 ∧ ¬ S.k = 12
      · rw [if_pos q] at hj ⊢
        by_cases w : j = S.k
        · subst w; rw [up_s]; exact hS.1 _ (ho.2.2.2.1 (by omega) (by omega))
        · rw [up_n _ _ w]; exact h j (by omega)
      · rw [if_neg q] at hj ⊢; exact h j hj
    · rw [qI_no he]; exact h
theorem row_k {P : PG} : ∀ (m : Nat) (S : MS), S.k ≤ (qI P S m).k ∧ ∀ j, j < S.k → (qI P S m).r j = S.r j
  | 0, _ => ⟨Nat.le_refl _, fun _ _ => rfl⟩
  | m + 1, S => by
    by_cases he : S.e = 3
    · rw [qI_go he]
      obtain ⟨h1, h2⟩ := row_k (P := P) m (qS P S)
      have hk : S.k ≤ (qS P S).k := by
        show S.k ≤ qK _ _
        unfold qK
        split <;> omega
      refine ⟨Nat.le_trans hk h1, fun j hj => ?_⟩
      rw [h2 j (by omega)]
      show qR _ _ _ _ _ j = S.r j
      unfold qR
      split
      · exact up_n _ _ (by omega)
      · rfl
    · rw [qI_no he]; exact ⟨Nat.le_refl _, fun _ _ => rfl⟩
theorem FS_ok {P : PG} {c0 : Nat → Nat} (hP : okP P) (hc : ∀ j, j < 8 → c0 j < 256) {c v u : Nat} (hcc : c < 8) (hv : v < 256) (hu : u < Tk P c0) : okS P (FS P c0 c v u) := by
  have h := qI_ok hP u _ (S0_ok (P := P) (r := fun _ => 0) hc)
  have he := qT_lt P 100 _ u hu
  exact ⟨up_b h.1 (xor_b (h.1 c hcc) hv), h.2.1, h.2.2.1, fun _ => h.2.2.2.1 he, Or.inr (Or.inr rfl)⟩
theorem Tk_le (P : PG) (c0 : Nat → Nat) : Tk P c0 ≤ 100 := qT_le P 100 _
set_option maxHeartbeats 4000000 in
/-- fateFromReading() -/
theorem l_fateFrom (fu : Nat) {P : PG} {c0 g r : Nat → Nat} {A : TA} (hP : okP P) (hc : ∀ j, j < 8 → c0 j < 256) (hf : 100 < fu) (hA : TrOK P c0 g r A) {c k w u : Nat} (hcc : c < 8) (hw : w < 3) (hk : k < 8) (hkw : k + w ≤ 8) (hu : u < Tk P c0)
    (x1 x2 x3 x4 x5 x6 x7 : Int32) (gk rk : Nat → Nat) :
    ∃ (y1 y2 y3 y4 y5 y6 y7 : Int32) (gk2 rk2 : Nat → Nat), f_X2_fateFromReading fu (nI P.1) (aN P.2.1) (aN P.2.2.1) (aN P.2.2.2) (nI (Pl P c0 100).k) (aN r) (aN A.1) (aN A.2.1) (aN A.2.2.1) x1 x2 x3 x4 x5 x6 x7 (aN gk) (aN rk) (nI c) (nI k) (nI w) (nI u)
      = some (nI (FF P c0 c (fm w k) u), y1, y2, y3, y4, y5, y6, y7, aN gk2, aN rk2) := by
  obtain ⟨hA1, hA2, hA3⟩ := hA
  obtain ⟨hB1, hB2, hB3, hB4, hB5⟩ := hA3 u hu
  have hT := Tk_le P c0
  have hPl := qI_ok hP u _ (S0_ok (P := P) (r := fun _ => 0) hc)
  have hPe := qI_ok hP 100 _ (S0_ok (P := P) (r := fun _ => 0) hc)
  have hgo := qT_lt P 100 _ u hu
  have hi : (Pl P c0 u).i < P.1 := hPl.2.2.2.1 hgo
  have hv := fm_lt w hw k hk hkw
  have hFS := FS_ok hP hc hcc hv hu
  have hkr : (Pl P c0 u).k ≤ (Pl P c0 100).k ∧ ∀ j, j < (Pl P c0 u).k → (Pl P c0 100).r j = (Pl P c0 u).r j := by
    have := row_k (P := P) (100 - u) (Pl P c0 u)
    rw [show qI P (Pl P c0 u) (100 - u) = Pl P c0 100 by rw [qI_add]; congr 1; omega] at this
    exact this
  have hrb : ∀ j, j < (Pl P c0 100).k → (Pl P c0 100).r j < 256 := row_b hP 100 _ (S0_ok hc) (fun j hj => absurd hj (Nat.not_lt_zero j))
  unfold f_X2_fateFromReading f_X5_lead
  have hin : inR (nI u) 100 := in_i (by omega) (by decide)
  have hk12 : (Pl P c0 u).k ≤ 12 := hPl.2.1
  have hc8 : inR (nI c) 8 := in_i hcc (by decide)
  rw [m8 (by omega), show ((0 : Int32).toNatClampNeg) = 0 from rfl, show ((8 : Int32).toNatClampNeg) = 8 from rfl, nI_clamp (n := 8 * u) (by omega), aN_at _ (by omega), aN_at _ (by omega), hB2, hB3, nI_clamp (n := (Pl P c0 u).k) (by omega),
    if_pos (show (¬ nI (8 * u) < 0 ∧ ¬ (0 : Int32) < 0 ∧ ¬ (8 : Int32) < 0 ∧ 8 * u + 8 ≤ 800 ∧ 0 + 8 ≤ 8) from ⟨nI_pos (by omega), by decide, by decide, by omega, by omega⟩), if_pos hin,
    if_pos (show (¬ (0 : Int32) < 0 ∧ ¬ (0 : Int32) < 0 ∧ ¬ nI (Pl P c0 u).k < 0 ∧ 0 + (Pl P c0 u).k ≤ 12 ∧ 0 + (Pl P c0 u).k ≤ 12) from ⟨by decide, by decide, nI_pos (by omega), by omega, by omega⟩), if_pos hin, if_pos hin,
    l_standAt fu _ _ _ _ _ hP.1 (by omega), Option.bind_some, Option.bind_some, if_pos hc8, if_pos hc8, cN, cN]
  dsimp only
  rw [aN_at _ (by omega), msk w hw k hk, fb_xorI, aN_up _ _ (by omega), if_pos hi]
  -- the struck machine's state, and the flip's
  have hcp : ∀ j, j < 8 → va_cpy A.1 gk (8 * u) 0 8 j = (Pl P c0 u).g j := fun j hj => by rw [pk_cpy_in (by omega) (by omega), show 8 * u + (j - 0) = 8 * u + j by omega]; exact hB1 j hj
  have hsim : sim ((va_up (va_cpy A.1 gk (8 * u) 0 8) c (va_cpy A.1 gk (8 * u) 0 8 c ^^^ fm w k), va_cpy r rk 0 0 (Pl P c0 u).k, (Pl P c0 u).k, (Pl P c0 u).i, 3) : MS) (FS P c0 c (fm w k) u) := by
    refine ⟨up_e hcp (by rw [hcp c hcc]), fun j hj => ?_, rfl, rfl, rfl⟩
    have hj : j < (Pl P c0 u).k := hj
    show va_cpy r rk 0 0 (Pl P c0 u).k j = (Pl P c0 u).r j
    rw [pk_cpy_in (by omega) (by omega), show 0 + (j - 0) = j by omega, hA2 j (by omega), hkr.2 j hj]
  have hok : okS P ((va_up (va_cpy A.1 gk (8 * u) 0 8) c (va_cpy A.1 gk (8 * u) 0 8 c ^^^ fm w k), va_cpy r rk 0 0 (Pl P c0 u).k, (Pl P c0 u).k, (Pl P c0 u).i, 3) : MS) := by
    refine ⟨fun j hj => ?_, hPl.2.1, hPl.2.2.1, fun _ => hi, Or.inr (Or.inr rfl)⟩
    rw [hsim.1 j hj]; exact hFS.1 j hj
  obtain ⟨rn2, wn2, hgoOn⟩ := l_goOnF fu hP (t := u) (ws := 0) x5 x6 (by omega) hf hok
  have hE := qI_sim hP (100 - u) _ _ hok hsim
  have hTT := qT_sim hP (100 - u) _ _ hok hsim
  have hVV := qV_sim hP (100 - u) 0 _ _ hok hsim
  have hFE := qI_ok hP (100 - u) _ hFS
  have hVl := qV_lt hP (100 - u) 0 _ hFS (by decide)
  have hrb2 : ∀ j, j < (FE P c0 c (fm w k) u).k → (FE P c0 c (fm w k) u).r j < 256 := row_b hP (100 - u) _ hFS (fun j hj => by
    show (Pl P c0 u).r j < 256
    rw [← hkr.2 j hj]; exact hrb j (Nat.lt_of_lt_of_le hj hkr.1))
  have hTl := qT_le P (100 - u) (FS P c0 c (fm w k) u)
  rw [show f_X3_goOn fu (nI P.1) (aN P.2.1) (aN P.2.2.1) (aN P.2.2.2) (nI (Pl P c0 u).k) (nI (Pl P c0 u).i) (nI u) (nI 3) x5 x6 (0 : Int32) (aN (va_up (va_cpy A.1 gk (8 * u) 0 8) c (va_cpy A.1 gk (8 * u) 0 8 c ^^^ fm w k))) (aN (va_cpy r rk 0 0 (Pl P c0 u).k)) = _ from hgoOn, Option.bind_some, hE.2.2.1, hE.2.2.2.2, hTT, hVV]
  dsimp only
  have hVl3 : qV P (FS P c0 c (fm w k) u) 0 (100 - u) < 2 ^ 31 := Nat.lt_trans hVl (by decide)
  unfold FF
  rcases hFE.2.2.2.2 with z | z | z
  · have zE : (FE P c0 c (fm w k) u).e = 0 := z
    rw [if_neg (show ¬ (FE P c0 c (fm w k) u).e = 1 by omega), if_neg (show ¬ (FE P c0 c (fm w k) u).e = 3 by omega)]
    rw [show qO (qI P (FS P c0 c (fm w k) u) (100 - u)).e = 0 by rw [z]; rfl, if_neg (show ¬ nI 0 = (1 : Int32) by decide), if_neg (show ¬ nI 0 = (2 : Int32) by decide)]
    have hun := l_unlikeF fu (r1 := r) (r2 := (qI P ((va_up (va_cpy A.1 gk (8 * u) 0 8) c (va_cpy A.1 gk (8 * u) 0 8 c ^^^ fm w k), va_cpy r rk 0 0 (Pl P c0 u).k, (Pl P c0 u).k, (Pl P c0 u).i, 3) : MS) (100 - u)).r) (k1 := (Pl P c0 100).k) (k2 := (FE P c0 c (fm w k) u).k) hPe.2.1 hFE.2.1 (fun i hi => by rw [hA2 i hi]; have := hrb i hi; omega) (fun i hi => by rw [hE.2.1 i (by rw [hE.2.2.1]; exact hi)]; exact Nat.lt_trans (hrb2 i hi) (by decide)) hf
    rw [qH_e hA2 (fun j hj => hE.2.1 j (by rw [hE.2.2.1]; exact hj))] at hun
    have hun := hun.trans (show some (nI (qH _ _ _ _)) = some (nI (FH P c0 c (fm w k) u)) from rfl)
    have hH12 : FH P c0 c (fm w k) u ≤ 12 := qH_le (Pl P c0 100).r (FE P c0 c (fm w k) u).r hPe.2.1 hFE.2.1
    unfold FL
    by_cases hb : (qV P (FS P c0 c (fm w k) u) 0 (100 - u)).testBit c = true
    · rw [if_neg (fun q => by rw [(bit_c hVl3 hcc).mp q] at hb; cases hb), hun, Option.bind_some, if_pos hb]
      by_cases hz : FH P c0 c (fm w k) u = 0
      · rw [if_pos (show nI (FH P c0 c (fm w k) u) = (0 : Int32) by rw [hz]; rfl), if_pos hz, show (1 : Int32) = nI 1 from rfl, show (0 : Int32) = nI 0 from rfl, l_of fu (by decide) (by decide) (by omega) (by omega), Option.bind_some]
        exact ⟨_, _, _, _, _, _, _, _, _, rfl⟩
      · rw [if_neg (show ¬ nI (FH P c0 c (fm w k) u) = (0 : Int32) from nI_ne0 (by omega) (by omega)), if_neg hz, show (5 : Int32) = nI 5 from rfl, show (0 : Int32) = nI 0 from rfl, l_of fu (by decide) (by decide) (by omega) (by omega), Option.bind_some]
        exact ⟨_, _, _, _, _, _, _, _, _, rfl⟩
    · rw [if_pos ((bit_c hVl3 hcc).mpr (Bool.eq_false_iff.mpr hb)), hun, Option.bind_some, if_neg hb]
      by_cases hz : FH P c0 c (fm w k) u = 0
      · rw [if_pos (show nI (FH P c0 c (fm w k) u) = (0 : Int32) by rw [hz]; rfl), if_pos hz, show (1 : Int32) = nI 1 from rfl, l_of fu (by decide) (by decide) (by omega) (by omega), Option.bind_some]
        exact ⟨_, _, _, _, _, _, _, _, _, rfl⟩
      · rw [if_neg (show ¬ nI (FH P c0 c (fm w k) u) = (0 : Int32) from nI_ne0 (by omega) (by omega)), if_neg hz, show (5 : Int32) = nI 5 from rfl, show (1 : Int32) = nI 1 from rfl, l_of fu (by decide) (by decide) (by omega) (by omega), Option.bind_some]
        exact ⟨_, _, _, _, _, _, _, _, _, rfl⟩
  · rw [if_pos z, show qO (qI P (FS P c0 c (fm w k) u) (100 - u)).e = 1 by rw [z]; rfl, if_pos (show nI 1 = (1 : Int32) from rfl), show (3 : Int32) = nI 3 from rfl, show (0 : Int32) = nI 0 from rfl, l_of fu (by decide) (by decide) (by decide) (by omega), Option.bind_some]
    exact ⟨_, _, _, _, _, _, _, _, _, rfl⟩
  · have zE : (FE P c0 c (fm w k) u).e = 3 := z
    rw [if_neg (show ¬ (FE P c0 c (fm w k) u).e = 1 by omega), if_pos z, show qO (qI P (FS P c0 c (fm w k) u) (100 - u)).e = 2 by rw [z]; rfl, if_neg (show ¬ nI 2 = (1 : Int32) by decide), if_pos (show nI 2 = (2 : Int32) from rfl), show (4 : Int32) = nI 4 from rfl, show (0 : Int32) = nI 0 from rfl, l_of fu (by decide) (by decide) (by decide) (by omega), Option.bind_some]
    exact ⟨_, _, _, _, _, _, _, _, _, rfl⟩
