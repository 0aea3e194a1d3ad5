/-! ARGUMENTS -/
/-! THE CLASS'S FATES OF A WIDTH -/
theorem FO_at {P : PG} {c0 f : Nat → Nat} {w : Nat} (h : FO P c0 w f) {x : Nat} (hx : x < 64 * Tk P c0) (hf : x % 8 + w ≤ 8) : f x = Qf P c0 (x / 8 % 8) (fm w (x % 8)) (x / 64) := by
  have := h (x / 64) (x / 8 % 8) (x % 8) (by omega) (by omega) hf
  rw [show 64 * (x / 64) + (8 * (x / 8 % 8) + x % 8) = x by omega] at this
  exact this
theorem c_kindX (fu : Nat) {P : PG} {c0 : Nat → Nat} (hP : okP P) (hc : ∀ j, j < 8 → c0 j < 256) (hf : 200 < fu) {f kc : Nat → Nat} (hk : ∀ j, j < 8 → kc j < 4) {w : Nat} (hw : w = 1 ∨ w = 2) (h : FO P c0 w f) {x : Nat} (hx : x < 64 * Tk P c0) (hf2 : x % 8 + w ≤ 8) : f_X2_kindOf fu (aN kc) (nI w) (aN f) (nI x) = some (nI (KX P c0 w (kc (x / 8 % 8)) x)) := by
  have hT := Tk_le P c0
  have hcc : x / 8 % 8 < 8 := by omega
  obtain ⟨b1, b2, b3, b4⟩ := fl_b (t := x / 64) hP hc hcc hw hf2
  unfold f_X2_kindOf
  rw [if_pos (show inR (nI x) 6400 from in_i (by omega) (by decide)), l_cellOf fu (by omega), Option.bind_some, if_pos (show inR (nI (x / 8 % 8)) 8 from in_i hcc (by decide)), aN_at _ (by omega), aN_at _ (by omega), FO_at h hx hf2, l_kindU fu (by omega) b2 b3 b4 (hk _ hcc) (by omega), Option.bind_some]
  rfl
theorem c_harmX (fu : Nat) {P : PG} {c0 : Nat → Nat} (hP : okP P) (hc : ∀ j, j < 8 → c0 j < 256) (hf : 200 < fu) {f kc : Nat → Nat} (hk : ∀ j, j < 8 → kc j < 4) {w : Nat} (hw : w = 1 ∨ w = 2) (h : FO P c0 w f) {x : Nat} (hx : x < 64 * Tk P c0) (hf2 : x % 8 + w ≤ 8) : f_X2_harmOf fu (aN kc) (nI w) (aN f) (nI x) = some (nI (HD P c0 (x / 8 % 8) (x % 8) w (x / 64) (kc (x / 8 % 8)))) := by
  have hT := Tk_le P c0
  have hcc : x / 8 % 8 < 8 := by omega
  obtain ⟨b1, b2, b3, b4⟩ := fl_b (t := x / 64) hP hc hcc hw hf2
  unfold f_X2_harmOf
  rw [if_pos (show inR (nI x) 6400 from in_i (by omega) (by decide)), l_cellOf fu (by omega), Option.bind_some, if_pos (show inR (nI (x / 8 % 8)) 8 from in_i hcc (by decide)), aN_at _ (by omega), aN_at _ (by omega), FO_at h hx hf2, l_harmU fu b1 b2 b3 b4 (hk _ hcc) (by omega), Option.bind_some]
  rfl
theorem c_silentX (fu : Nat) {P : PG} {c0 : Nat → Nat} (hP : okP P) (hc : ∀ j, j < 8 → c0 j < 256) (hf : 200 < fu) {f : Nat → Nat} {w so : Nat} (hso : so < 4) (hw : w = 1 ∨ w = 2) (h : FO P c0 w f) {x : Nat} (hx : x < 64 * Tk P c0) (hf2 : x % 8 + w ≤ 8) : f_X2_isSilentUnder fu (nI w) (aN f) (nI x) (nI so) = some (if KX P c0 w so x = 5 then 1 else 0) := by
  have hT := Tk_le P c0
  have hcc : x / 8 % 8 < 8 := by omega
  obtain ⟨b1, b2, b3, b4⟩ := fl_b (t := x / 64) hP hc hcc hw hf2
  have hb := KU_b (s := Qs P c0 (x / 8 % 8) (fm w (x % 8)) (x / 64)) (so := so) (w := w) b1
  unfold f_X2_isSilentUnder
  rw [if_pos (show inR (nI x) 6400 from in_i (by omega) (by decide)), aN_at _ (by omega), FO_at h hx hf2, l_kindU fu (by omega) b2 b3 b4 hso (by omega), Option.bind_some]
  have e : nI (KU (Qa P c0 (x / 8 % 8) (fm w (x % 8)) (x / 64)) (Qs P c0 (x / 8 % 8) (fm w (x % 8)) (x / 64)) so w) = (5 : Int32) ↔ KX P c0 w so x = 5 := nI_eq (b := 5) (by omega) (by decide)
  by_cases q : KX P c0 w so x = 5
  · rw [if_pos (e.mpr q), if_pos q]
  · rw [if_neg (fun z => q (e.mp z)), if_neg q]
theorem m64 {t : Nat} : nI t * (64 : Int32) = nI (64 * t) := by rw [show (64 : Int32) = nI 64 from rfl, pk_mul, Nat.mul_comm]
abbrev R28 : Type := Int32 × Int32 × Int32 × Int32 × Int32 × Int32 × Int32 × Int32 × Int32 × Int32 × (Nat → Int32) × (Nat → Int32) × (Nat → Int32) × (Nat → Int32) × (Nat → Int32) × (Nat → Int32) × (Nat → Int32) × Int32 × Int32 × Int32 × Int32 × Int32 × Int32 × Int32 × Int32 × (Nat → Int32) × (Nat → Int32) × (Nat → Int32)
/-- count()'s loop -/
theorem c_countL (fu : Nat) {P : PG} {c0 : Nat → Nat} (hP : okP P) (hc : ∀ j, j < 8 → c0 j < 256) (hf : 200 < fu) {f kc : Nat → Nat} (hk : ∀ j, j < 8 → kc j < 4) {w C kd : Nat} (hw : w = 1 ∨ w = 2) (hC : C ≤ 8) (hkd : kd < 6) (h : FO P c0 w f) (k152 : Int32 → Option R28) : ∀ (m n x : Nat), x + m = 64 * Tk P c0 → m < n →
    fr_X6_count_75 fu (aN kc) (nI (Tk P c0)) (nI w) (aN f) (nI C) (nI kd) k152 n (nI (fb_ct (fun x => decide (C = 8 ∨ C = x / 8 % 8) && decide (x % 8 + w ≤ 8 ∧ KX P c0 w (kc (x / 8 % 8)) x = kd)) x)) (nI x) = k152 (nI (fb_ct (fun x => decide (C = 8 ∨ C = x / 8 % 8) && decide (x % 8 + w ≤ 8 ∧ KX P c0 w (kc (x / 8 % 8)) x = kd)) (64 * Tk P c0))) := by
  have hT := Tk_le P c0
  intro m
  induction m with
  | zero =>
    intro n x hx hn
    obtain ⟨n, rfl⟩ : ∃ z, n = z + 1 := ⟨n - 1, by omega⟩
    rw [fr_X6_count_75]
    unfold f_X2_codes
    rw [Option.bind_some, m64, if_pos (nI_le (by omega) (by omega)), show x = 64 * Tk P c0 by omega]
  | succ m ih =>
    intro n x hx hn
    obtain ⟨n, rfl⟩ : ∃ z, n = z + 1 := ⟨n - 1, by omega⟩
    have hxT : x < 64 * Tk P c0 := by omega
    have ih2 := ih n (x + 1) (by omega) (by omega)
    rw [fb_ct_succ] at ih2
    have hno : ¬ (C = 8 ∨ C = x / 8 % 8) → fr_X6_count_75 fu (aN kc) (nI (Tk P c0)) (nI w) (aN f) (nI C) (nI kd) k152 n (nI (fb_ct (fun x => decide (C = 8 ∨ C = x / 8 % 8) && decide (x % 8 + w ≤ 8 ∧ KX P c0 w (kc (x / 8 % 8)) x = kd)) x)) (nI x + 1) = k152 (nI (fb_ct (fun x => decide (C = 8 ∨ C = x / 8 % 8) && decide (x % 8 + w ≤ 8 ∧ KX P c0 w (kc (x / 8 % 8)) x = kd)) (64 * Tk P c0))) := by
      intro q
      rw [decide_eq_false q] at ih2
      rw [nI_1]; exact ih2
    have hyes : (C = 8 ∨ C = x / 8 % 8) → fr_X6_count_102 fu (aN kc) (nI w) (aN f) (nI C) (nI kd) (fun a b => fr_X6_count_75 fu (aN kc) (nI (Tk P c0)) (nI w) (aN f) (nI C) (nI kd) k152 n a b) (nI (fb_ct (fun x => decide (C = 8 ∨ C = x / 8 % 8) && decide (x % 8 + w ≤ 8 ∧ KX P c0 w (kc (x / 8 % 8)) x = kd)) x)) (nI x) = k152 (nI (fb_ct (fun x => decide (C = 8 ∨ C = x / 8 % 8) && decide (x % 8 + w ≤ 8 ∧ KX P c0 w (kc (x / 8 % 8)) x = kd)) (64 * Tk P c0))) := by
      intro q
      rw [decide_eq_true q, Bool.true_and] at ih2
      unfold fr_X6_count_102
      rw [l_isFlip fu (by omega) (by omega), Option.bind_some]
      by_cases q2 : x % 8 + w ≤ 8
      · rw [if_pos q2, if_neg (show ¬ (1 : Int32) = 0 by decide), c_kindX fu hP hc hf hk hw h hxT q2, Option.bind_some]
        have hb := KU_b (s := Qs P c0 (x / 8 % 8) (fm w (x % 8)) (x / 64)) (so := kc (x / 8 % 8)) (w := w) (Qa_b P c0 (x / 8 % 8) (fm w (x % 8)) (x / 64))
        have e : nI (KX P c0 w (kc (x / 8 % 8)) x) = nI kd ↔ KX P c0 w (kc (x / 8 % 8)) x = kd := nI_eq (by show KU _ _ _ _ < _; omega) (by omega)
        by_cases q3 : KX P c0 w (kc (x / 8 % 8)) x = kd
        · rw [if_pos (e.mpr q3), nI_1, nI_1]
          rw [decide_eq_true (show x % 8 + w ≤ 8 ∧ KX P c0 w (kc (x / 8 % 8)) x = kd from ⟨q2, q3⟩)] at ih2
          exact ih2
        · rw [if_neg (fun z => q3 (e.mp z)), nI_1]
          rw [decide_eq_false (show ¬ (x % 8 + w ≤ 8 ∧ KX P c0 w (kc (x / 8 % 8)) x = kd) from fun z => q3 z.2)] at ih2
          exact ih2
      · rw [if_neg q2, if_pos rfl, nI_1]
        rw [decide_eq_false (show ¬ (x % 8 + w ≤ 8 ∧ KX P c0 w (kc (x / 8 % 8)) x = kd) from fun z => q2 z.1)] at ih2
        exact ih2
    rw [fr_X6_count_75]
    unfold f_X2_codes
    rw [Option.bind_some, m64, if_neg (nI_ge (by omega) (by omega))]
    by_cases q : C = 8
    · rw [if_pos (show nI C = (8 : Int32) by rw [q]; rfl)]
      exact hyes (Or.inl q)
    · rw [if_neg (show ¬ nI C = (8 : Int32) from fun z => q ((nI_eq (a := C) (b := 8) (by omega) (by decide)).mp z)), l_cellOf fu (by omega), Option.bind_some]
      have e : nI C = nI (x / 8 % 8) ↔ C = x / 8 % 8 := nI_eq (by omega) (by omega)
      by_cases q2 : C = x / 8 % 8
      · rw [if_pos (e.mpr q2)]; exact hyes (Or.inr q2)
      · rw [if_neg (fun z => q2 (e.mp z))]; exact hno (fun z => z.elim q q2)
/-! THE REFERENCE'S COUNTS -/
abbrev Z12 : Type := Int32 × Int32 × Int32 × Int32 × Int32 × Int32 × Int32 × Int32 × Int32 × Int32 × (Nat → Int32) × (Nat → Int32)
theorem z_kindX (fu : Nat) {P : PG} {c0 : Nat → Nat} (hP : okP P) (hc : ∀ j, j < 8 → c0 j < 256) (hf : 200 < fu) (he : (Pl P c0 100).e = 0) {rp : Nat → Nat} (hrp : ∀ j, j < (Pl P c0 100).k → rp j = (Pl P c0 100).r j) {c k w t so : Nat} (hcc : c < 8) (hw : w = 1 ∨ w = 2) (hk : k + w ≤ 8) (hso : so < 4) (ht : t < Tk P c0) (lc lo : Int32) (X : Z12) :
    ∃ Y : Z12, f_X7_kindOf fu (nI P.1) X.1 X.2.1 X.2.2.1 X.2.2.2.1 X.2.2.2.2.1 X.2.2.2.2.2.1 X.2.2.2.2.2.2.1 X.2.2.2.2.2.2.2.1 X.2.2.2.2.2.2.2.2.1 lc lo X.2.2.2.2.2.2.2.2.2.1 (nI (Pl P c0 100).k) (aN P.2.1) (aN P.2.2.1) (aN P.2.2.2) (aN c0) X.2.2.2.2.2.2.2.2.2.2.1 X.2.2.2.2.2.2.2.2.2.2.2 (aN rp) (nI c) (nI k) (nI w) (nI t) (nI so) = some (nI (KD P c0 c k w t so), Y) ∧ (KD P c0 c k w t so = 5 → f_X7_harmNow fu Y.2.2.1 (nI (Pl P c0 100).k) Y.2.2.2.2.2.2.2.2.2.2.2 (aN rp) = some (nI (HD P c0 c k w t so))) := by
  obtain ⟨zg, z7⟩ := aN_all X.2.2.2.2.2.2.2.2.2.2.1
  obtain ⟨zr, z8⟩ := aN_all X.2.2.2.2.2.2.2.2.2.2.2
  obtain ⟨d1, d2, d3, d4, d5, d6, d7, d8, d9, dg, dr, hK, hH⟩ := z_kind fu hP hc hf he hrp hcc hw hk hso ht X.1 X.2.1 X.2.2.1 X.2.2.2.1 X.2.2.2.2.1 X.2.2.2.2.2.1 X.2.2.2.2.2.2.1 X.2.2.2.2.2.2.2.1 X.2.2.2.2.2.2.2.2.1 lc lo X.2.2.2.2.2.2.2.2.2.1 zg zr
  rw [z7, z8]
  exact ⟨_, hK, hH⟩
abbrev K13 : Type := Int32 → Int32 → Int32 → Int32 → Int32 → Int32 → Int32 → Int32 → Int32 → Int32 → (Nat → Int32) → (Nat → Int32) → Int32 → Option (Int32 × Z12)
theorem z_cntI (fu : Nat) {P : PG} {c0 : Nat → Nat} (hP : okP P) (hc : ∀ j, j < 8 → c0 j < 256) (hf : 200 < fu) (he : (Pl P c0 100).e = 0) {rp : Nat → Nat} (hrp : ∀ j, j < (Pl P c0 100).k → rp j = (Pl P c0 100).r j) {c w t so kd : Nat} (hcc : c < 8) (hw : w = 1 ∨ w = 2) (hso : so < 4) (hkd : kd < 6) (ht : t < Tk P c0) (lc lo : Int32) (s : Nat) (k59 : K13) : ∀ (m n i : Nat) (X : Z12), i + m = 9 - w → m < n →
    ∃ Y : Z12, fr_X7_counted_18 fu (nI P.1) lc lo (nI (Pl P c0 100).k) (aN P.2.1) (aN P.2.2.1) (aN P.2.2.2) (aN c0) (aN rp) (nI c) (nI w) (nI kd) (nI so) (nI t) k59 n X.1 X.2.1 X.2.2.1 X.2.2.2.1 X.2.2.2.2.1 X.2.2.2.2.2.1 X.2.2.2.2.2.2.1 X.2.2.2.2.2.2.2.1 X.2.2.2.2.2.2.2.2.1 X.2.2.2.2.2.2.2.2.2.1 X.2.2.2.2.2.2.2.2.2.2.1 X.2.2.2.2.2.2.2.2.2.2.2 (nI (s + fb_ct (fun k => decide (KD P c0 c k w t so = kd)) i)) (nI i) = k59 Y.1 Y.2.1 Y.2.2.1 Y.2.2.2.1 Y.2.2.2.2.1 Y.2.2.2.2.2.1 Y.2.2.2.2.2.2.1 Y.2.2.2.2.2.2.2.1 Y.2.2.2.2.2.2.2.2.1 Y.2.2.2.2.2.2.2.2.2.1 Y.2.2.2.2.2.2.2.2.2.2.1 Y.2.2.2.2.2.2.2.2.2.2.2 (nI (s + fb_ct (fun k => decide (KD P c0 c k w t so = kd)) (9 - w))) := by
  have e8 : (8 : Int32) - nI w = nI (8 - w) := pk_sub (a := 8) (b := w) (by omega)
  intro m
  induction m with
  | zero =>
    intro n i X hi hn
    obtain ⟨n, rfl⟩ : ∃ z, n = z + 1 := ⟨n - 1, by omega⟩
    refine ⟨X, ?_⟩
    rw [fr_X7_counted_18, e8, if_pos (nI_lt (by omega) (by omega)), show i = 9 - w by omega]
  | succ m ih =>
    intro n i X hi hn
    obtain ⟨n, rfl⟩ : ∃ z, n = z + 1 := ⟨n - 1, by omega⟩
    obtain ⟨Y, h1, -⟩ := z_kindX fu hP hc hf he hrp (k := i) hcc hw (by omega) hso ht lc lo X
    rw [fr_X7_counted_18, e8, if_neg (nI_nlt (by omega) (by omega)), h1, Option.bind_some]
    obtain ⟨Y2, h2⟩ := ih n (i + 1) Y (by omega) (by omega)
    rw [fb_ct_succ] at h2
    refine ⟨Y2, ?_⟩
    have hb := KU_b (s := Qs P c0 c (fm w i) t) (so := so) (w := w) (Qa_b P c0 c (fm w i) t)
    have e : nI (KD P c0 c i w t so) = nI kd ↔ KD P c0 c i w t so = kd := nI_eq (by show KU _ _ _ _ < _; omega) (by omega)
    by_cases q : KD P c0 c i w t so = kd
    · rw [decide_eq_true q] at h2
      rw [if_pos (e.mpr q), nI_1, nI_1]
      exact h2
    · rw [decide_eq_false q] at h2
      rw [if_neg (fun z => q (e.mp z)), nI_1, show (0 : Int32) = nI 0 from rfl, nI_add]
      exact h2
theorem z_cntO (fu : Nat) {P : PG} {c0 : Nat → Nat} (hP : okP P) (hc : ∀ j, j < 8 → c0 j < 256) (hf : 200 < fu) (he : (Pl P c0 100).e = 0) {rp : Nat → Nat} (hrp : ∀ j, j < (Pl P c0 100).k → rp j = (Pl P c0 100).r j) {c w so kd : Nat} (hcc : c < 8) (hw : w = 1 ∨ w = 2) (hso : so < 4) (hkd : kd < 6) (lc lo : Int32) (k65 : K13) : ∀ (m n t : Nat) (X : Z12), t + m = Tk P c0 → m < n →
    ∃ Y : Z12, fr_X7_counted_6 fu (nI P.1) lc lo (nI (Tk P c0)) (nI (Pl P c0 100).k) (aN P.2.1) (aN P.2.2.1) (aN P.2.2.2) (aN c0) (aN rp) (nI c) (nI w) (nI kd) (nI so) k65 n X.1 X.2.1 X.2.2.1 X.2.2.2.1 X.2.2.2.2.1 X.2.2.2.2.2.1 X.2.2.2.2.2.2.1 X.2.2.2.2.2.2.2.1 X.2.2.2.2.2.2.2.2.1 X.2.2.2.2.2.2.2.2.2.1 X.2.2.2.2.2.2.2.2.2.2.1 X.2.2.2.2.2.2.2.2.2.2.2 (nI (fb_sm (fun t => fb_ct (fun k => decide (KD P c0 c k w t so = kd)) (9 - w)) t)) (nI t) = k65 Y.1 Y.2.1 Y.2.2.1 Y.2.2.2.1 Y.2.2.2.2.1 Y.2.2.2.2.2.1 Y.2.2.2.2.2.2.1 Y.2.2.2.2.2.2.2.1 Y.2.2.2.2.2.2.2.2.1 Y.2.2.2.2.2.2.2.2.2.1 Y.2.2.2.2.2.2.2.2.2.2.1 Y.2.2.2.2.2.2.2.2.2.2.2 (nI (fb_sm (fun t => fb_ct (fun k => decide (KD P c0 c k w t so = kd)) (9 - w)) (Tk P c0))) := by
  have hT := Tk_le P c0
  intro m
  induction m with
  | zero =>
    intro n t X hi hn
    obtain ⟨n, rfl⟩ : ∃ z, n = z + 1 := ⟨n - 1, by omega⟩
    refine ⟨X, ?_⟩
    rw [fr_X7_counted_6, if_pos (nI_le (by omega) (by omega)), show t = Tk P c0 by omega]
  | succ m ih =>
    intro n t X hi hn
    obtain ⟨n, rfl⟩ : ∃ z, n = z + 1 := ⟨n - 1, by omega⟩
    obtain ⟨Y, h1⟩ := z_cntI fu hP hc hf he hrp hcc hw hso hkd (show t < Tk P c0 by omega) lc lo (fb_sm (fun t => fb_ct (fun k => decide (KD P c0 c k w t so = kd)) (9 - w)) t) (fun x1 x2 x3 x4 x5 x6 x7 x8 x9 x10 x11 x12 y => fr_X7_counted_6 fu (nI P.1) lc lo (nI (Tk P c0)) (nI (Pl P c0 100).k) (aN P.2.1) (aN P.2.2.1) (aN P.2.2.2) (aN c0) (aN rp) (nI c) (nI w) (nI kd) (nI so) k65 n x1 x2 x3 x4 x5 x6 x7 x8 x9 x10 x11 x12 y (nI t + 1)) (9 - w) fu 0 X (by omega) (by omega)
    obtain ⟨Y2, h2⟩ := ih n (t + 1) Y (by omega) (by omega)
    refine ⟨Y2, ?_⟩
    rw [fb_sm_succ] at h2
    rw [fr_X7_counted_6, if_neg (nI_ge (by omega) (by omega))]
    refine Eq.trans h1 ?_
    rw [nI_1]
    exact h2
theorem z_counted (fu : Nat) {P : PG} {c0 : Nat → Nat} (hP : okP P) (hc : ∀ j, j < 8 → c0 j < 256) (hf : 200 < fu) (he : (Pl P c0 100).e = 0) {rp : Nat → Nat} (hrp : ∀ j, j < (Pl P c0 100).k → rp j = (Pl P c0 100).r j) {c w so kd : Nat} (hcc : c < 8) (hw : w = 1 ∨ w = 2) (hso : so < 4) (hkd : kd < 6) (lc lo : Int32) (X : Z12) :
    ∃ Y : Z12, f_X7_counted fu (nI P.1) X.1 X.2.1 X.2.2.1 X.2.2.2.1 X.2.2.2.2.1 X.2.2.2.2.2.1 X.2.2.2.2.2.2.1 X.2.2.2.2.2.2.2.1 X.2.2.2.2.2.2.2.2.1 lc lo X.2.2.2.2.2.2.2.2.2.1 (nI (Tk P c0)) (nI (Pl P c0 100).k) (aN P.2.1) (aN P.2.2.1) (aN P.2.2.2) (aN c0) X.2.2.2.2.2.2.2.2.2.2.1 X.2.2.2.2.2.2.2.2.2.2.2 (aN rp) (nI c) (nI w) (nI kd) (nI so) = some (nI (CT P c0 w c so kd), Y) := by
  have hT := Tk_le P c0
  obtain ⟨Y, h⟩ := z_cntO fu hP hc hf he hrp hcc hw hso hkd lc lo (fun x1 x2 x3 x4 x5 x6 x7 x8 x9 x10 x11 x12 y => some (y, x1, x2, x3, x4, x5, x6, x7, x8, x9, x10, x11, x12)) (Tk P c0) fu 0 X (by omega) (by omega)
  unfold f_X7_counted
  rw [CT_rows hcc hw] at h
  exact ⟨Y, h⟩
