/-! ALL -/
def HX (P : PG) (c0 kc : Nat → Nat) (w x : Nat) : Nat := if x / 64 < Tk P c0 ∧ x % 8 + w ≤ 8 then HD P c0 (x / 8 % 8) (x % 8) w (x / 64) (kc (x / 8 % 8)) else 0
theorem HD_b {P : PG} {c0 : Nat → Nat} (hP : okP P) (hc : ∀ j, j < 8 → c0 j < 256) {c k w t so : Nat} (hcc : c < 8) (hw : w = 1 ∨ w = 2) (hk : k + w ≤ 8) : HD P c0 c k w t so ≤ 12 := by
  have h1 := Qh_b (t := t) hP hc hcc (fm_lt w (by omega) k (by omega) hk)
  unfold HD
  split <;> omega
theorem HX_b {P : PG} {c0 kc : Nat → Nat} (hP : okP P) (hc : ∀ j, j < 8 → c0 j < 256) {w : Nat} (hw : w = 1 ∨ w = 2) (x : Nat) : HX P c0 kc w x ≤ 12 := by
  unfold HX
  split
  · rename_i q; exact HD_b hP hc (by omega) hw q.2
  · omega
abbrev Z13 : Type := Int32 × Int32 × Int32 × Int32 × Int32 × Int32 × Int32 × Int32 × Int32 × Int32 × (Nat → Int32) × (Nat → Int32) × (Nat → Int32)
abbrev K13c : Type := Int32 → Int32 → Int32 → Int32 → Int32 → Int32 → Int32 → Int32 → Int32 → Int32 → (Nat → Int32) → (Nat → Int32) → (Nat → Int32) → Option Z13
theorem z_hAll (fu : Nat) {P : PG} {c0 : Nat → Nat} (hP : okP P) (hc : ∀ j, j < 8 → c0 j < 256) (hf : 200 < fu) (he : (Pl P c0 100).e = 0) {rp : Nat → Nat} (hrp : ∀ j, j < (Pl P c0 100).k → rp j = (Pl P c0 100).r j) {kc : Nat → Nat} (hk : ∀ j, j < 8 → kc j < 4) {w : Nat} (hw : w = 1 ∨ w = 2) (lc lo : Int32) (k87 : K13c) : ∀ (m n x : Nat) (X : Z12) (zh : Nat → Nat), x + m = 6400 → m < n → (∀ j, j < x → zh j = HX P c0 kc w j) →
    ∃ (Y : Z12) (z2 : Nat → Nat), fr_X7_harmAll_2 fu (nI P.1) lc lo (nI (Tk P c0)) (nI (Pl P c0 100).k) (aN P.2.1) (aN P.2.2.1) (aN P.2.2.2) (aN c0) (aN kc) (aN rp) (nI w) k87 n X.1 X.2.1 X.2.2.1 X.2.2.2.1 X.2.2.2.2.1 X.2.2.2.2.2.1 X.2.2.2.2.2.2.1 X.2.2.2.2.2.2.2.1 X.2.2.2.2.2.2.2.2.1 X.2.2.2.2.2.2.2.2.2.1 X.2.2.2.2.2.2.2.2.2.2.1 X.2.2.2.2.2.2.2.2.2.2.2 (aN zh) (nI x) = k87 Y.1 Y.2.1 Y.2.2.1 Y.2.2.2.1 Y.2.2.2.2.1 Y.2.2.2.2.2.1 Y.2.2.2.2.2.2.1 Y.2.2.2.2.2.2.2.1 Y.2.2.2.2.2.2.2.2.1 Y.2.2.2.2.2.2.2.2.2.1 Y.2.2.2.2.2.2.2.2.2.2.1 Y.2.2.2.2.2.2.2.2.2.2.2 (aN z2) ∧ ∀ j, j < 6400 → z2 j = HX P c0 kc w j := by
  have hT := Tk_le P c0
  have e8 : (8 : Int32) - nI w = nI (8 - w) := pk_sub (a := 8) (b := w) (by omega)
  intro m
  induction m with
  | zero =>
    intro n x X zh hx hn hz
    obtain ⟨n, rfl⟩ : ∃ z, n = z + 1 := ⟨n - 1, by omega⟩
    refine ⟨X, zh, ?_, fun j hj => hz j (by omega)⟩
    rw [fr_X7_harmAll_2, if_pos (show (6400 : Int32) ≤ nI x from nI_le (a := 6400) (by omega) (by omega))]
  | succ m ih =>
    intro n x X zh hx hn hz
    obtain ⟨n, rfl⟩ : ∃ z, n = z + 1 := ⟨n - 1, by omega⟩
    have hin : inR (nI x) 6400 := in_i (by omega) (by decide)
    have d64 : nI x / (64 : Int32) = nI (x / 64) := pk_div (a := x) (d := 64) (by omega) (by decide) (by decide)
    have d8 : nI x / (8 : Int32) = nI (x / 8) := pk_div (a := x) (d := 8) (by omega) (by decide) (by decide)
    have r8 : nI x - nI x / (8 : Int32) * (8 : Int32) = nI (x % 8) := rem8 (by omega)
    have r88 : nI (x / 8) - nI (x / 8) / (8 : Int32) * (8 : Int32) = nI (x / 8 % 8) := rem8 (by omega)
    have up : ∀ v, v = HX P c0 kc w x → ∀ j, j < x + 1 → va_up zh x v j = HX P c0 kc w j := by
      intro v hv j hj
      by_cases q : j = x
      · subst q; rw [up_s]; exact hv
      · rw [up_n _ _ q]; exact hz j (by omega)
    have fin : ∀ (v : Nat) (Y : Z12), v = HX P c0 kc w x → ∃ (Y2 : Z12) (z2 : Nat → Nat), fr_X7_harmAll_2 fu (nI P.1) lc lo (nI (Tk P c0)) (nI (Pl P c0 100).k) (aN P.2.1) (aN P.2.2.1) (aN P.2.2.2) (aN c0) (aN kc) (aN rp) (nI w) k87 n Y.1 Y.2.1 Y.2.2.1 Y.2.2.2.1 Y.2.2.2.2.1 Y.2.2.2.2.2.1 Y.2.2.2.2.2.2.1 Y.2.2.2.2.2.2.2.1 Y.2.2.2.2.2.2.2.2.1 Y.2.2.2.2.2.2.2.2.2.1 Y.2.2.2.2.2.2.2.2.2.2.1 Y.2.2.2.2.2.2.2.2.2.2.2 (upd (aN zh) (nI x).toNatClampNeg (nI v)) (nI x + 1) = k87 Y2.1 Y2.2.1 Y2.2.2.1 Y2.2.2.2.1 Y2.2.2.2.2.1 Y2.2.2.2.2.2.1 Y2.2.2.2.2.2.2.1 Y2.2.2.2.2.2.2.2.1 Y2.2.2.2.2.2.2.2.2.1 Y2.2.2.2.2.2.2.2.2.2.1 Y2.2.2.2.2.2.2.2.2.2.2.1 Y2.2.2.2.2.2.2.2.2.2.2.2 (aN z2) ∧ ∀ j, j < 6400 → z2 j = HX P c0 kc w j := by
      intro v Y hv
      rw [aN_up _ _ (by omega), nI_1]
      exact ih n (x + 1) Y _ (by omega) (by omega) (up v hv)
    rw [fr_X7_harmAll_2, if_neg (show ¬ (6400 : Int32) ≤ nI x from nI_ge (b := 6400) (by omega) (by decide)), d64, r8, d8, r88, e8, if_pos hin]
    by_cases q1 : x / 64 < Tk P c0
    · rw [if_neg (nI_ge q1 (by omega))]
      by_cases q2 : x % 8 + w ≤ 8
      · have hcc : x / 8 % 8 < 8 := by omega
        have hv : HX P c0 kc w x = HD P c0 (x / 8 % 8) (x % 8) w (x / 64) (kc (x / 8 % 8)) := if_pos ⟨q1, q2⟩
        obtain ⟨Y, h1, h2⟩ := z_kindX fu hP hc hf he hrp hcc hw q2 (hk _ hcc) q1 lc lo X
        rw [if_neg (nI_nlt (show x % 8 ≤ 8 - w by omega) (by omega)), if_pos (show inR (nI (x / 8 % 8)) 8 from in_i hcc (by decide)), aN_at kc (by omega), h1, Option.bind_some]
        have hb := KU_b (s := Qs P c0 (x / 8 % 8) (fm w (x % 8)) (x / 64)) (so := kc (x / 8 % 8)) (w := w) (Qa_b P c0 (x / 8 % 8) (fm w (x % 8)) (x / 64))
        have e : nI (KD P c0 (x / 8 % 8) (x % 8) w (x / 64) (kc (x / 8 % 8))) = (5 : Int32) ↔ KD P c0 (x / 8 % 8) (x % 8) w (x / 64) (kc (x / 8 % 8)) = 5 := nI_eq (b := 5) (by show KU _ _ _ _ < _; omega) (by decide)
        dsimp only
        by_cases q : KD P c0 (x / 8 % 8) (x % 8) w (x / 64) (kc (x / 8 % 8)) = 5
        · rw [if_pos (e.mpr q), h2 q, Option.bind_some, if_pos hin]
          exact fin _ Y hv.symm
        · rw [if_neg (fun z => q (e.mp z)), if_pos hin]
          refine fin 0 Y ?_
          rw [hv, HD, if_neg q]
      · rw [if_pos (nI_lt (show 8 - w < x % 8 by omega) (by omega))]
        exact fin 0 X (if_neg (fun z => q2 z.2)).symm
    · rw [if_pos (nI_le (by omega) (by omega))]
      exact fin 0 X (if_neg (fun z => q1 z.1)).symm
theorem z_harmAll (fu : Nat) {P : PG} {c0 : Nat → Nat} (hP : okP P) (hc : ∀ j, j < 8 → c0 j < 256) (hf : 200 < fu) (he : (Pl P c0 100).e = 0) {rp : Nat → Nat} (hrp : ∀ j, j < (Pl P c0 100).k → rp j = (Pl P c0 100).r j) (hF : 70000 < fu) {kc : Nat → Nat} (hk : ∀ j, j < 8 → kc j < 4) {w : Nat} (hw : w = 1 ∨ w = 2) (lc lo : Int32) (X : Z12) (zh : Nat → Int32) :
    ∃ (Y : Z12) (z2 : Nat → Nat), f_X7_harmAll fu (nI P.1) X.1 X.2.1 X.2.2.1 X.2.2.2.1 X.2.2.2.2.1 X.2.2.2.2.2.1 X.2.2.2.2.2.2.1 X.2.2.2.2.2.2.2.1 X.2.2.2.2.2.2.2.2.1 lc lo X.2.2.2.2.2.2.2.2.2.1 (nI (Tk P c0)) (nI (Pl P c0 100).k) (aN P.2.1) (aN P.2.2.1) (aN P.2.2.2) (aN c0) (aN kc) X.2.2.2.2.2.2.2.2.2.2.1 X.2.2.2.2.2.2.2.2.2.2.2 (aN rp) zh (nI w) = some (Y.1, Y.2.1, Y.2.2.1, Y.2.2.2.1, Y.2.2.2.2.1, Y.2.2.2.2.2.1, Y.2.2.2.2.2.2.1, Y.2.2.2.2.2.2.2.1, Y.2.2.2.2.2.2.2.2.1, Y.2.2.2.2.2.2.2.2.2.1, Y.2.2.2.2.2.2.2.2.2.2.1, Y.2.2.2.2.2.2.2.2.2.2.2, aN z2) ∧ ∀ j, j < 6400 → z2 j = HX P c0 kc w j := by
  obtain ⟨zf, e⟩ := aN_all zh
  obtain ⟨Y, z2, h1, h2⟩ := z_hAll fu hP hc hf he hrp hk hw lc lo (fun x1 x2 x3 x4 x5 x6 x7 x8 x9 x10 x11 x12 y => some (x1, x2, x3, x4, x5, x6, x7, x8, x9, x10, x11, x12, y)) 6400 fu 0 X zf rfl (by omega) (fun j hj => absurd hj (Nat.not_lt_zero j))
  unfold f_X7_harmAll
  rw [e]
  exact ⟨Y, z2, h1, h2⟩
abbrev R19 : Type := Int32 × Int32 × Int32 × Int32 × Int32 × Int32 × Int32 × Int32 × Int32 × Int32 × Int32 × Int32 × Int32 × Int32 × Int32 × (Nat → Int32) × (Nat → Int32) × (Nat → Int32) × (Nat → Int32)
theorem z_allL (fu : Nat) (zh : Nat → Nat) (k47 : Int32 → Option R19) : ∀ (m n x : Nat), x + m = 6400 → m < n → fr_X7_all_23 fu (aN zh) k47 n (nI (fb_sm zh x)) (nI x) = k47 (nI (fb_sm zh 6400)) := by
  intro m
  induction m with
  | zero =>
    intro n x hx hn
    obtain ⟨n, rfl⟩ : ∃ z, n = z + 1 := ⟨n - 1, by omega⟩
    rw [fr_X7_all_23, if_pos (show (6400 : Int32) ≤ nI x from nI_le (a := 6400) (by omega) (by omega)), show x = 6400 by omega]
  | succ m ih =>
    intro n x hx hn
    obtain ⟨n, rfl⟩ : ∃ z, n = z + 1 := ⟨n - 1, by omega⟩
    rw [fr_X7_all_23, if_neg (show ¬ (6400 : Int32) ≤ nI x from nI_ge (b := 6400) (by omega) (by decide)), if_pos (show inR (nI x) 6400 from in_i (by omega) (by decide)), aN_at _ (by omega), nI_add, nI_1, ← fb_sm_succ]
    exact ih n (x + 1) (by omega) (by omega)
theorem c_allL (fu : Nat) {P : PG} {c0 : Nat → Nat} (hP : okP P) (hc : ∀ j, j < 8 → c0 j < 256) (hf : 200 < fu) {f kc : Nat → Nat} (hk : ∀ j, j < 8 → kc j < 4) {w : Nat} (hw : w = 1 ∨ w = 2) (h : FO P c0 w f) (k91 : Int32 → Option R28) : ∀ (m n x : Nat), x + m = 64 * Tk P c0 → m < n →
    fr_X6_all_45 fu (aN kc) (nI (Tk P c0)) (nI w) (aN f) k91 n (nI (fb_sm (HX P c0 kc w) x)) (nI x) = k91 (nI (fb_sm (HX P c0 kc w) (64 * Tk P c0))) := by
  have hT := Tk_le P c0
  intro m
  induction m with
  | zero =>
    intro n x hx hn
    obtain ⟨n, rfl⟩ : ∃ z, n = z + 1 := ⟨n - 1, by omega⟩
    rw [fr_X6_all_45]
    unfold f_X2_codes
    rw [Option.bind_some, m64, if_pos (nI_le (by omega) (by omega)), show x = 64 * Tk P c0 by omega]
  | succ m ih =>
    intro n x hx hn
    obtain ⟨n, rfl⟩ : ∃ z, n = z + 1 := ⟨n - 1, by omega⟩
    have ih2 := ih n (x + 1) (by omega) (by omega)
    rw [fb_sm_succ] at ih2
    rw [fr_X6_all_45]
    unfold f_X2_codes
    rw [Option.bind_some, m64, if_neg (nI_ge (by omega) (by omega)), l_isFlip fu (by omega) (by omega), Option.bind_some]
    by_cases q : x % 8 + w ≤ 8
    · rw [if_pos q, if_neg (show ¬ (1 : Int32) = 0 by decide), c_harmX fu hP hc hf hk hw h (by omega) q, Option.bind_some, nI_1, nI_add]
      rw [HX, if_pos (show x / 64 < Tk P c0 ∧ x % 8 + w ≤ 8 from ⟨by omega, q⟩)] at ih2
      exact ih2
    · rw [if_neg q, if_pos rfl, nI_1]
      rw [HX, if_neg (show ¬ (x / 64 < Tk P c0 ∧ x % 8 + w ≤ 8) from fun z => q z.2)] at ih2
      exact ih2
theorem HX_out {P : PG} {c0 kc : Nat → Nat} {w x : Nat} (h : 64 * Tk P c0 ≤ x) : HX P c0 kc w x = 0 := if_neg (fun z => by have := z.1; omega)
theorem HX_all (P : PG) (c0 kc : Nat → Nat) (w : Nat) : fb_sm (HX P c0 kc w) 6400 = fb_sm (HX P c0 kc w) (64 * Tk P c0) := by
  have hT := Tk_le P c0
  rw [show 6400 = 64 * Tk P c0 + (6400 - 64 * Tk P c0) by omega, fb_sm_split, fb_sm_cong (g := fun _ => 0) (fun k _ => HX_out (x := 64 * Tk P c0 + k) (by omega)), fb_sm_const]
  omega
theorem shut_no (fu : Nat) {P : PG} {c0 : Nat → Nat} {s m : Nat} (lc lo : Int32) (Z : Z16) {a : Int32} (h : f_X7_in fu a 1 2 = some 0) : f_X7_shut fu (nI P.1) (nI s) Z.1 Z.2.1 Z.2.2.1 Z.2.2.2.1 Z.2.2.2.2.1 Z.2.2.2.2.2.1 Z.2.2.2.2.2.2.1 Z.2.2.2.2.2.2.2.1 Z.2.2.2.2.2.2.2.2.1 lc lo Z.2.2.2.2.2.2.2.2.2.1 Z.2.2.2.2.2.2.2.2.2.2.1 Z.2.2.2.2.2.2.2.2.2.2.2.1 Z.2.2.2.2.2.2.2.2.2.2.2.2.1 (aN P.2.1) (aN P.2.2.1) (aN P.2.2.2) (aN c0) Z.2.2.2.2.2.2.2.2.2.2.2.2.2.1 Z.2.2.2.2.2.2.2.2.2.2.2.2.2.2.1 Z.2.2.2.2.2.2.2.2.2.2.2.2.2.2.2 a (nI m) = some (-102, nI s, Z) := by
  unfold f_X7_shut
  rw [h, Option.bind_some, if_pos rfl]
theorem x_all (fu : Nat) {P : PG} {c0 : Nat → Nat} (hP : okP P) (hc : ∀ j, j < 8 → c0 j < 256) (hf : 200 < fu) {lf : Nat → Int32} {T : M16} (h : SO P c0 lf T) {kc : Nat → Nat} (hk : ∀ j, j < 8 → kc j < 4) {s : Nat} (hs : s ≤ 60) (hF : 70000 < fu) (K : K9) (lc lo : Int32) (Z : Z16) (zh : Nat → Int32) (a : Int32) : ∃ (v : Int32) (U : M16) (J : K9) (lf2 : Nat → Int32) (s2 : Nat) (W : Z16) (zh2 : Nat → Int32), f_X6_all fu T.1 (nI s) (nI P.1) (aN P.2.1) (aN P.2.2.1) (aN P.2.2.2) (aN c0) (aN kc) T.2.1 T.2.2.1 T.2.2.2.1 T.2.2.2.2.1 T.2.2.2.2.2.1 T.2.2.2.2.2.2.1 T.2.2.2.2.2.2.2.1 T.2.2.2.2.2.2.2.2.1 T.2.2.2.2.2.2.2.2.2.1 T.2.2.2.2.2.2.2.2.2.2.1 T.2.2.2.2.2.2.2.2.2.2.2.1 T.2.2.2.2.2.2.2.2.2.2.2.2.1 T.2.2.2.2.2.2.2.2.2.2.2.2.2.1 T.2.2.2.2.2.2.2.2.2.2.2.2.2.2.1 T.2.2.2.2.2.2.2.2.2.2.2.2.2.2.2 K.1 K.2.1 K.2.2.1 K.2.2.2.1 K.2.2.2.2.1 K.2.2.2.2.2.1 K.2.2.2.2.2.2.1 K.2.2.2.2.2.2.2.1 K.2.2.2.2.2.2.2.2 lf a = some (v, U.1, nI s2, U.2.1, U.2.2.1, U.2.2.2.1, U.2.2.2.2.1, U.2.2.2.2.2.1, U.2.2.2.2.2.2.1, U.2.2.2.2.2.2.2.1, U.2.2.2.2.2.2.2.2.1, U.2.2.2.2.2.2.2.2.2.1, U.2.2.2.2.2.2.2.2.2.2.1, U.2.2.2.2.2.2.2.2.2.2.2.1, U.2.2.2.2.2.2.2.2.2.2.2.2.1, U.2.2.2.2.2.2.2.2.2.2.2.2.2.1, U.2.2.2.2.2.2.2.2.2.2.2.2.2.2.1, U.2.2.2.2.2.2.2.2.2.2.2.2.2.2.2, J.1, J.2.1, J.2.2.1, J.2.2.2.1, J.2.2.2.2.1, J.2.2.2.2.2.1, J.2.2.2.2.2.2.1, J.2.2.2.2.2.2.2.1, J.2.2.2.2.2.2.2.2, lf2) ∧ SO P c0 lf2 U ∧ s2 ≤ 60 ∧ f_X7_all fu (nI P.1) (nI s) Z.1 Z.2.1 Z.2.2.1 Z.2.2.2.1 Z.2.2.2.2.1 Z.2.2.2.2.2.1 Z.2.2.2.2.2.2.1 Z.2.2.2.2.2.2.2.1 Z.2.2.2.2.2.2.2.2.1 lc lo Z.2.2.2.2.2.2.2.2.2.1 Z.2.2.2.2.2.2.2.2.2.2.1 Z.2.2.2.2.2.2.2.2.2.2.2.1 Z.2.2.2.2.2.2.2.2.2.2.2.2.1 (aN P.2.1) (aN P.2.2.1) (aN P.2.2.2) (aN c0) (aN kc) Z.2.2.2.2.2.2.2.2.2.2.2.2.2.1 Z.2.2.2.2.2.2.2.2.2.2.2.2.2.2.1 Z.2.2.2.2.2.2.2.2.2.2.2.2.2.2.2 zh a = some (v, nI s2, W.1, W.2.1, W.2.2.1, W.2.2.2.1, W.2.2.2.2.1, W.2.2.2.2.2.1, W.2.2.2.2.2.2.1, W.2.2.2.2.2.2.2.1, W.2.2.2.2.2.2.2.2.1, W.2.2.2.2.2.2.2.2.2.1, W.2.2.2.2.2.2.2.2.2.2.1, W.2.2.2.2.2.2.2.2.2.2.2.1, W.2.2.2.2.2.2.2.2.2.2.2.2.1, W.2.2.2.2.2.2.2.2.2.2.2.2.2.1, W.2.2.2.2.2.2.2.2.2.2.2.2.2.2.1, W.2.2.2.2.2.2.2.2.2.2.2.2.2.2.2, zh2) := by
  unfold f_X6_all f_X7_all
  rcases x_wide fu a with ⟨w, hw, rfl, q3, q4⟩ | ⟨q3, q4⟩
  · rw [q3, Option.bind_some, if_neg (show ¬ (1 : Int32) = 0 by decide)]
    obtain ⟨v, U, W, h1, h2, h3, h4⟩ := x_search fu hP hc hf h (m := 1) hs (by decide) hw lc lo Z
    rw [show (1 : Int32) = nI 1 from rfl, h1, Option.bind_some]
    dsimp only
    rcases h4 with ⟨hv, h4⟩ | ⟨rfl, hs2, he, hz, h4⟩
    · rw [h4, Option.bind_some, if_neg hv]
      dsimp only
      rw [if_neg hv]
      exact ⟨v, U, K, lf, s, W, zh, rfl, Or.inr ⟨h2, h3⟩, hs, rfl⟩
    · obtain ⟨J, f, i1, i2, i3, i4⟩ := c_try fu hP hc hf h2 h3 hw K
      rw [if_pos rfl, i1, Option.bind_some, h4, Option.bind_some, if_pos rfl]
      dsimp only
      have hT := Tk_le P c0
      obtain ⟨-, z2, z3, -, rp, z5, z6⟩ := hz
      obtain ⟨Y, zh2, j1, j3⟩ := z_harmAll fu hP hc hf he z6 hF hk hw lc lo (W.1, W.2.1, W.2.2.1, W.2.2.2.1, W.2.2.2.2.1, W.2.2.2.2.2.1, W.2.2.2.2.2.2.1, W.2.2.2.2.2.2.2.1, W.2.2.2.2.2.2.2.2.1, W.2.2.2.2.2.2.2.2.2.1, W.2.2.2.2.2.2.2.2.2.2.2.2.2.1, W.2.2.2.2.2.2.2.2.2.2.2.2.2.2.1) zh
      have j4 := z_allL fu zh2 (fun y => some (y, nI (s + 1), Y.1, Y.2.1, Y.2.2.1, Y.2.2.2.1, Y.2.2.2.2.1, Y.2.2.2.2.2.1, Y.2.2.2.2.2.2.1, Y.2.2.2.2.2.2.2.1, Y.2.2.2.2.2.2.2.2.1, Y.2.2.2.2.2.2.2.2.2.1, W.2.2.2.2.2.2.2.2.2.2.1, W.2.2.2.2.2.2.2.2.2.2.2.1, W.2.2.2.2.2.2.2.2.2.2.2.2.1, Y.2.2.2.2.2.2.2.2.2.2.1, Y.2.2.2.2.2.2.2.2.2.2.2, W.2.2.2.2.2.2.2.2.2.2.2.2.2.2.2, aN zh2)) 6400 fu 0 rfl (by omega)
      rw [fb_sm_cong j3, HX_all] at j4
      have j2 := c_allL fu hP hc hf hk hw i2 (fun y => some (y, U.1, nI (s + 1), U.2.1, U.2.2.1, U.2.2.2.1, U.2.2.2.2.1, U.2.2.2.2.2.1, U.2.2.2.2.2.2.1, U.2.2.2.2.2.2.2.1, U.2.2.2.2.2.2.2.2.1, U.2.2.2.2.2.2.2.2.2.1, U.2.2.2.2.2.2.2.2.2.2.1, U.2.2.2.2.2.2.2.2.2.2.2.1, U.2.2.2.2.2.2.2.2.2.2.2.2.1, U.2.2.2.2.2.2.2.2.2.2.2.2.2.1, U.2.2.2.2.2.2.2.2.2.2.2.2.2.2.1, nI w, J.1, J.2.1, J.2.2.1, J.2.2.2.1, J.2.2.2.2.1, J.2.2.2.2.2.1, J.2.2.2.2.2.2.1, J.2.2.2.2.2.2.2.1, J.2.2.2.2.2.2.2.2, aN f)) (64 * Tk P c0) fu 0 (by omega) (by omega)
      rw [← i4] at j2
      rw [← z2, ← z3, ← z5] at j1
      rw [j1, Option.bind_some]
      refine ⟨_, (U.1, U.2.1, U.2.2.1, U.2.2.2.1, U.2.2.2.2.1, U.2.2.2.2.2.1, U.2.2.2.2.2.2.1, U.2.2.2.2.2.2.2.1, U.2.2.2.2.2.2.2.2.1, U.2.2.2.2.2.2.2.2.2.1, U.2.2.2.2.2.2.2.2.2.2.1, U.2.2.2.2.2.2.2.2.2.2.2.1, U.2.2.2.2.2.2.2.2.2.2.2.2.1, U.2.2.2.2.2.2.2.2.2.2.2.2.2.1, U.2.2.2.2.2.2.2.2.2.2.2.2.2.2.1, nI w), J, aN f, s + 1, (Y.1, Y.2.1, Y.2.2.1, Y.2.2.2.1, Y.2.2.2.2.1, Y.2.2.2.2.2.1, Y.2.2.2.2.2.2.1, Y.2.2.2.2.2.2.2.1, Y.2.2.2.2.2.2.2.2.1, Y.2.2.2.2.2.2.2.2.2.1, W.2.2.2.2.2.2.2.2.2.2.1, W.2.2.2.2.2.2.2.2.2.2.2.1, W.2.2.2.2.2.2.2.2.2.2.2.2.1, Y.2.2.2.2.2.2.2.2.2.2.1, Y.2.2.2.2.2.2.2.2.2.2.2, W.2.2.2.2.2.2.2.2.2.2.2.2.2.2.2), aN zh2, ?_, i3, by omega, j4⟩
      rw [nI_add]
      exact j2
  · rw [q3, Option.bind_some, if_pos rfl, show (1 : Int32) = nI 1 from rfl, shut_no fu lc lo Z q4, Option.bind_some]
    dsimp only
    rw [if_neg (show ¬ (-102 : Int32) = 0 by decide)]
    exact ⟨-102, T, K, lf, s, Z, zh, rfl, h, hs, rfl⟩
