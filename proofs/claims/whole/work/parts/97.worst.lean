/-! WORST -/
def fF (p : Nat → Bool) : Nat → Nat → Nat → Option Nat
  | _, 0, _ => none
  | x, m + 1, r => if p x then (if r = 0 then some x else fF p (x + 1) m (r - 1)) else fF p (x + 1) m r
def cF (p : Nat → Bool) (x m : Nat) : Nat := fb_ct (fun j => p (x + j)) m
theorem cF_s (p : Nat → Bool) (x m : Nat) : cF p x (m + 1) = (if p x then 1 else 0) + cF p (x + 1) m := by
  unfold cF
  rw [Nat.add_comm m 1, fb_ct_split]
  congr 1
  · show 0 + (if p (x + 0) then 1 else 0) = _
    rw [Nat.zero_add]; rfl
  · refine fb_ct_cong (fun k _ => ?_)
    rw [Nat.add_assoc]
theorem fF_none (p : Nat → Bool) : ∀ (m x r : Nat), fF p x m r = none ↔ cF p x m ≤ r
  | 0, x, r => ⟨fun _ => Nat.zero_le _, fun _ => rfl⟩
  | m + 1, x, r => by
    rw [fF, cF_s]
    by_cases q : p x = true
    · rw [if_pos q, if_pos q]
      by_cases z : r = 0
      · rw [if_pos z]; exact ⟨fun w => absurd w (by simp), fun w => absurd w (by omega)⟩
      · rw [if_neg z, fF_none p m]; omega
    · rw [if_neg q, if_neg q, fF_none p m]; omega
theorem fF_false {p : Nat → Bool} : ∀ (m x r : Nat), (∀ j, x ≤ j → j < x + m → p j = false) → fF p x m r = none
  | 0, _, _, _ => rfl
  | m + 1, x, r, h => by
    rw [fF, if_neg (by rw [h x (Nat.le_refl x) (by omega)]; decide)]
    exact fF_false m (x + 1) r (fun j h1 h2 => h j (by omega) (by omega))
theorem fF_ext {p : Nat → Bool} : ∀ (m x r b : Nat), (∀ j, x + m ≤ j → j < x + m + b → p j = false) → fF p x (m + b) r = fF p x m r
  | 0, x, r, b, h => by rw [Nat.zero_add]; exact fF_false b x r (fun j h1 h2 => h j (by omega) (by omega))
  | m + 1, x, r, b, h => by
    rw [show m + 1 + b = (m + b) + 1 by omega, fF, fF, fF_ext m (x + 1) r b (fun j h1 h2 => h j (by omega) (by omega)), fF_ext m (x + 1) (r - 1) b (fun j h1 h2 => h j (by omega) (by omega))]
theorem fF_in {p : Nat → Bool} : ∀ (m x r y : Nat), fF p x m r = some y → y < x + m
  | 0, _, _, _, h => by cases h
  | m + 1, x, r, y, h => by
    rw [fF] at h
    split at h
    · split at h
      · cases h; omega
      · have := fF_in m _ _ _ h; omega
    · have := fF_in m _ _ _ h; omega
/-- flips of a harm -/
def pH (P : PG) (c0 kc : Nat → Nat) (w h x : Nat) : Bool := decide (HX P c0 kc w x = h)
def WV (P : PG) (c0 kc : Nat → Nat) (w N : Nat) : Nat → Nat → Int32
  | 0, _ => -1
  | h + 1, r => match fF (pH P c0 kc w (h + 1)) 0 N r with
    | some y => nI y
    | none => WV P c0 kc w N h (r - cF (pH P c0 kc w (h + 1)) 0 N)
theorem pH_out {P : PG} {c0 kc : Nat → Nat} {w h x : Nat} (hx : 64 * Tk P c0 ≤ x) (hh : 0 < h) : pH P c0 kc w h x = false := by
  unfold pH
  rw [HX_out hx]
  exact decide_eq_false (by omega)
theorem WV_N (P : PG) (c0 kc : Nat → Nat) (w : Nat) : ∀ (h r : Nat), WV P c0 kc w 6400 h r = WV P c0 kc w (64 * Tk P c0) h r
  | 0, _ => rfl
  | h + 1, r => by
    have hT := Tk_le P c0
    have e : 6400 = 64 * Tk P c0 + (6400 - 64 * Tk P c0) := by omega
    have e1 : fF (pH P c0 kc w (h + 1)) 0 6400 r = fF (pH P c0 kc w (h + 1)) 0 (64 * Tk P c0) r := by
      have := fF_ext (p := pH P c0 kc w (h + 1)) (64 * Tk P c0) 0 r (6400 - 64 * Tk P c0) (fun j h1 h2 => pH_out (by omega) (by omega))
      rw [← e] at this; exact this
    have e2 : cF (pH P c0 kc w (h + 1)) 0 6400 = cF (pH P c0 kc w (h + 1)) 0 (64 * Tk P c0) := by
      unfold cF
      rw [e, fb_ct_split, ct_false (fun k _ => pH_out (x := 0 + (64 * Tk P c0 + k)) (by omega) (by omega))]
      rfl
    rw [WV, WV, e1, e2, WV_N P c0 kc w h]
/-- the reference's search -/
theorem z_wI (fu : Nat) {P : PG} {c0 kc zh : Nat → Nat} {w h : Nat} (hb : ∀ j, j < 6400 → zh j = HX P c0 kc w j) (hb2 : ∀ j, HX P c0 kc w j ≤ 12) (hh : h ≤ 12) (a : Int32) (k62 k74 : Int32 → Option R19) : ∀ (m n x r : Nat), x + m = 6400 → m < n → r < 2 ^ 31 →
    fr_X7_worst_37 fu (aN zh) a (nI h) k62 k74 n (nI r) (nI x) = (match fF (pH P c0 kc w h) x m r with | some y => k62 (nI y) | none => k74 (nI (r - cF (pH P c0 kc w h) x m))) := by
  intro m
  induction m with
  | zero =>
    intro n x r hx hn hr
    obtain ⟨n, rfl⟩ : ∃ z, n = z + 1 := ⟨n - 1, by omega⟩
    rw [fr_X7_worst_37, if_pos (show (6400 : Int32) ≤ nI x from nI_le (a := 6400) (by omega) (by omega))]
    rfl
  | succ m ih =>
    intro n x r hx hn hr
    obtain ⟨n, rfl⟩ : ∃ z, n = z + 1 := ⟨n - 1, by omega⟩
    have hv := hb2 x
    rw [fr_X7_worst_37, if_neg (show ¬ (6400 : Int32) ≤ nI x from nI_ge (b := 6400) (by omega) (by decide)), if_pos (show inR (nI x) 6400 from in_i (by omega) (by decide)), aN_at _ (by omega), hb x (by omega), fF, cF_s]
    have e : nI (HX P c0 kc w x) = nI h ↔ HX P c0 kc w x = h := nI_eq (by omega) (by omega)
    by_cases q : HX P c0 kc w x = h
    · have qp : pH P c0 kc w h x = true := decide_eq_true q
      rw [if_pos (e.mpr q), if_pos qp, if_pos qp]
      by_cases z : r = 0
      · rw [if_pos (show nI r = (0 : Int32) by rw [z]; rfl), if_pos z]
      · obtain ⟨r, rfl⟩ : ∃ y, r = y + 1 := ⟨r - 1, by omega⟩
        rw [if_neg (show ¬ nI (r + 1) = (0 : Int32) from fun y => z ((nI_eq (b := 0) hr (by decide)).mp y)), if_neg z, nI_p, nI_1, ih n (x + 1) r (by omega) (by omega) (by omega), show r + 1 - (1 + cF (pH P c0 kc w h) (x + 1) m) = r - cF (pH P c0 kc w h) (x + 1) m by omega]
        rfl
    · have qp : ¬ pH P c0 kc w h x = true := fun z => q (of_decide_eq_true z)
      rw [if_neg (fun z => q (e.mp z)), if_neg qp, if_neg qp, nI_1, ih n (x + 1) r (by omega) (by omega) hr, Nat.zero_add]
theorem z_wO (fu : Nat) (hF : 70000 < fu) {P : PG} {c0 kc zh : Nat → Nat} {w : Nat} (hb : ∀ j, j < 6400 → zh j = HX P c0 kc w j) (hb2 : ∀ j, HX P c0 kc w j ≤ 12) {a : Int32} (ha : ¬ a < 0) (k : Int32 → Option R19) : ∀ (h n r : Nat), h ≤ 12 → h < n → r < 2 ^ 31 →
    fr_X7_worst_25 fu (aN zh) a k (k (-1)) n (nI r) (nI h) = k (WV P c0 kc w 6400 h r) := by
  intro h
  induction h with
  | zero =>
    intro n r hh hn hr
    obtain ⟨n, rfl⟩ : ∃ z, n = z + 1 := ⟨n - 1, by omega⟩
    rw [fr_X7_worst_25, if_pos (show nI 0 ≤ (0 : Int32) by decide)]
    rfl
  | succ h ih =>
    intro n r hh hn hr
    obtain ⟨n, rfl⟩ : ∃ z, n = z + 1 := ⟨n - 1, by omega⟩
    rw [fr_X7_worst_25, if_neg (show ¬ nI (h + 1) ≤ (0 : Int32) from nI_ge (a := 0) (by omega) (by omega)), if_neg ha, show (0 : Int32) = nI 0 from rfl, z_wI fu hb hb2 hh a _ _ 6400 fu 0 r rfl (by omega) hr, WV]
    cases fF (pH P c0 kc w (h + 1)) 0 6400 r with
    | some y => rfl
    | none =>
      dsimp only
      rw [nI_p]
      exact ih n _ (by omega) (by omega) (by omega)
/-- the class's tally -/
def pF (P : PG) (c0 kc : Nat → Nat) (w h x : Nat) : Bool := decide (x % 8 + w ≤ 8 ∧ HX P c0 kc w x = h)
theorem c_t0 (fu : Nat) (k21 : (Nat → Int32) → Option (Nat → Int32)) : ∀ (m n i : Nat) (ls : Nat → Nat), i + m = 13 → m < n → (∀ j, j < i → ls j = 0) → ∃ l2, fr_X2_tallyHarm_2 fu k21 n (aN ls) (nI i) = k21 (aN l2) ∧ ∀ j, j < 13 → l2 j = 0 := by
  intro m
  induction m with
  | zero =>
    intro n i ls hi hn hl
    obtain ⟨n, rfl⟩ : ∃ z, n = z + 1 := ⟨n - 1, by omega⟩
    refine ⟨ls, ?_, fun j hj => hl j (by omega)⟩
    rw [fr_X2_tallyHarm_2, if_pos (show (12 : Int32) < nI i from nI_lt (a := 12) (by omega) (by omega))]
  | succ m ih =>
    intro n i ls hi hn hl
    obtain ⟨n, rfl⟩ : ∃ z, n = z + 1 := ⟨n - 1, by omega⟩
    rw [fr_X2_tallyHarm_2, if_neg (show ¬ (12 : Int32) < nI i from nI_nlt (a := 12) (by omega) (by omega)), if_pos (show inR (nI i) 13 from in_i (by omega) (by decide)), show (0 : Int32) = nI 0 from rfl, aN_up _ _ (by omega), nI_1]
    refine ih n (i + 1) _ (by omega) (by omega) (fun j hj => ?_)
    by_cases q : j = i
    · subst q; exact up_s _ _ _
    · rw [up_n _ _ q]; exact hl j (by omega)
theorem c_t1 (fu : Nat) {P : PG} {c0 : Nat → Nat} (hP : okP P) (hc : ∀ j, j < 8 → c0 j < 256) (hf : 200 < fu) {f kc : Nat → Nat} (hk : ∀ j, j < 8 → kc j < 4) {w : Nat} (hw : w = 1 ∨ w = 2) (h : FO P c0 w f) (k60 : (Nat → Int32) → Option (Nat → Int32)) : ∀ (m n x : Nat) (ls : Nat → Nat), x + m = 64 * Tk P c0 → m < n → (∀ j, j < 13 → ls j = fb_ct (pF P c0 kc w j) x) →
    ∃ l2, fr_X2_tallyHarm_23 fu (aN kc) (nI (Tk P c0)) (nI w) (aN f) k60 n (aN ls) (nI x) = k60 (aN l2) ∧ ∀ j, j < 13 → l2 j = fb_ct (pF P c0 kc w j) (64 * Tk P c0) := by
  have hT := Tk_le P c0
  intro m
  induction m with
  | zero =>
    intro n x ls hx hn hl
    obtain ⟨n, rfl⟩ : ∃ z, n = z + 1 := ⟨n - 1, by omega⟩
    refine ⟨ls, ?_, fun j hj => by rw [hl j hj, show x = 64 * Tk P c0 by omega]⟩
    rw [fr_X2_tallyHarm_23]
    unfold f_X2_codes
    rw [Option.bind_some, m64, if_pos (nI_le (by omega) (by omega))]
  | succ m ih =>
    intro n x ls hx hn hl
    obtain ⟨n, rfl⟩ : ∃ z, n = z + 1 := ⟨n - 1, by omega⟩
    rw [fr_X2_tallyHarm_23]
    unfold f_X2_codes
    rw [Option.bind_some, m64, if_neg (nI_ge (by omega) (by omega)), l_isFlip fu (by omega) (by omega), Option.bind_some]
    by_cases q : x % 8 + w ≤ 8
    · have hv : HX P c0 kc w x = HD P c0 (x / 8 % 8) (x % 8) w (x / 64) (kc (x / 8 % 8)) := if_pos ⟨by omega, q⟩
      have hb := HX_b (kc := kc) hP hc hw x
      have hin : inR (nI (HX P c0 kc w x)) 13 := in_i (by omega) (by decide)
      rw [if_pos q, if_neg (show ¬ (1 : Int32) = 0 by decide), c_harmX fu hP hc hf hk hw h (by omega) q, Option.bind_some, ← hv, if_pos hin, if_pos hin, aN_at _ (by omega), nI_1, aN_up _ _ (by omega), nI_1]
      refine ih n (x + 1) _ (by omega) (by omega) (fun j hj => ?_)
      rw [fb_ct_succ]
      by_cases z : j = HX P c0 kc w x
      · subst z
        rw [up_s, hl _ hj, if_pos (show pF P c0 kc w (HX P c0 kc w x) x = true from decide_eq_true ⟨q, rfl⟩)]
      · rw [up_n _ _ z, hl j hj, if_neg (show ¬ pF P c0 kc w j x = true from fun y => z (of_decide_eq_true y).2.symm)]
        rfl
    · rw [if_neg q, if_pos rfl, nI_1]
      refine ih n (x + 1) _ (by omega) (by omega) (fun j hj => ?_)
      rw [fb_ct_succ, hl j hj, if_neg (show ¬ pF P c0 kc w j x = true from fun y => q (of_decide_eq_true y).1)]
      rfl
theorem pF_pH {P : PG} {c0 kc : Nat → Nat} {w h : Nat} (hh : 0 < h) (x : Nat) : pF P c0 kc w h x = pH P c0 kc w h x := by
  unfold pF pH
  by_cases q : HX P c0 kc w x = h
  · rw [decide_eq_true q]
    refine decide_eq_true ⟨?_, q⟩
    unfold HX at q
    by_cases z : x / 64 < Tk P c0 ∧ x % 8 + w ≤ 8
    · exact z.2
    · rw [if_neg z] at q; omega
  · rw [decide_eq_false q]; exact decide_eq_false (fun z => q z.2)
theorem c_code (fu : Nat) {P : PG} {c0 : Nat → Nat} (hP : okP P) (hc : ∀ j, j < 8 → c0 j < 256) (hf : 200 < fu) {f kc : Nat → Nat} (hk : ∀ j, j < 8 → kc j < 4) {w hh : Nat} (hw : w = 1 ∨ w = 2) (h : FO P c0 w f) (h0 : 0 < hh) (h12 : hh ≤ 12) (k40 : Int32 → Option Int32) (k52 : Option Int32) : ∀ (m n x r : Nat), x + m = 64 * Tk P c0 → m < n → r < 2 ^ 31 →
    fr_X2_codeOfHarm_6 fu (aN kc) (nI (Tk P c0)) (nI w) (aN f) (nI hh) k40 k52 n (nI r) (nI x) = (match fF (pH P c0 kc w hh) x m r with | some y => k40 (nI y) | none => k52) := by
  have hT := Tk_le P c0
  intro m
  induction m with
  | zero =>
    intro n x r hx hn hr
    obtain ⟨n, rfl⟩ : ∃ z, n = z + 1 := ⟨n - 1, by omega⟩
    rw [fr_X2_codeOfHarm_6]
    unfold f_X2_codes
    rw [Option.bind_some, m64, if_pos (nI_le (by omega) (by omega))]
    rfl
  | succ m ih =>
    intro n x r hx hn hr
    obtain ⟨n, rfl⟩ : ∃ z, n = z + 1 := ⟨n - 1, by omega⟩
    have hb := HX_b (kc := kc) hP hc hw x
    rw [fr_X2_codeOfHarm_6]
    unfold f_X2_codes
    rw [Option.bind_some, m64, if_neg (nI_ge (by omega) (by omega)), l_isFlip fu (by omega) (by omega), Option.bind_some, fF]
    by_cases q : x % 8 + w ≤ 8
    · have hv : HX P c0 kc w x = HD P c0 (x / 8 % 8) (x % 8) w (x / 64) (kc (x / 8 % 8)) := if_pos ⟨by omega, q⟩
      rw [if_pos q, if_neg (show ¬ (1 : Int32) = 0 by decide), c_harmX fu hP hc hf hk hw h (by omega) q, Option.bind_some, ← hv]
      have e : nI (HX P c0 kc w x) = nI hh ↔ HX P c0 kc w x = hh := nI_eq (by omega) (by omega)
      by_cases q2 : HX P c0 kc w x = hh
      · have qp : pH P c0 kc w hh x = true := decide_eq_true q2
        rw [if_pos (e.mpr q2), if_pos qp]
        by_cases z : r = 0
        · rw [if_pos (show nI r = (0 : Int32) by rw [z]; rfl), if_pos z]
        · obtain ⟨r, rfl⟩ : ∃ y, r = y + 1 := ⟨r - 1, by omega⟩
          rw [if_neg (show ¬ nI (r + 1) = (0 : Int32) from fun y => z ((nI_eq (b := 0) hr (by decide)).mp y)), if_neg z, nI_p, nI_1, ih n (x + 1) r (by omega) (by omega) (by omega)]
          rfl
      · have qp : ¬ pH P c0 kc w hh x = true := fun z => q2 (of_decide_eq_true z)
        rw [if_neg (fun z => q2 (e.mp z)), if_neg qp, nI_1, ih n (x + 1) r (by omega) (by omega) hr]
    · have qp : ¬ pH P c0 kc w hh x = true := fun z => by
        rw [← pF_pH h0] at z
        exact q (of_decide_eq_true z).1
      rw [if_neg q, if_pos rfl, if_neg qp, nI_1, ih n (x + 1) r (by omega) (by omega) hr]
theorem c_wO (fu : Nat) {P : PG} {c0 : Nat → Nat} (hP : okP P) (hc : ∀ j, j < 8 → c0 j < 256) (hf : 200 < fu) (hF : 70000 < fu) {f kc ls : Nat → Nat} (hk : ∀ j, j < 8 → kc j < 4) {w : Nat} (hw : w = 1 ∨ w = 2) (hFO : FO P c0 w f) (hl : ∀ j, j < 13 → ls j = fb_ct (pF P c0 kc w j) (64 * Tk P c0)) : ∀ (h n r : Nat), h ≤ 12 → h < n → r < 2 ^ 31 →
    fr_X2_worstCode_17 fu (aN ls) (fun a b => ((f_X2_codeOfHarm fu (aN kc) (nI (Tk P c0)) (nI w) (aN f) b a).bind (fun t => some (t, aN ls)))) (some (-1, aN ls)) n (nI r) (nI h) = some (WV P c0 kc w (64 * Tk P c0) h r, aN ls) := by
  have hT := Tk_le P c0
  intro h
  induction h with
  | zero =>
    intro n r hh hn hr
    obtain ⟨n, rfl⟩ : ∃ z, n = z + 1 := ⟨n - 1, by omega⟩
    rw [fr_X2_worstCode_17, if_pos (show nI 0 ≤ (0 : Int32) by decide)]
    rfl
  | succ h ih =>
    intro n r hh hn hr
    obtain ⟨n, rfl⟩ : ∃ z, n = z + 1 := ⟨n - 1, by omega⟩
    have hin : inR (nI (h + 1)) 13 := in_i (by omega) (by decide)
    have e : ls (h + 1) = cF (pH P c0 kc w (h + 1)) 0 (64 * Tk P c0) := by
      rw [hl _ (by omega)]
      unfold cF
      refine fb_ct_cong (fun k _ => ?_)
      rw [Nat.zero_add]; exact pF_pH (by omega) k
    have hle : cF (pH P c0 kc w (h + 1)) 0 (64 * Tk P c0) ≤ 6400 := Nat.le_trans (fb_ct_le _ _) (by omega)
    rw [fr_X2_worstCode_17, if_neg (show ¬ nI (h + 1) ≤ (0 : Int32) from nI_ge (a := 0) (by omega) (by omega)), if_pos hin, if_pos hin, aN_at _ (by omega), e, WV]
    by_cases q : cF (pH P c0 kc w (h + 1)) 0 (64 * Tk P c0) ≤ r
    · rw [if_pos (nI_le q hr), pk_sub q, nI_p, (fF_none _ _ _ _).mpr q]
      exact ih n _ (by omega) (by omega) (by omega)
    · rw [if_neg (nI_ge (by omega) (by omega))]
      unfold f_X2_codeOfHarm
      rw [show (0 : Int32) = nI 0 from rfl, c_code fu hP hc hf hk hw hFO (by omega) hh _ _ (64 * Tk P c0) fu 0 r (by omega) (by omega) hr]
      cases hz : fF (pH P c0 kc w (h + 1)) 0 (64 * Tk P c0) r with
      | some y => rfl
      | none => exact absurd ((fF_none _ _ _ _).mp hz) q
theorem c_worst (fu : Nat) {P : PG} {c0 : Nat → Nat} (hP : okP P) (hc : ∀ j, j < 8 → c0 j < 256) (hf : 200 < fu) (hF : 70000 < fu) {f kc : Nat → Nat} (hk : ∀ j, j < 8 → kc j < 4) {w : Nat} (hw : w = 1 ∨ w = 2) (hFO : FO P c0 w f) (ls : Nat → Int32) {r : Nat} (hr : r < 2 ^ 31) : ∃ l2, f_X2_worstCode fu (aN kc) (nI (Tk P c0)) (nI w) (aN f) ls (nI r) = some (WV P c0 kc w (64 * Tk P c0) 12 r, l2) := by
  have hT := Tk_le P c0
  obtain ⟨l0, e0⟩ := aN_all ls
  obtain ⟨l1, h1, h2⟩ := c_t0 fu (fun e => fr_X2_tallyHarm_23 fu (aN kc) (nI (Tk P c0)) (nI w) (aN f) (fun e => some e) fu e 0) 13 fu 0 l0 rfl (by omega) (fun j hj => absurd hj (Nat.not_lt_zero j))
  obtain ⟨l2, h3, h4⟩ := c_t1 fu hP hc hf hk hw hFO (fun e => some e) (64 * Tk P c0) fu 0 l1 (by omega) (by omega) (fun j hj => by rw [h2 j hj]; rfl)
  refine ⟨aN l2, ?_⟩
  unfold f_X2_worstCode f_X2_tallyHarm
  rw [if_pos (show (0 : Int32) ≤ nI r from nI_le (a := 0) (Nat.zero_le _) hr), e0]
  have h5 : fr_X2_tallyHarm_2 fu (fun e => fr_X2_tallyHarm_23 fu (aN kc) (nI (Tk P c0)) (nI w) (aN f) (fun e => some e) fu e 0) fu (aN l0) 0 = some (aN l2) := h1.trans h3
  rw [h5, Option.bind_some]
  exact c_wO fu hP hc hf hF hk hw hFO h4 12 fu r (by omega) (by omega) hr
theorem x_worst (fu : Nat) {P : PG} {c0 : Nat → Nat} (hP : okP P) (hc : ∀ j, j < 8 → c0 j < 256) (hf : 200 < fu) {lf : Nat → Int32} {T : M16} (h : SO P c0 lf T) {kc : Nat → Nat} (hk : ∀ j, j < 8 → kc j < 4) {s : Nat} (hs : s ≤ 60) (hF : 70000 < fu) (K : K9) (lc lo : Int32) (Z : Z16) (zh ls : Nat → Int32) (a b : Int32) : ∃ (v : Int32) (U : M16) (J : K9) (lf2 : Nat → Int32) (s2 : Nat) (W : Z16) (zh2 ls2 : Nat → Int32), f_X6_worst fu T.1 (nI s) (nI P.1) (aN P.2.1) (aN P.2.2.1) (aN P.2.2.2) (aN c0) (aN kc) T.2.1 T.2.2.1 T.2.2.2.1 T.2.2.2.2.1 T.2.2.2.2.2.1 T.2.2.2.2.2.2.1 T.2.2.2.2.2.2.2.1 T.2.2.2.2.2.2.2.2.1 T.2.2.2.2.2.2.2.2.2.1 T.2.2.2.2.2.2.2.2.2.2.1 T.2.2.2.2.2.2.2.2.2.2.2.1 T.2.2.2.2.2.2.2.2.2.2.2.2.1 T.2.2.2.2.2.2.2.2.2.2.2.2.2.1 T.2.2.2.2.2.2.2.2.2.2.2.2.2.2.1 T.2.2.2.2.2.2.2.2.2.2.2.2.2.2.2 K.1 K.2.1 K.2.2.1 K.2.2.2.1 K.2.2.2.2.1 K.2.2.2.2.2.1 K.2.2.2.2.2.2.1 K.2.2.2.2.2.2.2.1 K.2.2.2.2.2.2.2.2 lf ls a b = some (v, U.1, nI s2, U.2.1, U.2.2.1, U.2.2.2.1, U.2.2.2.2.1, U.2.2.2.2.2.1, U.2.2.2.2.2.2.1, U.2.2.2.2.2.2.2.1, U.2.2.2.2.2.2.2.2.1, U.2.2.2.2.2.2.2.2.2.1, U.2.2.2.2.2.2.2.2.2.2.1, U.2.2.2.2.2.2.2.2.2.2.2.1, U.2.2.2.2.2.2.2.2.2.2.2.2.1, U.2.2.2.2.2.2.2.2.2.2.2.2.2.1, U.2.2.2.2.2.2.2.2.2.2.2.2.2.2.1, U.2.2.2.2.2.2.2.2.2.2.2.2.2.2.2, J.1, J.2.1, J.2.2.1, J.2.2.2.1, J.2.2.2.2.1, J.2.2.2.2.2.1, J.2.2.2.2.2.2.1, J.2.2.2.2.2.2.2.1, J.2.2.2.2.2.2.2.2, lf2, ls2) ∧ SO P c0 lf2 U ∧ s2 ≤ 60 ∧ f_X7_worst fu (nI P.1) (nI s) Z.1 Z.2.1 Z.2.2.1 Z.2.2.2.1 Z.2.2.2.2.1 Z.2.2.2.2.2.1 Z.2.2.2.2.2.2.1 Z.2.2.2.2.2.2.2.1 Z.2.2.2.2.2.2.2.2.1 lc lo Z.2.2.2.2.2.2.2.2.2.1 Z.2.2.2.2.2.2.2.2.2.2.1 Z.2.2.2.2.2.2.2.2.2.2.2.1 Z.2.2.2.2.2.2.2.2.2.2.2.2.1 (aN P.2.1) (aN P.2.2.1) (aN P.2.2.2) (aN c0) (aN kc) Z.2.2.2.2.2.2.2.2.2.2.2.2.2.1 Z.2.2.2.2.2.2.2.2.2.2.2.2.2.2.1 Z.2.2.2.2.2.2.2.2.2.2.2.2.2.2.2 zh a b = some (v, nI s2, W.1, W.2.1, W.2.2.1, W.2.2.2.1, W.2.2.2.2.1, W.2.2.2.2.2.1, W.2.2.2.2.2.2.1, W.2.2.2.2.2.2.2.1, W.2.2.2.2.2.2.2.2.1, W.2.2.2.2.2.2.2.2.2.1, W.2.2.2.2.2.2.2.2.2.2.1, W.2.2.2.2.2.2.2.2.2.2.2.1, W.2.2.2.2.2.2.2.2.2.2.2.2.1, W.2.2.2.2.2.2.2.2.2.2.2.2.2.1, W.2.2.2.2.2.2.2.2.2.2.2.2.2.2.1, W.2.2.2.2.2.2.2.2.2.2.2.2.2.2.2, zh2) := by
  unfold f_X6_worst f_X7_worst
  rcases x_wide fu a with ⟨w, hw, rfl, q3, q4⟩ | ⟨q3, q4⟩
  · rw [q3, Option.bind_some, if_neg (show ¬ (1 : Int32) = 0 by decide)]
    obtain ⟨v, U, W, h1, h2, h3, h4⟩ := x_search fu hP hc hf h (m := 1) hs (by decide) hw lc lo Z
    rw [show (1 : Int32) = nI 1 from rfl, h1, Option.bind_some]
    dsimp only
    rcases h4 with ⟨hv, h4⟩ | ⟨rfl, hs2, he, hz, h4⟩
    · rw [h4, Option.bind_some, if_neg hv]
      dsimp only
      rw [if_neg hv]
      exact ⟨v, U, K, lf, s, W, zh, ls, rfl, Or.inr ⟨h2, h3⟩, hs, rfl⟩
    · obtain ⟨J, f, i1, i2, i3, i4⟩ := c_try fu hP hc hf h2 h3 hw K
      rw [if_pos rfl, i1, Option.bind_some, h4, Option.bind_some, if_pos rfl]
      dsimp only
      have hT := Tk_le P c0
      obtain ⟨-, z2, z3, -, rp, z5, z6⟩ := hz
      obtain ⟨Y, zh2, j1, j3⟩ := z_harmAll fu hP hc hf he z6 hF hk hw lc lo (W.1, W.2.1, W.2.2.1, W.2.2.2.1, W.2.2.2.2.1, W.2.2.2.2.2.1, W.2.2.2.2.2.2.1, W.2.2.2.2.2.2.2.1, W.2.2.2.2.2.2.2.2.1, W.2.2.2.2.2.2.2.2.2.1, W.2.2.2.2.2.2.2.2.2.2.2.2.2.1, W.2.2.2.2.2.2.2.2.2.2.2.2.2.2.1) zh
      rw [← z2, ← z3, ← z5] at j1
      rw [j1, Option.bind_some, nI_add]
      by_cases q : b < 0
      · have k1 : f_X2_worstCode fu (aN kc) U.2.2.2.1 (nI w) (aN f) ls b = some (-1, ls) := if_neg (fun z => absurd q (by rw [Int32.not_lt]; exact z))
        have k2 : ∀ (k62 : Int32 → Option R19) (k80 : Option R19), fr_X7_worst_25 fu (aN zh2) b k62 k80 fu b 12 = k80 := by
          intro k62 k80
          obtain ⟨n, rfl⟩ : ∃ z, fu = z + 1 := ⟨fu - 1, by omega⟩
          rw [fr_X7_worst_25, if_neg (by decide), if_pos q]
        rw [k1, Option.bind_some, k2]
        exact ⟨-1, (U.1, U.2.1, U.2.2.1, U.2.2.2.1, U.2.2.2.2.1, U.2.2.2.2.2.1, U.2.2.2.2.2.2.1, U.2.2.2.2.2.2.2.1, U.2.2.2.2.2.2.2.2.1, U.2.2.2.2.2.2.2.2.2.1, U.2.2.2.2.2.2.2.2.2.2.1, U.2.2.2.2.2.2.2.2.2.2.2.1, U.2.2.2.2.2.2.2.2.2.2.2.2.1, U.2.2.2.2.2.2.2.2.2.2.2.2.2.1, U.2.2.2.2.2.2.2.2.2.2.2.2.2.2.1, nI w), J, aN f, s + 1, (Y.1, Y.2.1, Y.2.2.1, Y.2.2.2.1, Y.2.2.2.2.1, Y.2.2.2.2.2.1, Y.2.2.2.2.2.2.1, Y.2.2.2.2.2.2.2.1, Y.2.2.2.2.2.2.2.2.1, Y.2.2.2.2.2.2.2.2.2.1, W.2.2.2.2.2.2.2.2.2.2.1, W.2.2.2.2.2.2.2.2.2.2.2.1, W.2.2.2.2.2.2.2.2.2.2.2.2.1, Y.2.2.2.2.2.2.2.2.2.2.1, Y.2.2.2.2.2.2.2.2.2.2.2, W.2.2.2.2.2.2.2.2.2.2.2.2.2.2.2), aN zh2, ls, rfl, i3, by omega, rfl⟩
      · obtain ⟨r, hr, rfl⟩ := nI_e q
        obtain ⟨l2, k1⟩ := c_worst fu hP hc hf hF hk hw i2 ls hr
        have k2 := z_wO fu hF j3 (HX_b (kc := kc) hP hc hw) q (fun y => some (y, nI (s + 1), Y.1, Y.2.1, Y.2.2.1, Y.2.2.2.1, Y.2.2.2.2.1, Y.2.2.2.2.2.1, Y.2.2.2.2.2.2.1, Y.2.2.2.2.2.2.2.1, Y.2.2.2.2.2.2.2.2.1, Y.2.2.2.2.2.2.2.2.2.1, W.2.2.2.2.2.2.2.2.2.2.1, W.2.2.2.2.2.2.2.2.2.2.2.1, W.2.2.2.2.2.2.2.2.2.2.2.2.1, Y.2.2.2.2.2.2.2.2.2.2.1, Y.2.2.2.2.2.2.2.2.2.2.2, W.2.2.2.2.2.2.2.2.2.2.2.2.2.2.2, aN zh2)) 12 fu r (by decide) (by omega) hr
        rw [WV_N] at k2
        rw [i4, k1, Option.bind_some, ← i4]
        exact ⟨_, (U.1, U.2.1, U.2.2.1, U.2.2.2.1, U.2.2.2.2.1, U.2.2.2.2.2.1, U.2.2.2.2.2.2.1, U.2.2.2.2.2.2.2.1, U.2.2.2.2.2.2.2.2.1, U.2.2.2.2.2.2.2.2.2.1, U.2.2.2.2.2.2.2.2.2.2.1, U.2.2.2.2.2.2.2.2.2.2.2.1, U.2.2.2.2.2.2.2.2.2.2.2.2.1, U.2.2.2.2.2.2.2.2.2.2.2.2.2.1, U.2.2.2.2.2.2.2.2.2.2.2.2.2.2.1, nI w), J, aN f, s + 1, (Y.1, Y.2.1, Y.2.2.1, Y.2.2.2.1, Y.2.2.2.2.1, Y.2.2.2.2.2.1, Y.2.2.2.2.2.2.1, Y.2.2.2.2.2.2.2.1, Y.2.2.2.2.2.2.2.2.1, Y.2.2.2.2.2.2.2.2.2.1, W.2.2.2.2.2.2.2.2.2.2.1, W.2.2.2.2.2.2.2.2.2.2.2.1, W.2.2.2.2.2.2.2.2.2.2.2.2.1, Y.2.2.2.2.2.2.2.2.2.2.1, Y.2.2.2.2.2.2.2.2.2.2.2, W.2.2.2.2.2.2.2.2.2.2.2.2.2.2.2), aN zh2, l2, rfl, i3, by omega, k2⟩
  · rw [q3, Option.bind_some, if_pos rfl, show (1 : Int32) = nI 1 from rfl, shut_no fu lc lo Z q4, Option.bind_some]
    dsimp only
    rw [if_neg (show ¬ (-102 : Int32) = 0 by decide)]
    exact ⟨-102, T, K, lf, s, Z, zh, ls, rfl, h, hs, rfl⟩
