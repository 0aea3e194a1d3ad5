/-! KINDS: the class's fate of a flip, and the reference's kind -/
def FFa (P : PG) (c0 : Nat → Nat) (c v u : Nat) : Nat := if (FE P c0 c v u).e = 1 then 3 else if (FE P c0 c v u).e = 3 then 4 else if FH P c0 c v u = 0 then 1 else 5
def FFs (P : PG) (c0 : Nat → Nat) (c v u : Nat) : Nat := if (FE P c0 c v u).e = 1 then 0 else if (FE P c0 c v u).e = 3 then 0 else FL P c0 c v u
def FFh (P : PG) (c0 : Nat → Nat) (c v u : Nat) : Nat := if (FE P c0 c v u).e = 1 then 0 else if (FE P c0 c v u).e = 3 then 0 else FH P c0 c v u
theorem FF_n (P : PG) (c0 : Nat → Nat) (c v u : Nat) : FF P c0 c v u = fN (FFa P c0 c v u) (FFs P c0 c v u) (FFh P c0 c v u) (FT P c0 c v u) := by
  unfold FF FFa FFs FFh
  by_cases h1 : (FE P c0 c v u).e = 1
  · rw [if_pos h1, if_pos h1, if_pos h1, if_pos h1]
  · rw [if_neg h1, if_neg h1, if_neg h1, if_neg h1]
    by_cases h3 : (FE P c0 c v u).e = 3
    · rw [if_pos h3, if_pos h3, if_pos h3, if_pos h3]
    · rw [if_neg h3, if_neg h3, if_neg h3, if_neg h3]
abbrev isR (P : PG) (c0 : Nat → Nat) (c t : Nat) : Prop := nu P c0 c t < Tk P c0 ∧ rdS P (Pl P c0 (nu P c0 c t)) c
/-- kind, struck still, harm, ticks of a flip -/
def Qa (P : PG) (c0 : Nat → Nat) (c v t : Nat) : Nat := if isR P c0 c t then FFa P c0 c v (nu P c0 c t) else 0
def Qs (P : PG) (c0 : Nat → Nat) (c v t : Nat) : Nat := if isR P c0 c t then FFs P c0 c v (nu P c0 c t) else if nu P c0 c t < Tk P c0 then 0 else 1
def Qh (P : PG) (c0 : Nat → Nat) (c v t : Nat) : Nat := if isR P c0 c t then FFh P c0 c v (nu P c0 c t) else 0
def Qt (P : PG) (c0 : Nat → Nat) (c v t : Nat) : Nat := if isR P c0 c t then FT P c0 c v (nu P c0 c t) else Tk P c0
abbrev Qf (P : PG) (c0 : Nat → Nat) (c v t : Nat) : Nat := fN (Qa P c0 c v t) (Qs P c0 c v t) (Qh P c0 c v t) (Qt P c0 c v t)
theorem FFa_b (P : PG) (c0 : Nat → Nat) (c v u : Nat) : FFa P c0 c v u ≤ 5 ∧ ¬ FFa P c0 c v u = 0 := by
  unfold FFa
  split
  · decide
  · split
    · decide
    · split <;> decide
theorem Qa_b (P : PG) (c0 : Nat → Nat) (c v t : Nat) : Qa P c0 c v t < 6 := by
  unfold Qa
  split
  · exact Nat.lt_succ_of_le (FFa_b P c0 c v _).1
  · decide
theorem Qs_b (P : PG) (c0 : Nat → Nat) (c v t : Nat) : Qs P c0 c v t < 2 := by
  unfold Qs FFs FL
  repeat' split
  all_goals decide
theorem Qh_b {P : PG} {c0 : Nat → Nat} (hP : okP P) (hc : ∀ j, j < 8 → c0 j < 256) {c v t : Nat} (hcc : c < 8) (hv : v < 256) : Qh P c0 c v t ≤ 12 := by
  unfold Qh
  split
  · rename_i h
    unfold FFh
    split
    · decide
    · split
      · decide
      · exact qH_le (Pl P c0 100).r (FE P c0 c v (nu P c0 c t)).r (qI_ok hP 100 _ (S0_ok hc)).2.1 (qI_ok hP (100 - nu P c0 c t) _ (FS_ok hP hc hcc hv h.1)).2.1
  · decide
theorem Qt_b (P : PG) (c0 : Nat → Nat) (c v t : Nat) : Qt P c0 c v t ≤ 100 := by
  have hT := Tk_le P c0
  unfold Qt
  split
  · rename_i h
    show nu P c0 c t + qT P (FS P c0 c v (nu P c0 c t)) (100 - nu P c0 c t) ≤ 100
    have := qT_le P (100 - nu P c0 c t) (FS P c0 c v (nu P c0 c t))
    omega
  · exact hT
/-- looks at each reading -/
abbrev lk (so w : Nat) : Prop := (so = 1 ∧ w = 1) ∨ so = 2
def KU (a s so w : Nat) : Nat := if so = 3 ∧ s = 1 then 2 else if lk so w ∧ ¬ a = 0 then 2 else a
theorem m7 {a s h t : Nat} (ha : a < 8) : nI (fN a s h t) &&& (7 : Int32) = nI a := by
  rw [show (7 : Int32) = nI (2 ^ 3 - 1) from rfl, fa_mask]
  congr 1
  show (a + 8 * s + 16 * h + 256 * t) % 8 = a
  omega
theorem an8 {a s h t : Nat} (ha : a < 8) (hs : s < 2) (hh : h < 16) (ht : t < 2 ^ 20) : nI (fN a s h t) &&& (8 : Int32) = (0 : Int32) ↔ s = 0 := by
  have hx : (fN a s h t) / 2 ^ 3 % 2 = s := by
    show (a + 8 * s + 16 * h + 256 * t) / 8 % 2 = s
    omega
  have hb : (fN a s h t).testBit 3 = decide (s = 1) := by rw [Nat.testBit_eq_decide_div_mod_eq, hx]
  rw [show (8 : Int32) = nI (2 ^ 3) from rfl, fa_and]
  rcases (show s = 0 ∨ s = 1 by omega) with rfl | rfl
  · have e : fN a 0 h t &&& 2 ^ 3 = 0 := Nat.eq_of_testBit_eq (fun i => by
      rw [Nat.testBit_and, Nat.testBit_two_pow, Nat.zero_testBit]
      by_cases q : 3 = i
      · subst q; rw [hb]; rfl
      · simp [q])
    rw [e]; exact ⟨fun _ => rfl, fun _ => rfl⟩
  · have e : fN a 1 h t &&& 2 ^ 3 = 2 ^ 3 := Nat.eq_of_testBit_eq (fun i => by
      rw [Nat.testBit_and, Nat.testBit_two_pow]
      by_cases q : 3 = i
      · subst q; rw [hb]; rfl
      · simp [q])
    rw [e]; exact ⟨fun q => absurd q (by decide), fun q => absurd q (by decide)⟩
theorem l_caughtR (fu : Nat) {a s h t so w : Nat} (ha : a < 8) (hso : so < 4) (hw : w < 3) : f_X1_isCaughtReading fu (nI (fN a s h t)) (nI so) (nI w) = some (if lk so w ∧ ¬ a = 0 then 1 else 0) := by
  unfold f_X1_isCaughtReading fr_X1_isCaughtReading_15 fr_X1_isCaughtReading_19
  rw [m7 ha]
  have e0 : (nI a = (0 : Int32)) ↔ a = 0 := nI_eq (a := a) (b := 0) (by omega) (by decide)
  have e2 : (nI so = (2 : Int32)) ↔ so = 2 := nI_eq (a := so) (b := 2) (by omega) (by decide)
  have e1 : (nI so = (1 : Int32)) ↔ so = 1 := nI_eq (a := so) (b := 1) (by omega) (by decide)
  have ew : (nI w = (1 : Int32)) ↔ w = 1 := nI_eq (a := w) (b := 1) (by omega) (by decide)
  simp only [e0, e1, e2, ew]
  by_cases c2 : so = 2
  · by_cases c0 : a = 0 <;> simp [c2, c0]
  · by_cases c1 : so = 1
    · by_cases cw : w = 1
      · by_cases c0 : a = 0 <;> simp [c1, cw, c0]
      · simp [lk, c1, cw]
    · simp [lk, c1, c2]
theorem l_kindU (fu : Nat) {a s h t so w : Nat} (ha : a < 8) (hs : s < 2) (hh : h < 16) (ht : t < 2 ^ 20) (hso : so < 4) (hw : w < 3) : f_X1_kindUnder fu (nI (fN a s h t)) (nI so) (nI w) = some (nI (KU a s so w)) := by
  unfold f_X1_kindUnder fr_X1_kindUnder_16
  rw [l_caughtR fu ha hso hw, Option.bind_some, m7 ha]
  have e3 : (nI so = (3 : Int32)) ↔ so = 3 := nI_eq (a := so) (b := 3) (by omega) (by decide)
  have e8 := an8 ha hs hh ht
  unfold KU
  simp only [e3, e8]
  by_cases c3 : so = 3
  · subst c3
    have nl : ¬ (lk 3 w ∧ ¬ a = 0) := fun z => by rcases z.1 with q | q <;> omega
    rcases (show s = 0 ∨ s = 1 by omega) with rfl | rfl
    · rw [if_pos rfl, if_pos rfl, if_neg nl, if_pos rfl, if_neg (show ¬ (3 = 3 ∧ 0 = 1) by omega), if_neg nl]
    · rw [if_pos rfl, if_neg (by decide), if_pos ⟨rfl, rfl⟩]; rfl
  · rw [if_neg c3, if_neg (show ¬ (so = 3 ∧ s = 1) from fun z => c3 z.1)]
    by_cases cl : lk so w ∧ ¬ a = 0
    · rw [if_pos cl, if_pos cl, if_neg (by decide)]; rfl
    · rw [if_neg cl, if_neg cl, if_pos rfl]
theorem KU_b {a s so w : Nat} (ha : a < 6) : KU a s so w < 6 := by
  unfold KU
  repeat' split
  all_goals omega
theorem l_harmU (fu : Nat) {a s h t so w : Nat} (ha : a < 6) (hs : s < 2) (hh : h < 16) (ht : t < 2 ^ 20) (hso : so < 4) (hw : w < 3) : f_X1_harmUnder fu (nI (fN a s h t)) (nI so) (nI w) = some (nI (if KU a s so w = 5 then h else 0)) := by
  unfold f_X1_harmUnder
  rw [l_kindU fu (by omega) hs hh ht hso hw, Option.bind_some]
  have hk := KU_b (s := s) (so := so) (w := w) ha
  have e5 : (nI (KU a s so w) = (5 : Int32)) ↔ KU a s so w = 5 := nI_eq (a := KU a s so w) (b := 5) (by omega) (by decide)
  by_cases c5 : KU a s so w = 5
  · rw [if_pos (e5.mpr c5), if_pos c5, pk_shrN (n := fN a s h t) (by show a + 8 * s + 16 * h + 256 * t < 2 ^ 31; omega) ((4 : Int32) &&& 31) 4 (by decide), show (15 : Int32) = nI (2 ^ 4 - 1) from rfl, fa_mask]
    congr 2
    show (a + 8 * s + 16 * h + 256 * t) / 16 % 16 = h
    omega
  · rw [if_neg (fun z => c5 (e5.mp z)), if_neg c5]; rfl
theorem l_ticksOf (fu : Nat) {a s h t : Nat} (ha : a < 8) (hs : s < 2) (hh : h < 16) (ht : t < 2 ^ 20) : f_X1_ticksOf fu (nI (fN a s h t)) = some (nI t) := by
  unfold f_X1_ticksOf
  rw [pk_shrN (n := fN a s h t) (by show a + 8 * s + 16 * h + 256 * t < 2 ^ 31; omega) ((8 : Int32) &&& 31) 8 (by decide)]
  congr 2
  show (a + 8 * s + 16 * h + 256 * t) / 256 = t
  omega
/-- the kind under a check; the harm under it; how many ticks -/
def KD (P : PG) (c0 : Nat → Nat) (c k w t so : Nat) : Nat := KU (Qa P c0 c (fm w k) t) (Qs P c0 c (fm w k) t) so w
def HD (P : PG) (c0 : Nat → Nat) (c k w t so : Nat) : Nat := if KD P c0 c k w t so = 5 then Qh P c0 c (fm w k) t else 0
def LD (P : PG) (c0 : Nat → Nat) (c k w t so : Nat) : Nat := if lk so w ∧ ¬ Qa P c0 c (fm w k) t = 0 then nu P c0 c t + 1 else Qt P c0 c (fm w k) t
/-! the reference's kindOf -/
abbrev R13 : Type := Int32 × Int32 × Int32 × Int32 × Int32 × Int32 × Int32 × Int32 × Int32 × Int32 × Int32 × (Nat → Int32) × (Nat → Int32)
def KT (fu : Nat) (pm : Int32) (zp : Nat → Int32) (t8 : RESg) : Option R13 :=
  if t8.2.2.2.2.2.2.2.2.1 = 0 then (if t8.2.2.2.2.2.2.2.1 = 0 then some (0, t8.1, t8.2.1, t8.2.2.1, t8.2.2.2.1, t8.2.2.2.2.1, t8.2.2.2.2.2.1, t8.2.2.2.2.2.2.1, t8.2.2.2.2.2.2.2.1, t8.2.2.2.2.2.2.2.2.1, t8.2.2.2.2.2.2.2.2.2.1, t8.2.2.2.2.2.2.2.2.2.2.1, t8.2.2.2.2.2.2.2.2.2.2.2) else (if t8.2.1 = 1 then ((f_X7_harmNow fu t8.2.2.1 pm t8.2.2.2.2.2.2.2.2.2.2.2 zp).bind (fun t12 => (if t12 ≤ 0 then some (1, t8.1, t8.2.1, t8.2.2.1, t8.2.2.2.1, t8.2.2.2.2.1, t8.2.2.2.2.2.1, t8.2.2.2.2.2.2.1, t8.2.2.2.2.2.2.2.1, t8.2.2.2.2.2.2.2.2.1, t8.2.2.2.2.2.2.2.2.2.1, t8.2.2.2.2.2.2.2.2.2.2.1, t8.2.2.2.2.2.2.2.2.2.2.2) else some (5, t8.1, t8.2.1, t8.2.2.1, t8.2.2.2.1, t8.2.2.2.2.1, t8.2.2.2.2.2.1, t8.2.2.2.2.2.2.1, t8.2.2.2.2.2.2.2.1, t8.2.2.2.2.2.2.2.2.1, t8.2.2.2.2.2.2.2.2.2.1, t8.2.2.2.2.2.2.2.2.2.2.1, t8.2.2.2.2.2.2.2.2.2.2.2)))) else some (t8.2.1, t8.1, t8.2.1, t8.2.2.1, t8.2.2.2.1, t8.2.2.2.2.1, t8.2.2.2.2.2.1, t8.2.2.2.2.2.2.1, t8.2.2.2.2.2.2.2.1, t8.2.2.2.2.2.2.2.2.1, t8.2.2.2.2.2.2.2.2.2.1, t8.2.2.2.2.2.2.2.2.2.2.1, t8.2.2.2.2.2.2.2.2.2.2.2))) else some (2, t8.1, t8.2.1, t8.2.2.1, t8.2.2.2.1, t8.2.2.2.2.1, t8.2.2.2.2.2.1, t8.2.2.2.2.2.2.1, t8.2.2.2.2.2.2.2.1, t8.2.2.2.2.2.2.2.2.1, t8.2.2.2.2.2.2.2.2.2.1, t8.2.2.2.2.2.2.2.2.2.2.1, t8.2.2.2.2.2.2.2.2.2.2.2)
theorem mk1 : ∀ k, k < 8 → (1 : Int32) <<< (nI k &&& 31) = nI (fm 1 k) := by decide +kernel
theorem mk2 : ∀ k, k < 8 → (3 : Int32) <<< (nI k &&& 31) = nI (fm 2 k) := by decide +kernel
theorem kindOf_KT (fu : Nat) {k w : Nat} (hw : w = 1 ∨ w = 2) (hk : k + w ≤ 8) (n x1 x2 x3 x4 x5 x6 x7 x8 x9 lc lf x10 pm : Int32) (zo za zb zc zn zt zp : Nat → Int32) (c t so : Int32) :
    f_X7_kindOf fu n x1 x2 x3 x4 x5 x6 x7 x8 x9 lc lf x10 pm zo za zb zc zn zt zp c (nI k) (nI w) t so = (f_X7_go fu n x1 x2 x3 x4 x5 x6 x7 x8 x9 lc lf x10 zo za zb zc zn zt c (nI (fm w k)) (nI w) t so).bind (KT fu pm zp) := by
  unfold f_X7_kindOf
  rcases hw with rfl | rfl
  · rw [if_pos (show nI 1 = (1 : Int32) from rfl), mk1 k (by omega)]
    rfl
  · rw [if_neg (by decide), mk2 k (by omega)]
    rfl
