/-! THE CLASS: fateOf, tryAll -/
theorem qU_cong {f g : Nat → Bool} : ∀ (m t : Nat), (∀ j, t ≤ j → j < t + m → f j = g j) → qU f t m = qU g t m
  | 0, _, _ => rfl
  | m + 1, t, h => by
    rw [qU, qU, h t (Nat.le_refl t) (by omega), qU_cong m (t + 1) (fun j h1 h2 => h j (by omega) (by omega))]
section CF
variable (fu : Nat) {P : PG} {c0 g r : Nat → Nat} {A : TA}
theorem tr_b (hP : okP P) (hc : ∀ j, j < 8 → c0 j < 256) (hA : TrOK P c0 g r A) : ∀ u, u < Tk P c0 → A.2.2.2.1 u < 2 ^ 8 ∧ A.2.2.2.2 u < 2 ^ 8 := by
  intro u hu
  obtain ⟨-, -, -, h4, h5⟩ := hA.2.2 u hu
  have hi := (qI_ok hP u _ (S0_ok (P := P) (r := fun _ => 0) hc)).2.2.2.1 (qT_lt P 100 _ u hu)
  rw [h4, h5]
  exact ⟨rM_lt (hP.2 _ hi), wM_lt (hP.2 _ hi)⟩
theorem tr_r (hP : okP P) (hc : ∀ j, j < 8 → c0 j < 256) (hA : TrOK P c0 g r A) {c u : Nat} (hu : u < Tk P c0) : (A.2.2.2.1 u).testBit c = true ↔ rdS P (Pl P c0 u) c := by
  rw [(hA.2.2 u hu).2.2.2.1]; exact rM_bit _ _ _ _ _
theorem tr_w (hP : okP P) (hc : ∀ j, j < 8 → c0 j < 256) (hA : TrOK P c0 g r A) {c u : Nat} (hu : u < Tk P c0) : (A.2.2.2.2 u).testBit c = true ↔ wrS P (Pl P c0 u) c := by
  rw [(hA.2.2 u hu).2.2.2.2]; exact wM_bit _ _ _ _ _
theorem tr_nu (hP : okP P) (hc : ∀ j, j < 8 → c0 j < 256) (hA : TrOK P c0 g r A) {c t : Nat} (ht : t ≤ Tk P c0) : qU (fun u => (A.2.2.2.1 u ||| A.2.2.2.2 u).testBit c) t (Tk P c0 - t) = nu P c0 c t := by
  unfold nu
  refine qU_cong _ _ (fun j h1 h2 => ?_)
  have hj : j < Tk P c0 := by omega
  have e1 := tr_r hP hc hA (c := c) hj
  have e2 := tr_w hP hc hA (c := c) hj
  rw [Nat.testBit_or]
  by_cases q1 : rdS P (Pl P c0 j) c
  · rw [e1.mpr q1]; simp [q1]
  · rw [Bool.eq_false_iff.mpr (fun z => q1 (e1.mp z))]
    by_cases q2 : wrS P (Pl P c0 j) c
    · rw [e2.mpr q2]; simp [q2]
    · rw [Bool.eq_false_iff.mpr (fun z => q2 (e2.mp z))]; simp [q1, q2]
theorem c_nextUse (hP : okP P) (hc : ∀ j, j < 8 → c0 j < 256) (hf : 200 < fu) (hA : TrOK P c0 g r A) {c t : Nat} (hcc : c < 8) (ht : t ≤ Tk P c0) : f_X5_nextUse fu (nI (Tk P c0)) (aN A.2.2.2.1) (aN A.2.2.2.2) (nI c) (nI t) = some (nI (nu P c0 c t)) := by
  rw [l_nextUseF fu (Tk_le P c0) hcc (tr_b hP hc hA) ht (by omega), tr_nu hP hc hA ht]
theorem c_isRead (hP : okP P) (hc : ∀ j, j < 8 → c0 j < 256) (hf : 200 < fu) (hA : TrOK P c0 g r A) {c u : Nat} (hcc : c < 8) (hu : u ≤ 100) : f_X5_isRead fu (nI (Tk P c0)) (aN A.2.2.2.1) (nI c) (nI u) = some (if u < Tk P c0 ∧ rdS P (Pl P c0 u) c then 1 else 0) := by
  rw [l_isRead fu (Tk_le P c0) hcc (fun u hu => (tr_b hP hc hA u hu).1) hu]
  by_cases q : u < Tk P c0
  · have e := tr_r hP hc hA (c := c) q
    by_cases z : rdS P (Pl P c0 u) c
    · rw [if_pos ⟨q, e.mpr z⟩, if_pos ⟨q, z⟩]
    · rw [if_neg (fun y : u < Tk P c0 ∧ _ => z (e.mp y.2)), if_neg (fun y : u < Tk P c0 ∧ _ => z y.2)]
  · rw [if_neg (fun y : u < Tk P c0 ∧ _ => q y.1), if_neg (fun y : u < Tk P c0 ∧ _ => q y.1)]
theorem c_isWritten (hP : okP P) (hc : ∀ j, j < 8 → c0 j < 256) (hf : 200 < fu) (hA : TrOK P c0 g r A) {c u : Nat} (hcc : c < 8) (hu : u ≤ 100) : f_X5_isWritten fu (nI (Tk P c0)) (aN A.2.2.2.2) (nI c) (nI u) = some (if u < Tk P c0 ∧ wrS P (Pl P c0 u) c then 1 else 0) := by
  rw [l_isWritten fu (Tk_le P c0) hcc (fun u hu => (tr_b hP hc hA u hu).2) hu]
  by_cases q : u < Tk P c0
  · have e := tr_w hP hc hA (c := c) q
    by_cases z : wrS P (Pl P c0 u) c
    · rw [if_pos ⟨q, e.mpr z⟩, if_pos ⟨q, z⟩]
    · rw [if_neg (fun y : u < Tk P c0 ∧ _ => z (e.mp y.2)), if_neg (fun y : u < Tk P c0 ∧ _ => z y.2)]
  · rw [if_neg (fun y : u < Tk P c0 ∧ _ => q y.1), if_neg (fun y : u < Tk P c0 ∧ _ => q y.1)]
theorem c_unread (s : Nat) (hs : s < 2) : f_X2_unreadFate fu (nI (Tk P c0)) (nI s) = some (nI (fN 0 s 0 (Tk P c0))) := by
  unfold f_X2_unreadFate
  have hT := Tk_le P c0
  rw [show (0 : Int32) = nI 0 from rfl, l_of fu (by decide) hs (by decide) (by omega), Option.bind_some]
theorem Qf_r {c v t : Nat} (h : isR P c0 c t) : Qf P c0 c v t = FF P c0 c v (nu P c0 c t) := by
  rw [FF_n]
  unfold Qf Qa Qs Qh Qt
  rw [if_pos h, if_pos h, if_pos h, if_pos h]
theorem Qf_n {c v t : Nat} (h : ¬ isR P c0 c t) : Qf P c0 c v t = fN 0 (if nu P c0 c t < Tk P c0 then 0 else 1) 0 (Tk P c0) := by
  unfold Qf Qa Qs Qh Qt
  rw [if_neg h, if_neg h, if_neg h, if_neg h]
/-- fateOf() -/
theorem c_fateOf (hP : okP P) (hc : ∀ j, j < 8 → c0 j < 256) (hf : 200 < fu) (hA : TrOK P c0 g r A) {c k w t : Nat} (hcc : c < 8) (hw : w = 1 ∨ w = 2) (hk : k + w ≤ 8) (ht : t < Tk P c0) (x1 x2 x3 x4 x5 x6 x7 : Int32) (gk rk : Nat → Nat) :
    ∃ (y1 y2 y3 y4 y5 y6 y7 : Int32) (gk2 rk2 : Nat → Nat), f_X2_fateOf fu (nI P.1) (aN P.2.1) (aN P.2.2.1) (aN P.2.2.2) (nI (Pl P c0 100).k) (nI (Tk P c0)) (aN r) (aN A.1) (aN A.2.1) (aN A.2.2.1) (aN A.2.2.2.1) (aN A.2.2.2.2) x1 x2 x3 x4 x5 x6 x7 (aN gk) (aN rk) (nI c) (nI k) (nI w) (nI t)
      = some (nI (Qf P c0 c (fm w k) t), y1, y2, y3, y4, y5, y6, y7, aN gk2, aN rk2) := by
  have hT := Tk_le P c0
  have hn := nu_in P c0 (c := c) (Nat.le_of_lt ht)
  unfold f_X2_fateOf
  rw [c_nextUse fu hP hc hf hA hcc (Nat.le_of_lt ht), Option.bind_some, c_isRead fu hP hc hf hA hcc (by omega), Option.bind_some]
  by_cases hR : isR P c0 c t
  · rw [if_pos hR, if_neg (by decide), Qf_r hR]
    obtain ⟨y1, y2, y3, y4, y5, y6, y7, gk2, rk2, h⟩ := l_fateFrom fu hP hc (by omega) hA hcc (by omega) (by omega) hk hR.1 x1 x2 x3 x4 x5 x6 x7 gk rk
    refine ⟨y1, y2, y3, y4, y5, y6, y7, gk2, rk2, ?_⟩
    rw [h, Option.bind_some]
  · rw [if_neg hR, if_pos rfl, c_isWritten fu hP hc hf hA hcc (by omega), Option.bind_some, Qf_n hR]
    refine ⟨x1, x2, x3, x4, x5, x6, x7, gk, rk, ?_⟩
    by_cases hu : nu P c0 c t < Tk P c0
    · have hwr := (nu_yes (Nat.le_of_lt ht) hu).resolve_left (fun z => hR ⟨hu, z⟩)
      rw [if_pos (show nu P c0 c t < Tk P c0 ∧ wrS P (Pl P c0 (nu P c0 c t)) c from ⟨hu, hwr⟩), if_neg (show ¬ (1 : Int32) = 0 by decide), show (0 : Int32) = nI 0 from rfl, c_unread fu 0 (by decide), Option.bind_some, if_pos hu]
    · rw [if_neg (fun y : nu P c0 c t < Tk P c0 ∧ _ => hu y.1), if_pos rfl, show (1 : Int32) = nI 1 from rfl, c_unread fu 1 (by decide), Option.bind_some, if_neg hu]
end CF
theorem nI_p (m : Nat) : nI (m + 1) + (-1 : Int32) = nI m := by
  rw [← nI_1, Int32.add_assoc, show (1 : Int32) + -1 = nI 0 from rfl, nI_add]
  rfl
theorem sub1 (x : Int32) : x - 1 = x + -1 := Int32.sub_eq_add_neg x 1
theorem rem8 {x : Nat} (h : x < 2 ^ 20) : nI x - nI x / (8 : Int32) * (8 : Int32) = nI (x % 8) := by
  rw [show (8 : Int32) = nI 8 from rfl, pk_div (by omega) (by decide) (by decide), pk_mul, pk_sub (by omega)]
  congr 1; omega
theorem l_isFlip (fu : Nat) {w x : Nat} (hw : w < 3) (hx : x < 2 ^ 20) : f_X2_isFlip fu (nI w) (nI x) = some (if x % 8 + w ≤ 8 then 1 else 0) := by
  unfold f_X2_isFlip
  rw [rem8 hx, nI_add]
  by_cases q : x % 8 + w ≤ 8
  · rw [if_neg (show ¬ (8 : Int32) < nI (x % 8 + w) from nI_nlt (a := 8) (b := x % 8 + w) q (by decide)), if_pos q]
  · rw [if_pos (show (8 : Int32) < nI (x % 8 + w) from nI_lt (a := 8) (b := x % 8 + w) (by omega) (by omega)), if_neg q]
theorem l_cellOf (fu : Nat) {x : Nat} (hx : x < 2 ^ 20) : f_X2_cellOf fu (nI x) = some (nI (x / 8 % 8)) := by
  unfold f_X2_cellOf
  rw [show nI x / (8 : Int32) = nI (x / 8) from pk_div (a := x) (d := 8) (by omega) (by decide) (by decide), rem8 (by omega)]
/-- Qf at the end of a run, and one tick back -/
theorem nu_T (P : PG) (c0 : Nat → Nat) (c : Nat) : nu P c0 c (Tk P c0) = Tk P c0 := by
  unfold nu; rw [Nat.sub_self]; rfl
theorem nu_s {P : PG} {c0 : Nat → Nat} {c t : Nat} (ht : t < Tk P c0) : nu P c0 c t = if rdS P (Pl P c0 t) c ∨ wrS P (Pl P c0 t) c then t else nu P c0 c (t + 1) := by
  unfold nu
  rw [show Tk P c0 - t = Tk P c0 - (t + 1) + 1 by omega, qU]
  simp only [decide_eq_true_eq]
