/-! THE TRACE: what it keeps, the next use of a cell, leading another machine -/
theorem sm_l : ∀ n, n < 32 → ((nI n &&& 31).toBitVec.smod 32).toNat = n := by decide +kernel
theorem bit_c {x c : Nat} (hx : x < 2 ^ 31) (hc : c < 8) : ((nI x >>> (nI c &&& 31)) &&& (1 : Int32)) = (0 : Int32) ↔ x.testBit c = false := by
  rw [pk_shrN hx (nI c &&& 31) c (sm_l c (by omega)), show (1 : Int32) = nI (2 ^ 1 - 1) from rfl, fa_mask, show (0 : Int32) = nI 0 from rfl, nI_eq (by have := Nat.mod_lt (x / 2 ^ c) (show 0 < 2 ^ 1 by decide); omega) (by decide), Nat.testBit_eq_decide_div_mod_eq]
  have h := Nat.mod_lt (x / 2 ^ c) (show 0 < 2 by decide)
  rw [decide_eq_false_iff_not]
  show x / 2 ^ c % 2 = 0 ↔ _
  omega
theorem ifb {p : Prop} [Decidable p] (x c : Nat) : (if p then 2 ^ x else 0).testBit c = decide (p ∧ c = x) := by
  by_cases h : p
  · rw [if_pos h, Nat.testBit_two_pow]
    by_cases q : x = c
    · subst q; simp [h]
    · have q2 : ¬ c = x := fun z => q z.symm
      simp [h, q, q2]
  · rw [if_neg h]; simp [h]
theorem rM_bit (o x y : Nat) (g : Nat → Nat) (c : Nat) : (rM o x y g).testBit c = true ↔ qRd o x y g c := by
  unfold rM
  rw [Nat.testBit_or, Nat.testBit_or, ifb, ifb, ifb]
  simp only [Bool.or_eq_true, decide_eq_true_eq, or_assoc, and_assoc]
theorem wM_bit (o x y : Nat) (g : Nat → Nat) (c : Nat) : (wM o x y g).testBit c = true ↔ qWr o x y g c := by
  unfold wM
  by_cases h : o ≤ 5 ∨ (o = 9 ∧ g y < 8)
  · rw [if_pos h, Nat.testBit_two_pow]
    constructor
    · intro q
      have q := of_decide_eq_true q
      rcases h with h | h
      · exact Or.inl ⟨h, q.symm⟩
      · exact Or.inr (Or.inl ⟨h.1, h.2, q.symm⟩)
    · rintro (q | q | q)
      · exact decide_eq_true q.2.symm
      · exact decide_eq_true q.2.2.symm
      · omega
  · rw [if_neg h, ifb]
    constructor
    · intro q
      have q := of_decide_eq_true q
      exact Or.inr (Or.inr ⟨q.1.1, q.1.2, q.2⟩)
    · rintro (q | q | q)
      · exact absurd (Or.inl q.1) h
      · exact absurd (Or.inr ⟨q.1, q.2.1⟩) h
      · exact decide_eq_true ⟨⟨q.1, q.2.1⟩, q.2.2⟩
theorem p2_8 {x : Nat} (h : x < 8) : 2 ^ x < 2 ^ 8 := Nat.pow_lt_pow_right (by decide) h
theorem rM_lt {o x y : Nat} {g : Nat → Nat} (h : okO o x y) : rM o x y g < 2 ^ 8 := by
  unfold rM
  refine Nat.or_lt_two_pow (Nat.or_lt_two_pow ?_ ?_) ?_
  · split
    · exact p2_8 (h.2.2.2.1 (by omega) (by omega))
    · decide
  · split
    · rename_i q; exact p2_8 (h.2.2.2.2.1 q)
    · decide
  · split
    · rename_i q; exact p2_8 q.2
    · decide
theorem wM_lt {o x y : Nat} {g : Nat → Nat} (h : okO o x y) : wM o x y g < 2 ^ 8 := by
  unfold wM
  split
  · exact p2_8 (h.2.2.2.1 (by omega) (by omega))
  · split
    · rename_i q; exact p2_8 q.2
    · decide
/-- the first from t on, of m -/
def qU (f : Nat → Bool) : Nat → Nat → Nat
  | t, 0 => t
  | t, m + 1 => if f t = true then t else qU f (t + 1) m
theorem qU_in (f : Nat → Bool) : ∀ (m t : Nat), t ≤ qU f t m ∧ qU f t m ≤ t + m
  | 0, t => ⟨Nat.le_refl _, Nat.le_refl _⟩
  | m + 1, t => by
    rw [qU]
    split
    · omega
    · have := qU_in f m (t + 1); omega
theorem qU_no (f : Nat → Bool) : ∀ (m t j : Nat), t ≤ j → j < qU f t m → f j = false
  | 0, t, j, h1, h2 => by rw [qU] at h2; omega
  | m + 1, t, j, h1, h2 => by
    rw [qU] at h2
    split at h2
    · omega
    · rename_i q
      by_cases w : j = t
      · subst w; exact Bool.eq_false_iff.mpr q
      · exact qU_no f m (t + 1) j (by omega) h2
theorem qU_yes (f : Nat → Bool) : ∀ (m t : Nat), qU f t m < t + m → f (qU f t m) = true
  | 0, t, h => by rw [qU] at h; omega
  | m + 1, t, h => by
    rw [qU] at h ⊢
    split
    · assumption
    · rename_i q
      rw [if_neg q] at h
      exact qU_yes f m (t + 1) (by omega)
theorem l_nextUse (fu : Nat) {T c : Nat} {tr tw : Nat → Nat} (hT : T ≤ 100) (hc : c < 8) (h : ∀ u, u < T → tr u < 2 ^ 8 ∧ tw u < 2 ^ 8) (k33 : Int32 → Option Int32) (k41 : Option Int32) :
    ∀ (m n t : Nat), t + m = T → m < n → fr_X5_nextUse_2 fu (nI T) (aN tr) (aN tw) (nI c) k33 k41 n (nI t) = if qU (fun u => (tr u ||| tw u).testBit c) t m < T then k33 (nI (qU (fun u => (tr u ||| tw u).testBit c) t m)) else k41 := by
  intro m
  induction m with
  | zero =>
    intro n t ht hn
    obtain ⟨n, rfl⟩ : ∃ z, n = z + 1 := ⟨n - 1, by omega⟩
    rw [fr_X5_nextUse_2, if_pos (nI_le (by omega) (by omega)), qU, if_neg (by omega)]
  | succ m ih =>
    intro n t ht hn
    obtain ⟨n, rfl⟩ : ∃ z, n = z + 1 := ⟨n - 1, by omega⟩
    have hin : inR (nI t) 100 := in_i (by omega) (by decide)
    have hb := h t (by omega)
    have hlt : tr t ||| tw t < 2 ^ 31 := Nat.lt_trans (Nat.or_lt_two_pow hb.1 hb.2) (by decide)
    rw [fr_X5_nextUse_2, if_neg (nI_ge (by omega) (by omega)), if_pos hin, if_pos hin, aN_at _ (by omega), aN_at _ (by omega), fa_or]
    by_cases hz : (tr t ||| tw t).testBit c = true
    · rw [if_neg (fun q => by rw [(bit_c hlt hc).mp q] at hz; cases hz), qU, if_pos hz, if_pos (by omega)]
    · rw [if_pos ((bit_c hlt hc).mpr (Bool.eq_false_iff.mpr hz)), nI_1, ih n (t + 1) (by omega) (by omega), qU, if_neg hz]
theorem l_nextUseF (fu : Nat) {T c t : Nat} {tr tw : Nat → Nat} (hT : T ≤ 100) (hc : c < 8) (h : ∀ u, u < T → tr u < 2 ^ 8 ∧ tw u < 2 ^ 8) (ht : t ≤ T) (hf : 100 < fu) :
    f_X5_nextUse fu (nI T) (aN tr) (aN tw) (nI c) (nI t) = some (nI (qU (fun u => (tr u ||| tw u).testBit c) t (T - t))) := by
  unfold f_X5_nextUse
  rw [l_nextUse fu hT hc h _ _ (T - t) fu t (by omega) (by omega)]
  split
  · rfl
  · have := qU_in (fun u => (tr u ||| tw u).testBit c) (T - t) t
    rw [show qU (fun u => (tr u ||| tw u).testBit c) t (T - t) = T by omega]
theorem l_isRead (fu : Nat) {T c u : Nat} {tr : Nat → Nat} (hT : T ≤ 100) (hc : c < 8) (h : ∀ u, u < T → tr u < 2 ^ 8) (hu : u ≤ 100) :
    f_X5_isRead fu (nI T) (aN tr) (nI c) (nI u) = some (if u < T ∧ (tr u).testBit c = true then 1 else 0) := by
  unfold f_X5_isRead
  by_cases q : u < T
  · rw [if_neg (nI_ge q (by omega)), if_pos (in_i (by omega) (by decide)), aN_at _ (by omega)]
    have hlt : tr u < 2 ^ 31 := Nat.lt_trans (h u q) (by decide)
    by_cases hz : (tr u).testBit c = true
    · rw [if_neg (fun w => by rw [(bit_c hlt hc).mp w] at hz; cases hz), if_pos ⟨q, hz⟩]
    · rw [if_pos ((bit_c hlt hc).mpr (Bool.eq_false_iff.mpr hz)), if_neg (fun w => hz w.2)]
  · rw [if_pos (nI_le (by omega) (by omega)), if_neg (fun w => q w.1)]
theorem l_isWritten (fu : Nat) {T c u : Nat} {tw : Nat → Nat} (hT : T ≤ 100) (hc : c < 8) (h : ∀ u, u < T → tw u < 2 ^ 8) (hu : u ≤ 100) :
    f_X5_isWritten fu (nI T) (aN tw) (nI c) (nI u) = some (if u < T ∧ (tw u).testBit c = true then 1 else 0) := by
  unfold f_X5_isWritten
  by_cases q : u < T
  · rw [if_neg (nI_ge q (by omega)), if_pos (in_i (by omega) (by decide)), aN_at _ (by omega)]
    have hlt : tw u < 2 ^ 31 := Nat.lt_trans (h u q) (by decide)
    by_cases hz : (tw u).testBit c = true
    · rw [if_neg (fun w => by rw [(bit_c hlt hc).mp w] at hz; cases hz), if_pos ⟨q, hz⟩]
    · rw [if_pos ((bit_c hlt hc).mpr (Bool.eq_false_iff.mpr hz)), if_neg (fun w => hz w.2)]
  · rw [if_pos (nI_le (by omega) (by omega)), if_neg (fun w => q w.1)]
theorem l_standAt (fu : Nat) {n t i k : Nat} (a b c d e : Int32) (hn : n ≤ 20) (hi : i < 2 ^ 31) : f_X3_standAt fu (nI n) a b c d e (nI t) (nI i) (nI k) = some (nI k, nI i, nI t, nI (if i < n then 3 else 0), 0) := by
  unfold f_X3_standAt
  rw [l_has fu (by omega) hi, Option.bind_some]
  by_cases h : i < n
  · rw [if_pos h, if_pos h, if_neg (by decide)]; rfl
  · rw [if_neg h, if_neg h, if_pos rfl]; rfl
/-- where a run begins -/
def S0 (P : PG) (c0 r : Nat → Nat) : MS := (c0, r, 0, 0, if 0 < P.1 then 3 else 0)
theorem S0_ok {P : PG} {c0 r : Nat → Nat} (h : ∀ j, j < 8 → c0 j < 256) : okS P (S0 P c0 r) := by
  refine ⟨h, Nat.zero_le _, Nat.zero_le _, ?_, ?_⟩
  · show (if 0 < P.1 then 3 else 0) = 3 → 0 < P.1
    intro q
    split at q
    · assumption
    · cases q
  · show (if 0 < P.1 then 3 else 0) = 0 ∨ (if 0 < P.1 then 3 else 0) = 1 ∨ (if 0 < P.1 then 3 else 0) = 3
    split
    · exact Or.inr (Or.inr rfl)
    · exact Or.inl rfl
/-- the run without a flip, ahead of tick u; its ticks -/
abbrev Pl (P : PG) (c0 : Nat → Nat) (u : Nat) : MS := qI P (S0 P c0 (fun _ => 0)) u
abbrev Tk (P : PG) (c0 : Nat → Nat) : Nat := qT P (S0 P c0 (fun _ => 0)) 100
/-- the trace holds the run without a flip -/
def TrOK (P : PG) (c0 : Nat → Nat) (g r : Nat → Nat) (A : TA) : Prop :=
  (∀ j, j < 8 → g j = (Pl P c0 100).g j) ∧ (∀ j, j < (Pl P c0 100).k → r j = (Pl P c0 100).r j) ∧
  ∀ u, u < Tk P c0 → (∀ j, j < 8 → A.1 (8 * u + j) = (Pl P c0 u).g j) ∧ A.2.1 u = (Pl P c0 u).i ∧ A.2.2.1 u = (Pl P c0 u).k ∧ A.2.2.2.1 u = rMs P (Pl P c0 u) ∧ A.2.2.2.2 u = wMs P (Pl P c0 u)
theorem rMs_e {P : PG} {S S2 : MS} (hP : okP P) (hi : S.i < P.1) (h : sim S S2) : rMs P S = rMs P S2 := by
  have ho := hP.2 _ hi
  show rM (P.2.1 S.i) (P.2.2.1 S.i) (P.2.2.2 S.i) S.g = rM (P.2.1 S2.i) (P.2.2.1 S2.i) (P.2.2.2 S2.i) S2.g
  rw [← h.2.2.2.1]
  unfold rM
  by_cases q : P.2.1 S.i = 9
  · rw [h.1 _ (ho.2.2.2.2.1 (by omega))]
  · rw [if_neg (fun w : P.2.1 S.i = 9 ∧ S.g (P.2.2.2 S.i) < 8 => q w.1), if_neg (fun w : P.2.1 S.i = 9 ∧ S2.g (P.2.2.2 S.i) < 8 => q w.1)]
theorem wMs_e {P : PG} {S S2 : MS} (hP : okP P) (hi : S.i < P.1) (h : sim S S2) : wMs P S = wMs P S2 := by
  have ho := hP.2 _ hi
  show wM (P.2.1 S.i) (P.2.2.1 S.i) (P.2.2.2 S.i) S.g = wM (P.2.1 S2.i) (P.2.2.1 S2.i) (P.2.2.2 S2.i) S2.g
  rw [← h.2.2.2.1]
  unfold wM
  by_cases q : P.2.1 S.i = 9
  · rw [h.1 _ (ho.2.2.2.2.1 (by omega)), if_neg (fun w : P.2.1 S.i = 10 ∧ S.g (P.2.2.1 S.i) < 8 => by omega), if_neg (fun w : P.2.1 S.i = 10 ∧ S2.g (P.2.2.1 S.i) < 8 => by omega)]
  · by_cases w : P.2.1 S.i = 10
    · rw [h.1 _ (ho.2.2.2.1 (by omega) (by omega)), if_neg (show ¬ (P.2.1 S.i ≤ 5 ∨ P.2.1 S.i = 9 ∧ S.g (P.2.2.2 S.i) < 8) by omega), if_neg (show ¬ (P.2.1 S.i ≤ 5 ∨ P.2.1 S.i = 9 ∧ S2.g (P.2.2.2 S.i) < 8) by omega)]
    · by_cases z : P.2.1 S.i ≤ 5
      · rw [if_pos (Or.inl z), if_pos (Or.inl z)]
      · rw [if_neg (show ¬ (P.2.1 S.i ≤ 5 ∨ P.2.1 S.i = 9 ∧ S.g (P.2.2.2 S.i) < 8) by omega), if_neg (show ¬ (P.2.1 S.i ≤ 5 ∨ P.2.1 S.i = 9 ∧ S2.g (P.2.2.2 S.i) < 8) by omega), if_neg (fun w2 => w w2.1), if_neg (fun w2 => w w2.1)]
/-- follow(): the trace comes to hold the run -/
theorem l_followF (fu : Nat) {P : PG} {c0 : Nat → Nat} (hP : okP P) (hc : ∀ j, j < 8 → c0 j < 256) (hf : 100 < fu) (rl nx tk en rn wn ws : Int32) (gm rm : Nat → Nat) (A : TA) :
    ∃ (nx2 rn2 wn2 ws2 : Int32) (g r : Nat → Nat) (B : TA), f_X5_follow fu (nI P.1) (aN P.2.1) (aN P.2.2.1) (aN P.2.2.2) (aN c0) rl nx tk en rn wn ws (aN gm) (aN rm) (aN A.1) (aN A.2.1) (aN A.2.2.1) (aN A.2.2.2.1) (aN A.2.2.2.2)
      = some (nI (Pl P c0 100).k, nx2, nI (Tk P c0), nI (qO (Pl P c0 100).e), rn2, wn2, ws2, aN g, aN r, aN B.1, aN B.2.1, aN B.2.2.1, aN B.2.2.2.1, aN B.2.2.2.2) ∧ TrOK P c0 g r B := by
  have hcp : ∀ j, j < 8 → va_cpy c0 gm 0 0 8 j = c0 j := fun j hj => by rw [pk_cpy_in (by omega) (by omega)]; congr 1; omega
  have hS : okS P (S0 P (va_cpy c0 gm 0 0 8) rm) := S0_ok (fun j hj => by rw [hcp j hj]; exact hc j hj)
  have hsim : sim (S0 P (va_cpy c0 gm 0 0 8) rm) (S0 P c0 (fun _ => 0)) := ⟨hcp, fun j hj => absurd hj (Nat.not_lt_zero j), rfl, rfl, rfl⟩
  unfold f_X5_follow
  rw [if_pos (by decide), show (0 : Int32) = nI 0 from rfl, l_standAt fu _ _ _ _ _ hP.1 (by decide), Option.bind_some, show ((nI 0).toNatClampNeg) = 0 from rfl, show ((8 : Int32).toNatClampNeg) = 8 from rfl, cN]
  obtain ⟨rn2, wn2, h⟩ := l_follow fu hP _ 100 fu 0 0 (S0 P (va_cpy c0 gm 0 0 8) rm) A rn wn rfl hf hS
  have hT : qT P (S0 P (va_cpy c0 gm 0 0 8) rm) 100 = Tk P c0 := qT_sim hP 100 _ _ hS hsim
  have hE := qI_sim hP 100 _ _ hS hsim
  refine ⟨nI (qI P (S0 P (va_cpy c0 gm 0 0 8) rm) 100).i, rn2, wn2, nI (qV P (S0 P (va_cpy c0 gm 0 0 8) rm) 0 100), (qI P (S0 P (va_cpy c0 gm 0 0 8) rm) 100).g, (qI P (S0 P (va_cpy c0 gm 0 0 8) rm) 100).r, qF P (S0 P (va_cpy c0 gm 0 0 8) rm) 0 A 100, (Eq.trans h ?_), hE.1, ?_, ?_⟩
  · rw [l_stop fu (by rcases (qI_ok hP 100 _ hS).2.2.2.2 with z | z | z <;> omega), Option.bind_some, hT, Nat.zero_add, hE.2.2.1, hE.2.2.2.2]
    rfl
  · intro j hj
    exact hE.2.1 j (by rw [hE.2.2.1]; exact hj)
  · intro u hu
    obtain ⟨h1, h2, h3, h4, h5⟩ := qF_at P 100 (S0 P (va_cpy c0 gm 0 0 8) rm) 0 A u (by rw [hT]; exact hu)
    rw [Nat.zero_add] at h1 h2 h3 h4 h5
    have hu2 := qI_sim hP u _ _ hS hsim
    have hgo : (qI P (S0 P (va_cpy c0 gm 0 0 8) rm) u).i < P.1 := (qI_ok hP u _ hS).2.2.2.1 (qT_lt P 100 _ u (by rw [hT]; exact hu))
    refine ⟨fun j hj => by rw [h1 j hj]; exact hu2.1 j hj, by rw [h2]; exact hu2.2.2.2.1, by rw [h3]; exact hu2.2.2.1, by rw [h4]; exact rMs_e hP hgo hu2, by rw [h5]; exact wMs_e hP hgo hu2⟩
