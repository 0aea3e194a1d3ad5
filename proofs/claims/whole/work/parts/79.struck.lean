/-! A RUN WITH A CELL STRUCK -/
abbrev rdS (P : PG) (S : MS) (c : Nat) : Prop := qRd (oA P S) (xA P S) (yA P S) S.g c
abbrev wrS (P : PG) (S : MS) (c : Nat) : Prop := qWr (oA P S) (xA P S) (yA P S) S.g c
/-- read while struck; behind how many ticks; struck still at the end -/
def sRd (P : PG) (c : Nat) : MS → Nat → Bool
  | _, 0 => false
  | X, m + 1 => if X.e = 3 then (if rdS P X c then true else if wrS P X c then false else sRd P c (qS P X) m) else false
def sAt (P : PG) (c : Nat) : MS → Nat → Nat
  | _, 0 => 0
  | X, m + 1 => if X.e = 3 ∧ ¬ rdS P X c then sAt P c (qS P X) m + 1 else 0
def sSt (P : PG) (c : Nat) : MS → Nat → Bool
  | _, 0 => true
  | X, m + 1 => if X.e = 3 then (if wrS P X c then false else sSt P c (qS P X) m) else true
section ST
variable (fu : Nat) {P : PG} (lc lf wd so y2 y4 : Int32) (k : K197) {c : Nat}
/-- up to the flip -/
theorem g_pre (fc : Int32) (hP : okP P) : ∀ (d n t : Nat) (S : MS) (u : Int32), t + d ≤ 100 → okS P S → (∀ j, j < d → (qI P S j).e = 3) → (∀ t2 : Nat, t ≤ t2 → t2 < t + d → fc = -1 ∨ ¬ nI t2 = y4) → ∀ nx, okN P S nx →
    ∃ nx2 u2, okN P (qI P S d) nx2 ∧ GL fu P lc lf fc wd so y2 y4 k (n + d) (nI t) (enI S.e) (nI S.k) 0 0 0 u (aN S.g) (aN S.r) nx = GL fu P lc lf fc wd so y2 y4 k n (nI (t + d)) (enI (qI P S d).e) (nI (qI P S d).k) 0 0 0 u2 (aN (qI P S d).g) (aN (qI P S d).r) nx2 := by
  intro d
  induction d with
  | zero => intro n t S u ht hS hg hf nx hN; exact ⟨nx, u, hN, rfl⟩
  | succ d ih =>
    intro n t S u ht hS hg hf nx hN
    have he : S.e = 3 := hg 0 (by omega)
    have h0 := R3_0 fc wd so lc lf (nI t) (oA P S) (xA P S) (yA P S) S.g (0, 0, u)
    have hen : enI S.e = 1 := by unfold enI; rw [if_neg (by omega)]
    obtain ⟨nx2, u2, h1, h2⟩ := ih n (t + 1) (qS P S) (uS P S lc lf (nI t) u) (by omega) (qS_ok hP hS he) (fun j hj => by have := hg (j + 1) (by omega); rw [qI_go he] at this; exact this) (fun t2 a b => hf t2 (by omega) (by omega)) _ (N3_ok hP hS he)
    refine ⟨nx2, u2, by rw [qI_go he]; exact h1, ?_⟩
    rw [hN.1 he, hen, show n + (d + 1) = n + d + 1 by omega, g_step fu lc lf fc wd so y2 y4 k hP hS he (n + d) t (by omega) 0 0 u (hf t (Nat.le_refl t) (by omega)) h0.2, W3_0, h0.1, h2, qI_go he, show t + 1 + d = t + (d + 1) by omega]
theorem nc_1 {c : Nat} (hc : c < 8) : ¬ nI c = (-1 : Int32) := fun q => by
  have h := congrArg Int32.toInt q
  rw [nI_toInt (by omega)] at h
  rw [show ((-1 : Int32)).toInt = -1 from rfl] at h
  omega
/-- caught: the loop is left -/
theorem b_caught {S : MS} (hP : okP P) (hS : okS P S) (he : S.e = 3) (n t : Nat) (wr u : Int32) (hn : ¬ (R3 (nI c) wd so 1 lc lf (nI t) (oA P S) (xA P S) (yA P S) S.g (wr, 0, u)).2.1 = 0) :
    ∃ wr2 ca2 u2, ¬ ca2 = 0 ∧ BL fu P lc lf (nI c) wd so y2 y4 k (n + 1) (nI t) 1 (nI S.k) 1 wr 0 u (aN S.g) (aN S.r) (nI S.i) = k (nI (t + 1)) 1 (nI S.k) 1 wr2 ca2 u2 (aN S.g) (aN S.r) := by
  have hi : S.i < P.1 := hS.2.2.2.1 he
  have hP1 := hP.1
  obtain ⟨nx, u2, wr2, ca2, h1, h2, hd⟩ := l_caught fu hP hS he (nI t) (nI c) wd so 1 lc lf (wr, 0, u) hn
  refine ⟨wr2, ca2, u2, h2, ?_⟩
  have hx0 : ¬ nx < 0 := by rcases h1 with rfl | rfl <;> exact nI_pos (by omega)
  show fr_X7_go_159 _ _ _ _ _ _ _ _ _ _ _ _ _ _ _ _ _ _ _ _ _ _ _ = _
  unfold fr_X7_go_159
  rw [show f_X7_does fu (nI t) (nI S.k) (nI c) wd so 1 wr 0 lc lf u (aN P.2.1) (aN P.2.2.1) (aN P.2.2.2) (aN S.g) (aN S.r) (nI S.i) = _ from hd, Option.bind_some, nI_1, if_pos (Int32.not_lt.mp hx0)]
  dsimp only
  rw [fr_X7_go_84, if_neg hx0]
  by_cases q : nI P.1 ≤ nx
  · rw [if_pos q]
  · rw [if_neg q, if_neg h2]
theorem g_caught {S : MS} (hP : okP P) (hS : okS P S) (he : S.e = 3) (n t : Nat) (ht : t < 100) (wr u : Int32) (hf : ¬ nI t = y4) (hn : ¬ (R3 (nI c) wd so 1 lc lf (nI t) (oA P S) (xA P S) (yA P S) S.g (wr, 0, u)).2.1 = 0) :
    ∃ wr2 ca2 u2, ¬ ca2 = 0 ∧ GL fu P lc lf (nI c) wd so y2 y4 k (n + 2) (nI t) 1 (nI S.k) 1 wr 0 u (aN S.g) (aN S.r) (nI S.i) = k (nI (t + 1)) 1 (nI S.k) 1 wr2 ca2 u2 (aN S.g) (aN S.r) := by
  rw [g_head fu lc lf (nI c) wd so y2 y4 k hP.1 (hS.2.2.2.1 he) (n + 1) t ht _ _ _ _ _ _ (Or.inr hf)]
  exact b_caught fu lc lf wd so y2 y4 k hP hS he n t wr u hn
/-- the run of a struck machine: not caught by reading -/
theorem g_st (hP : okP P) (hc : c < 8) : ∀ (m n t : Nat) (X : MS) (nx wr u : Int32), t + m = 100 → m + 1 < n → okS P X → okN P X nx → (∀ t2 : Nat, t ≤ t2 → t2 < 100 → ¬ nI t2 = y4) → (ctc wd so → sRd P c X m = false) →
    ∃ u2, GL fu P lc lf (nI c) wd so y2 y4 k n (nI t) (enI X.e) (nI X.k) 1 wr 0 u (aN X.g) (aN X.r) nx = k (nI (t + qT P X m)) (E4 (qI P X m).e) (nI (qI P X m).k) (if sSt P c X m = true then 1 else 0) (if sRd P c X m = true then 1 else wr) 0 u2 (aN (qI P X m).g) (aN (qI P X m).r) := by
  intro m
  induction m with
  | zero =>
    intro n t X nx wr u ht hn hS hN hfu hct
    obtain ⟨n, rfl⟩ : ∃ z, n = z + 2 := ⟨n - 2, by omega⟩
    refine ⟨u, ?_⟩
    by_cases he : X.e = 3
    · rw [hN.1 he, show t = 100 by omega]
      have hen : enI X.e = 1 := by unfold enI; rw [if_neg (by omega)]
      rw [hen, g_over fu lc lf (nI c) wd so y2 y4 k hP.1 (hS.2.2.2.1 he)]
      show k (nI 100) 4 _ _ _ _ _ _ _ = k (nI (100 + 0)) (E4 X.e) _ _ _ _ _ _ _
      rw [show E4 X.e = 4 by unfold E4; rw [if_neg (by omega), if_pos he]]
      rfl
    · rw [g_exit fu lc lf (nI c) wd so y2 y4 k hP.1 _ _ _ _ _ _ _ _ _ _ he hS.2.2.2.2 hN]
      show k (nI t) _ _ _ _ _ _ _ _ = k (nI (t + 0)) (E4 X.e) _ _ _ _ _ _ _
      rw [E4_no he]
      rfl
  | succ m ih =>
    intro n t X nx wr u ht hn hS hN hfu hct
    obtain ⟨n, rfl⟩ : ∃ z, n = z + 1 := ⟨n - 1, by omega⟩
    by_cases he : X.e = 3
    · have ho := hP.2 _ (hS.2.2.2.1 he)
      have hR := R3_1 (g := X.g) hc ho wd so lc lf (nI t) (wr, 0, u) rfl
      have hen : enI X.e = 1 := by unfold enI; rw [if_neg (by omega)]
      have hca : (R3 (nI c) wd so 1 lc lf (nI t) (oA P X) (xA P X) (yA P X) X.g (wr, 0, u)).2.1 = 0 := by
        by_cases q : rdS P X c
        · refine (hR.1 q).2.mpr (fun w => ?_)
          have := hct w
          rw [sRd, if_pos he, if_pos q] at this
          cases this
        · exact (hR.2 q).2
      have hst := g_step fu lc lf (nI c) wd so y2 y4 k hP hS he n t (by omega) 1 wr u (Or.inr (hfu t (Nat.le_refl t) (by omega))) hca
      rw [hN.1 he, hen, hst, W3_1 hc ho, qT_go he, qI_go he, sSt, if_pos he, sRd, if_pos he, show t + (qT P (qS P X) m + 1) = t + 1 + qT P (qS P X) m by omega]
      have hw1 : (R3 (nI c) wd so 1 lc lf (nI t) (oA P X) (xA P X) (yA P X) X.g (wr, 0, u)).1 = if rdS P X c then 1 else wr := by
        by_cases q : rdS P X c
        · rw [if_pos q]; exact (hR.1 q).1
        · rw [if_neg q]; exact (hR.2 q).1
      rw [hw1]
      by_cases w : wrS P X c
      · rw [if_pos w, if_pos w, if_pos w]
        refine ⟨uN P lc lf (qS P X) (t + 1) (uS P X lc lf (nI t) u) m, ?_⟩
        rw [g_un fu lc lf (nI c) wd so y2 y4 k hP m n (t + 1) (qS P X) _ _ _ (by omega) (by omega) (qS_ok hP hS he) (N3_ok hP hS he) (fun t2 a b => Or.inr (hfu t2 (by omega) b))]
        by_cases q : rdS P X c
        · rw [if_pos q, if_pos q]; rfl
        · rw [if_neg q, if_neg q]; rfl
      · rw [if_neg w, if_neg w, if_neg w]
        have hct2 : ctc wd so → sRd P c (qS P X) m = false := fun z => by
          have := hct z
          rw [sRd, if_pos he] at this
          by_cases q : rdS P X c
          · rw [if_pos q] at this; cases this
          · rw [if_neg q, if_neg w] at this; exact this
        obtain ⟨u2, h⟩ := ih n (t + 1) (qS P X) (N3 (oA P X) (xA P X) (yA P X) X.g X.k X.i) (if rdS P X c then 1 else wr) (uS P X lc lf (nI t) u) (by omega) (by omega) (qS_ok hP hS he) (N3_ok hP hS he) (fun t2 a b => hfu t2 (by omega) b) hct2
        refine ⟨u2, h.trans ?_⟩
        by_cases q : rdS P X c
        · rw [if_pos q, if_pos q]
          congr 1
          split <;> rfl
        · rw [if_neg q, if_neg q]
    · refine ⟨u, ?_⟩
      rw [g_exit fu lc lf (nI c) wd so y2 y4 k hP.1 _ _ _ _ _ _ _ _ _ _ he hS.2.2.2.2 hN, qT_no he, qI_no he, sSt, if_neg he, sRd, if_neg he, E4_no he]
      rfl
/-- .. caught by reading -/
theorem g_sc (hP : okP P) (hc : c < 8) (hct : ctc wd so) : ∀ (m n t : Nat) (X : MS) (nx u : Int32), t + m = 100 → m + 1 < n → okS P X → okN P X nx → (∀ t2 : Nat, t ≤ t2 → t2 < 100 → ¬ nI t2 = y4) → sRd P c X m = true →
    ∃ km wr2 ca2 u2 g r, ¬ ca2 = 0 ∧ GL fu P lc lf (nI c) wd so y2 y4 k n (nI t) (enI X.e) (nI X.k) 1 0 0 u (aN X.g) (aN X.r) nx = k (nI (t + sAt P c X m + 1)) 1 km 1 wr2 ca2 u2 (aN g) (aN r) := by
  intro m
  induction m with
  | zero => intro n t X nx u ht hn hS hN hfu hs; cases hs
  | succ m ih =>
    intro n t X nx u ht hn hS hN hfu hs
    have he : X.e = 3 := by
      rw [sRd] at hs
      by_cases q : X.e = 3
      · exact q
      · rw [if_neg q] at hs; cases hs
    rw [sRd, if_pos he] at hs
    have ho := hP.2 _ (hS.2.2.2.1 he)
    have hR := R3_1 (g := X.g) hc ho wd so lc lf (nI t) (0, 0, u) rfl
    have hen : enI X.e = 1 := by unfold enI; rw [if_neg (by omega)]
    by_cases q : rdS P X c
    · obtain ⟨n, rfl⟩ : ∃ z, n = z + 2 := ⟨n - 2, by omega⟩
      obtain ⟨wr2, ca2, u2, h1, h2⟩ := g_caught fu lc lf wd so y2 y4 k hP hS he n t (by omega) 0 u (hfu t (Nat.le_refl t) (by omega)) (fun z => (hR.1 q).2.mp z hct)
      refine ⟨nI X.k, wr2, ca2, u2, X.g, X.r, h1, ?_⟩
      rw [hN.1 he, hen, h2, sAt, if_neg (fun z => z.2 q)]
    · obtain ⟨n, rfl⟩ : ∃ z, n = z + 1 := ⟨n - 1, by omega⟩
      rw [if_neg q] at hs
      have w : ¬ wrS P X c := fun z => by rw [if_pos z] at hs; cases hs
      rw [if_neg w] at hs
      obtain ⟨km, wr2, ca2, u2, g, r, h1, h2⟩ := ih n (t + 1) (qS P X) (N3 (oA P X) (xA P X) (yA P X) X.g X.k X.i) (uS P X lc lf (nI t) u) (by omega) (by omega) (qS_ok hP hS he) (N3_ok hP hS he) (fun t2 a b => hfu t2 (by omega) b) hs
      refine ⟨km, wr2, ca2, u2, g, r, h1, ?_⟩
      rw [hN.1 he, hen, g_step fu lc lf (nI c) wd so y2 y4 k hP hS he n t (by omega) 1 0 u (Or.inr (hfu t (Nat.le_refl t) (by omega))) (hR.2 q).2, W3_1 hc ho, if_neg w, (hR.2 q).1, sAt, if_pos ⟨he, q⟩, show t + (sAt P c (qS P X) m + 1) + 1 = t + 1 + sAt P c (qS P X) m + 1 by omega]
      exact h2
end ST
