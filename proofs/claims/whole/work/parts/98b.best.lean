/-! BEST, THE REFERENCE'S SIDE -/
theorem rem4 {x : Nat} (h : x < 2 ^ 20) : nI x - nI x / (4 : Int32) * (4 : Int32) = nI (x % 4) := by
  rw [show (4 : Int32) = nI 4 from rfl, pk_div (by omega) (by decide) (by decide), pk_mul, pk_sub (by omega)]
  congr 1; omega
abbrev R21 : Type := Int32 × Int32 × Int32 × Int32 × Int32 × Int32 × Int32 × Int32 × Int32 × Int32 × Int32 × Int32 × Int32 × Int32 × Int32 × Int32 × (Nat → Int32) × (Nat → Int32) × (Nat → Int32) × (Nat → Int32) × (Nat → Int32)
abbrev K13d : Type := Int32 → Int32 → Int32 → Int32 → Int32 → Int32 → Int32 → Int32 → Int32 → Int32 → (Nat → Int32) → (Nat → Int32) → (Nat → Int32) → Option R21
theorem b_sil (fu : Nat) {P : PG} {c0 : Nat → Nat} (hP : okP P) (hc : ∀ j, j < 8 → c0 j < 256) (hf : 200 < fu) (he : (Pl P c0 100).e = 0) {rp : Nat → Nat} (hrp : ∀ j, j < (Pl P c0 100).k → rp j = (Pl P c0 100).r j) {w : Nat} (hw : w = 1 ∨ w = 2) (lc lo a1 : Int32) (k63 : K13d) : ∀ (m n i : Nat) (X : Z12) (zs : Nat → Nat), i + m = 32 → m < n → (∀ j, j < i → zs j = sS P c0 w (j / 4) (j % 4)) →
    ∃ (Y : Z12) (z2 : Nat → Nat), fr_X7_best_29 fu (nI P.1) lc lo (aN P.2.1) (aN P.2.2.1) (aN P.2.2.2) (aN c0) (nI (Tk P c0)) (nI (Pl P c0 100).k) (aN rp) (nI w) a1 k63 n X.1 X.2.1 X.2.2.1 X.2.2.2.1 X.2.2.2.2.1 X.2.2.2.2.2.1 X.2.2.2.2.2.2.1 X.2.2.2.2.2.2.2.1 X.2.2.2.2.2.2.2.2.1 X.2.2.2.2.2.2.2.2.2.1 X.2.2.2.2.2.2.2.2.2.2.1 X.2.2.2.2.2.2.2.2.2.2.2 (aN zs) (nI i) = k63 Y.1 Y.2.1 Y.2.2.1 Y.2.2.2.1 Y.2.2.2.2.1 Y.2.2.2.2.2.1 Y.2.2.2.2.2.2.1 Y.2.2.2.2.2.2.2.1 Y.2.2.2.2.2.2.2.2.1 Y.2.2.2.2.2.2.2.2.2.1 Y.2.2.2.2.2.2.2.2.2.2.1 Y.2.2.2.2.2.2.2.2.2.2.2 (aN z2) ∧ ∀ j, j < 32 → z2 j = sS P c0 w (j / 4) (j % 4) := by
  intro m
  induction m with
  | zero =>
    intro n i X zs hi hn hz
    obtain ⟨n, rfl⟩ : ∃ z, n = z + 1 := ⟨n - 1, by omega⟩
    refine ⟨X, zs, ?_, fun j hj => hz j (by omega)⟩
    rw [fr_X7_best_29, if_pos (show (32 : Int32) ≤ nI i from nI_le (a := 32) (by omega) (by omega))]
  | succ m ih =>
    intro n i X zs hi hn hz
    obtain ⟨n, rfl⟩ : ∃ z, n = z + 1 := ⟨n - 1, by omega⟩
    obtain ⟨Y, h1⟩ := z_counted fu hP hc hf he hrp (c := i / 4) (so := i % 4) (kd := 5) (by omega) hw (by omega) (by decide) lc lo X
    obtain ⟨Y2, z2, h2, h3⟩ := ih n (i + 1) Y (va_up zs i (CT P c0 w (i / 4) (i % 4) 5)) (by omega) (by omega) (fun j hj => by
      by_cases q : j = i
      · subst q; exact up_s _ _ _
      · rw [up_n _ _ q]; exact hz j (by omega))
    refine ⟨Y2, z2, ?_, h3⟩
    rw [fr_X7_best_29, if_neg (show ¬ (32 : Int32) ≤ nI i from nI_ge (b := 32) (by omega) (by decide)), rem4 (by omega), show nI i / (4 : Int32) = nI (i / 4) from pk_div (a := i) (d := 4) (by omega) (by decide) (by decide), show (5 : Int32) = nI 5 from rfl, h1, Option.bind_some, if_pos (show inR (nI i) 32 from in_i (by omega) (by decide)), aN_up _ _ (by omega), nI_1]
    exact h2
theorem sh_c : ∀ c, c < 8 → ((((14 : Int32) - (2 : Int32) * nI c) &&& 31).toBitVec.smod 32).toNat = 14 - 2 * c := by decide +kernel
theorem dg_i {x c : Nat} (hx : x < 65536) (hcc : c < 8) : (nI x >>> (((14 : Int32) - (2 : Int32) * nI c) &&& 31)) &&& (3 : Int32) = nI (dg x c) := by
  rw [pk_shrN (n := x) (by omega) _ (14 - 2 * c) (sh_c c hcc), show (3 : Int32) = nI (2 ^ 2 - 1) from rfl, fa_mask]
  unfold dg
  rw [show 14 - 2 * c = 2 * (7 - c) by omega, Nat.pow_mul]
theorem l_price (fu : Nat) {d : Nat} (h : d < 4) : f_X7_priceOf fu (nI d) = some (nI (pr d)) := by
  rcases (show d = 0 ∨ d = 1 ∨ d = 2 ∨ d = 3 by omega) with rfl | rfl | rfl | rfl <;> rfl
theorem dg_4 (x j : Nat) : dg x j < 4 := Nat.mod_lt _ (by decide)
theorem md_hi (x m : Nat) : x % 4 ^ (m + 1) / 4 ^ m = x / 4 ^ m % 4 := by
  rw [Nat.pow_succ, Nat.mod_mul_right_div_self]
theorem md_lo (x m : Nat) : x % 4 ^ (m + 1) % 4 ^ m = x % 4 ^ m := by
  rw [Nat.pow_succ, Nat.mod_mul_right_mod]
theorem b_sum (fu : Nat) {s : Nat → Nat → Nat} {zs : Nat → Nat} (hz : ∀ j, j < 32 → zs j = s (j / 4) (j % 4)) {x : Nat} (hx : x < 65536) (y2 y4 y5 y6 : Int32) (k145 : Int32 → Int32 → Option R21) : ∀ (m n a b : Nat), m ≤ 8 → m < n →
    fr_X7_best_91 fu (aN zs) y2 y4 y5 y6 (nI x) k145 n (nI a) (nI b) (nI (8 - m)) = k145 (nI (a + dS s m (x % 4 ^ m))) (nI (b + dC m (x % 4 ^ m))) := by
  intro m
  induction m with
  | zero =>
    intro n a b hm hn
    obtain ⟨n, rfl⟩ : ∃ z, n = z + 1 := ⟨n - 1, by omega⟩
    rw [fr_X7_best_91, if_pos (by decide)]
    rfl
  | succ m ih =>
    intro n a b hm hn
    obtain ⟨n, rfl⟩ : ∃ z, n = z + 1 := ⟨n - 1, by omega⟩
    have hd := dg_4 x (7 - m)
    have e4 : (4 : Int32) * nI (7 - m) + nI (dg x (7 - m)) = nI (4 * (7 - m) + dg x (7 - m)) := by rw [show (4 : Int32) = nI 4 from rfl, pk_mul, nI_add]
    have ed : dg x (7 - m) = x / 4 ^ m % 4 := by unfold dg; rw [show 7 - (7 - m) = m by omega]
    rw [show 8 - (m + 1) = 7 - m by omega, fr_X7_best_91, if_neg (show ¬ (8 : Int32) ≤ nI (7 - m) from nI_ge (b := 8) (by omega) (by decide)), dg_i hx (by omega), e4, if_pos (show inR (nI (4 * (7 - m) + dg x (7 - m))) 32 from in_i (by omega) (by decide)), l_price fu hd, Option.bind_some, aN_at _ (by omega), hz _ (by omega), show (4 * (7 - m) + dg x (7 - m)) / 4 = 7 - m by omega, show (4 * (7 - m) + dg x (7 - m)) % 4 = dg x (7 - m) by omega, nI_add, nI_add, nI_1, show 7 - m + 1 = 8 - m by omega, ih n _ _ (by omega) (by omega), dS, dC, md_hi, md_lo, ed, Nat.add_assoc, Nat.add_assoc]
theorem dS_b {s : Nat → Nat → Nat} (h : ∀ c k, s c k ≤ 6400) : ∀ m x, dS s m x ≤ m * 6400
  | 0, _ => Nat.zero_le _
  | m + 1, x => by
    have h1 := h (7 - m) (x / 4 ^ m)
    have h2 := dS_b h m (x % 4 ^ m)
    rw [dS, Nat.succ_mul]
    omega
theorem dC_b : ∀ m x, dC m x ≤ m * 8
  | 0, _ => Nat.zero_le _
  | m + 1, x => by
    have h1 := pr_8 (x / 4 ^ m)
    have h2 := dC_b m (x % 4 ^ m)
    rw [dC, Nat.succ_mul]
    omega
def BS (s : Nat → Nat → Nat) (price y : Nat) (l p f : Int32) : Prop := (l = -1 ∧ ∀ x, x < y → ¬ dC 8 x ≤ price) ∨ ∃ b, b < y ∧ dC 8 b ≤ price ∧ l = nI (dS s 8 b) ∧ p = nI (dC 8 b) ∧ f = nI b ∧ ∀ x, x < y → dC 8 x ≤ price → bet s b x
theorem nI_nm {n : Nat} (h : n < 2 ^ 31) : ¬ nI n = -1 := by
  intro z
  have := congrArg Int32.toInt z
  rw [nI_toInt h] at this
  exact absurd this (by show ¬ (n : Int) = -1; omega)
theorem b_scan (fu : Nat) (hf : 200 < fu) {s : Nat → Nat → Nat} (hs6 : ∀ c k, s c k ≤ 6400) {zs : Nat → Nat} (hz : ∀ j, j < 32 → zs j = s (j / 4) (j % 4)) {price : Nat} (hpr : price ≤ 64) (k196 : Int32 → Int32 → Option R21) : ∀ (m n y : Nat) (l p f : Int32), y + m = 65536 → m < n → BS s price y l p f →
    ∃ l2 p2 f2, fr_X7_best_75 fu (aN zs) (nI price) k196 n l p f (nI y) = k196 l2 f2 ∧ BS s price 65536 l2 p2 f2 := by
  intro m
  induction m with
  | zero =>
    intro n y l p f hy hn hB
    obtain ⟨n, rfl⟩ : ∃ z, n = z + 1 := ⟨n - 1, by omega⟩
    refine ⟨l, p, f, ?_, by rw [show (65536 : Nat) = y by omega]; exact hB⟩
    rw [fr_X7_best_75, if_pos (show (65536 : Int32) ≤ nI y from nI_le (a := 65536) (by omega) (by omega))]
  | succ m ih =>
    intro n y l p f hy hn hB
    obtain ⟨n, rfl⟩ : ∃ z, n = z + 1 := ⟨n - 1, by omega⟩
    have hS := dS_b hs6 8 y
    have hC := dC_b 8 y
    have e8 : y % 4 ^ 8 = y := Nat.mod_eq_of_lt (by omega)
    have keep : BS s price (y + 1) l p f → ∃ l2 p2 f2, fr_X7_best_75 fu (aN zs) (nI price) k196 n l p f (nI y + 1) = k196 l2 f2 ∧ BS s price 65536 l2 p2 f2 := by
      intro hB2
      rw [nI_1]
      exact ih n (y + 1) l p f (by omega) (by omega) hB2
    have put : BS s price (y + 1) (nI (dS s 8 y)) (nI (dC 8 y)) (nI y) → ∃ l2 p2 f2, fr_X7_best_178 fu (nI price) (fun a1 a2 a3 a4 => fr_X7_best_75 fu (aN zs) (nI price) k196 n a1 a2 a3 a4) (nI y) (nI (dS s 8 y)) (nI (dC 8 y)) = k196 l2 f2 ∧ BS s price 65536 l2 p2 f2 := by
      intro hB2
      unfold fr_X7_best_178
      rw [nI_1]
      exact ih n (y + 1) _ _ _ (by omega) (by omega) hB2
    rw [fr_X7_best_75, if_neg (show ¬ (65536 : Int32) ≤ nI y from nI_ge (b := 65536) (by omega) (by decide))]
    have hsum := b_sum fu hz (show y < 65536 by omega) (nI price) l p f (fun a b => (if nI price < b then fr_X7_best_75 fu (aN zs) (nI price) k196 n l p f (nI y + 1) else (if l = -1 then (fr_X7_best_178 fu (nI price) (fun a1 a2 a3 a4 => fr_X7_best_75 fu (aN zs) (nI price) k196 n a1 a2 a3 a4) (nI y) a b) else (if a < l then (fr_X7_best_178 fu (nI price) (fun a1 a2 a3 a4 => fr_X7_best_75 fu (aN zs) (nI price) k196 n a1 a2 a3 a4) (nI y) a b) else (if a = l then (if p ≤ b then fr_X7_best_75 fu (aN zs) (nI price) k196 n l p f (nI y + 1) else (fr_X7_best_178 fu (nI price) (fun a1 a2 a3 a4 => fr_X7_best_75 fu (aN zs) (nI price) k196 n a1 a2 a3 a4) (nI y) a b)) else fr_X7_best_75 fu (aN zs) (nI price) k196 n l p f (nI y + 1)))))) 8 fu 0 0 (by omega) (by omega)
    rw [e8, Nat.zero_add, Nat.zero_add] at hsum
    have goal2 : ∃ l2 p2 f2, (if nI price < nI (dC 8 y) then fr_X7_best_75 fu (aN zs) (nI price) k196 n l p f (nI y + 1) else (if l = -1 then (fr_X7_best_178 fu (nI price) (fun a1 a2 a3 a4 => fr_X7_best_75 fu (aN zs) (nI price) k196 n a1 a2 a3 a4) (nI y) (nI (dS s 8 y)) (nI (dC 8 y))) else (if nI (dS s 8 y) < l then (fr_X7_best_178 fu (nI price) (fun a1 a2 a3 a4 => fr_X7_best_75 fu (aN zs) (nI price) k196 n a1 a2 a3 a4) (nI y) (nI (dS s 8 y)) (nI (dC 8 y))) else (if nI (dS s 8 y) = l then (if p ≤ nI (dC 8 y) then fr_X7_best_75 fu (aN zs) (nI price) k196 n l p f (nI y + 1) else (fr_X7_best_178 fu (nI price) (fun a1 a2 a3 a4 => fr_X7_best_75 fu (aN zs) (nI price) k196 n a1 a2 a3 a4) (nI y) (nI (dS s 8 y)) (nI (dC 8 y)))) else fr_X7_best_75 fu (aN zs) (nI price) k196 n l p f (nI y + 1))))) = k196 l2 f2 ∧ BS s price 65536 l2 p2 f2 := by
      by_cases q : dC 8 y ≤ price
      · rw [if_neg (nI_nlt q (by omega))]
        rcases hB with ⟨b1, b2⟩ | ⟨b, b1, b2, rfl, rfl, rfl, b3⟩
        · rw [if_pos b1]
          refine put (Or.inr ⟨y, by omega, q, rfl, rfl, rfl, fun x hx hcx => ?_⟩)
          rcases Nat.lt_or_ge x y with z | z
          · exact absurd hcx (b2 x z)
          · rw [show x = y by omega]; exact Or.inr ⟨rfl, Or.inr ⟨rfl, Nat.le_refl _⟩⟩
        · have hSb := dS_b hs6 8 b
          have hCb := dC_b 8 b
          rw [if_neg (nI_nm (by omega))]
          by_cases q2 : dS s 8 y < dS s 8 b
          · rw [if_pos (nI_lt q2 (by omega))]
            refine put (Or.inr ⟨y, by omega, q, rfl, rfl, rfl, fun x hx hcx => ?_⟩)
            rcases Nat.lt_or_ge x y with z | z
            · have := b3 x z hcx
              exact Or.inl (by rcases this with t | ⟨t, -⟩ <;> omega)
            · rw [show x = y by omega]; exact Or.inr ⟨rfl, Or.inr ⟨rfl, Nat.le_refl _⟩⟩
          · rw [if_neg (nI_nlt (by omega) (by omega))]
            have ee : nI (dS s 8 y) = nI (dS s 8 b) ↔ dS s 8 y = dS s 8 b := nI_eq (by omega) (by omega)
            by_cases q3 : dS s 8 y = dS s 8 b
            · rw [if_pos (ee.mpr q3)]
              by_cases q4 : dC 8 b ≤ dC 8 y
              · rw [if_pos (nI_le q4 (by omega))]
                refine keep (Or.inr ⟨b, by omega, b2, rfl, rfl, rfl, fun x hx hcx => ?_⟩)
                rcases Nat.lt_or_ge x y with z | z
                · exact b3 x z hcx
                · rw [show x = y by omega]
                  exact Or.inr ⟨q3.symm, by
                    rcases Nat.lt_or_ge (dC 8 b) (dC 8 y) with t | t
                    · exact Or.inl t
                    · exact Or.inr ⟨by omega, by omega⟩⟩
              · rw [if_neg (nI_ge (by omega) (by omega))]
                refine put (Or.inr ⟨y, by omega, q, rfl, rfl, rfl, fun x hx hcx => ?_⟩)
                rcases Nat.lt_or_ge x y with z | z
                · rcases b3 x z hcx with t | ⟨t, u⟩
                  · exact Or.inl (by omega)
                  · exact Or.inr ⟨by omega, Or.inl (by rcases u with u | ⟨u, -⟩ <;> omega)⟩
                · rw [show x = y by omega]; exact Or.inr ⟨rfl, Or.inr ⟨rfl, Nat.le_refl _⟩⟩
            · rw [if_neg (fun z => q3 (ee.mp z))]
              refine keep (Or.inr ⟨b, by omega, b2, rfl, rfl, rfl, fun x hx hcx => ?_⟩)
              rcases Nat.lt_or_ge x y with z | z
              · exact b3 x z hcx
              · rw [show x = y by omega]; exact Or.inl (by omega)
      · rw [if_pos (nI_lt (by omega) (by omega))]
        refine keep ?_
        rcases hB with ⟨b1, b2⟩ | ⟨b, b1, b2, h1, h2, h3, b3⟩
        · refine Or.inl ⟨b1, fun x hx => ?_⟩
          rcases Nat.lt_or_ge x y with z | z
          · exact b2 x z
          · rw [show x = y by omega]; exact q
        · refine Or.inr ⟨b, by omega, b2, h1, h2, h3, fun x hx hcx => ?_⟩
          rcases Nat.lt_or_ge x y with z | z
          · exact b3 x z hcx
          · rw [show x = y by omega] at hcx; exact absurd hcx q
    obtain ⟨l2, p2, f2, g1, g2⟩ := goal2
    exact ⟨l2, p2, f2, hsum.trans g1, g2⟩
theorem BS_end {s : Nat → Nat → Nat} {price : Nat} {l p f : Int32} (h : BS s price 65536 l p f) : l = nI (dG s 8 price) ∧ f = nI (dN s 8 (dP s price price)) := by
  obtain ⟨d1, d2, d3, d4⟩ := dBest s price
  rcases h with ⟨-, h2⟩ | ⟨b, h1, h2, rfl, rfl, rfl, h3⟩
  · exact absurd (show dC 8 0 ≤ price from Nat.le_trans (by decide) (Nat.zero_le price)) (h2 0 (by decide))
  · have e := bet_one (h3 _ d1 d2) (d4 b h1 h2)
    rw [e, d3]
    exact ⟨rfl, rfl⟩
theorem b_dig (fu : Nat) {x : Nat} (hx : x < 65536) (y4 : Int32) (k231 : (Nat → Int32) → Option R21) : ∀ (m n i : Nat) (ze : Nat → Nat), i + m = 8 → m < n → ∃ z2, fr_X7_best_199 fu y4 (nI x) k231 n (aN ze) (nI i) = k231 (aN z2) ∧ (∀ j, j < i → z2 j = ze j) ∧ (∀ j, i ≤ j → j < 8 → z2 j = dg x j) := by
  intro m
  induction m with
  | zero =>
    intro n i ze hi hn
    obtain ⟨n, rfl⟩ : ∃ z, n = z + 1 := ⟨n - 1, by omega⟩
    refine ⟨ze, ?_, fun _ _ => rfl, fun j _ _ => by omega⟩
    rw [fr_X7_best_199, if_pos (show (8 : Int32) ≤ nI i from nI_le (a := 8) (by omega) (by omega))]
  | succ m ih =>
    intro n i ze hi hn
    obtain ⟨n, rfl⟩ : ∃ z, n = z + 1 := ⟨n - 1, by omega⟩
    obtain ⟨z2, h1, h2, h3⟩ := ih n (i + 1) (va_up ze i (dg x i)) (by omega) (by omega)
    refine ⟨z2, ?_, fun j hj => ?_, fun j g1 g2 => ?_⟩
    · rw [fr_X7_best_199, if_neg (show ¬ (8 : Int32) ≤ nI i from nI_ge (b := 8) (by omega) (by decide)), if_pos (show inR (nI i) 8 from in_i (by omega) (by decide)), dg_i hx (by omega), aN_up _ _ (by omega), nI_1]
      exact h1
    · rw [h2 j (by omega)]; exact up_n _ _ (by omega)
    · by_cases q : j = i
      · subst q; rw [h2 j (by omega)]; exact up_s _ _ _
      · exact h3 j (by omega) g2
/-! BEST -/
def AG (ap ze : Nat → Int32) : Prop := ∃ pk : Nat → Nat, ∀ j, j < 8 → ap j = nI (pk j) ∧ ze j = nI (pk j) ∧ pk j < 4
theorem x_best (fu : Nat) {P : PG} {c0 : Nat → Nat} (hP : okP P) (hc : ∀ j, j < 8 → c0 j < 256) (hf : 200 < fu) {lf : Nat → Int32} {T : M16} (h : SO P c0 lf T) {s : Nat} (hs : s ≤ 60) (hF : 70000 < fu) (K : K9) (lc lo : Int32) (Z : Z16) (gv : Int32) (hgv : gv = 0 ∨ gv = 1) (ap as af ze zs : Nat → Int32) (hag : AG ap ze) (hz : ∀ j, 520 ≤ j → j < 585 → af j = 0) (a0 a1 : Int32) :
    ∃ (v : Int32) (U : M16) (J : K9) (lf2 : Nat → Int32) (s2 : Nat) (W : Z16) (gv2 : Int32) (ap2 as2 af2 ze2 zs2 : Nat → Int32), f_X6_best fu T.1 (nI s) (nI P.1) (aN P.2.1) (aN P.2.2.1) (aN P.2.2.2) (aN c0) T.2.1 T.2.2.1 T.2.2.2.1 T.2.2.2.2.1 T.2.2.2.2.2.1 T.2.2.2.2.2.2.1 T.2.2.2.2.2.2.2.1 T.2.2.2.2.2.2.2.2.1 T.2.2.2.2.2.2.2.2.2.1 T.2.2.2.2.2.2.2.2.2.2.1 T.2.2.2.2.2.2.2.2.2.2.2.1 T.2.2.2.2.2.2.2.2.2.2.2.2.1 T.2.2.2.2.2.2.2.2.2.2.2.2.2.1 T.2.2.2.2.2.2.2.2.2.2.2.2.2.2.1 T.2.2.2.2.2.2.2.2.2.2.2.2.2.2.2 K.1 K.2.1 K.2.2.1 K.2.2.2.1 K.2.2.2.2.1 K.2.2.2.2.2.1 K.2.2.2.2.2.2.1 K.2.2.2.2.2.2.2.1 K.2.2.2.2.2.2.2.2 lf gv ap as af a0 a1 = some (v, U.1, nI s2, U.2.1, U.2.2.1, U.2.2.2.1, U.2.2.2.2.1, U.2.2.2.2.2.1, U.2.2.2.2.2.2.1, U.2.2.2.2.2.2.2.1, U.2.2.2.2.2.2.2.2.1, U.2.2.2.2.2.2.2.2.2.1, U.2.2.2.2.2.2.2.2.2.2.1, U.2.2.2.2.2.2.2.2.2.2.2.1, U.2.2.2.2.2.2.2.2.2.2.2.2.1, U.2.2.2.2.2.2.2.2.2.2.2.2.2.1, U.2.2.2.2.2.2.2.2.2.2.2.2.2.2.1, U.2.2.2.2.2.2.2.2.2.2.2.2.2.2.2, J.1, J.2.1, J.2.2.1, J.2.2.2.1, J.2.2.2.2.1, J.2.2.2.2.2.1, J.2.2.2.2.2.2.1, J.2.2.2.2.2.2.2.1, J.2.2.2.2.2.2.2.2, lf2, gv2, ap2, as2, af2) ∧ SO P c0 lf2 U ∧ s2 ≤ 60 ∧ (gv2 = 0 ∨ gv2 = 1) ∧ AG ap2 ze2 ∧ (∀ j, 520 ≤ j → j < 585 → af2 j = 0) ∧
      f_X7_best fu (nI P.1) gv (nI s) Z.1 Z.2.1 Z.2.2.1 Z.2.2.2.1 Z.2.2.2.2.1 Z.2.2.2.2.2.1 Z.2.2.2.2.2.2.1 Z.2.2.2.2.2.2.2.1 Z.2.2.2.2.2.2.2.2.1 lc lo Z.2.2.2.2.2.2.2.2.2.1 Z.2.2.2.2.2.2.2.2.2.2.1 Z.2.2.2.2.2.2.2.2.2.2.2.1 Z.2.2.2.2.2.2.2.2.2.2.2.2.1 (aN P.2.1) (aN P.2.2.1) (aN P.2.2.2) (aN c0) ze Z.2.2.2.2.2.2.2.2.2.2.2.2.2.1 Z.2.2.2.2.2.2.2.2.2.2.2.2.2.2.1 Z.2.2.2.2.2.2.2.2.2.2.2.2.2.2.2 zs a0 a1 = some (v, gv2, nI s2, W.1, W.2.1, W.2.2.1, W.2.2.2.1, W.2.2.2.2.1, W.2.2.2.2.2.1, W.2.2.2.2.2.2.1, W.2.2.2.2.2.2.2.1, W.2.2.2.2.2.2.2.2.1, W.2.2.2.2.2.2.2.2.2.1, W.2.2.2.2.2.2.2.2.2.2.1, W.2.2.2.2.2.2.2.2.2.2.2.1, W.2.2.2.2.2.2.2.2.2.2.2.2.1, ze2, W.2.2.2.2.2.2.2.2.2.2.2.2.2.1, W.2.2.2.2.2.2.2.2.2.2.2.2.2.2.1, W.2.2.2.2.2.2.2.2.2.2.2.2.2.2.2, zs2) := by
  unfold f_X6_best f_X7_best
  rcases x_wide fu a0 with ⟨w, hw, rfl, q3, q4⟩ | ⟨q3, q4⟩
  · rw [q3, Option.bind_some, if_neg (show ¬ (1 : Int32) = 0 by decide)]
    rcases x_le fu a1 (m := 64) (by decide) with ⟨price, p1, rfl, p3, p4, p5⟩ | ⟨p1, p2⟩
    · rw [if_neg p3, show (64 : Int32) = nI 64 from rfl, if_pos p4, p5, Option.bind_some, if_neg (show ¬ (1 : Int32) = 0 by decide)]
      obtain ⟨v, U, W, h1, h2, h3, h4⟩ := x_search fu hP hc hf h (m := 4) hs (by decide) hw lc lo Z
      rw [show (4 : Int32) = nI 4 from rfl, h1, Option.bind_some]
      dsimp only
      rcases h4 with ⟨hv, h4⟩ | ⟨rfl, hs2, he, hzp, h4⟩
      · rw [h4, Option.bind_some, if_neg hv]
        dsimp only
        rw [if_neg hv]
        exact ⟨v, U, K, lf, s, W, gv, ap, as, af, ze, zs, rfl, Or.inr ⟨h2, h3⟩, hs, hgv, hag, hz, rfl⟩
      · obtain ⟨J, f, i1, i2, i3, i4⟩ := c_try fu hP hc hf h2 h3 hw K
        rw [if_pos rfl, i1, Option.bind_some, h4, Option.bind_some, if_pos rfl]
        dsimp only
        have hT := Tk_le P c0
        obtain ⟨-, z2, z3, -, rp, z5, z6⟩ := hzp
        obtain ⟨pk, as2, af2, k1, k2, k3⟩ := a_find fu hP hc hf hF hw i2 gv ap as af hz p1
        obtain ⟨zs0, es⟩ := aN_all zs
        obtain ⟨ze0, ee⟩ := aN_all ze
        obtain ⟨Y, zs2, m1, m2⟩ := b_sil fu hP hc hf he z6 hw lc lo (nI price) (fun x1 x2 x3 x4 x5 x6 x7 x8 x9 x10 x11 x12 x13 => (fr_X7_best_75 fu x13 (nI price) (fun y4 y6 => (fr_X7_best_199 fu y4 y6 (fun e => some (y4, (1 : Int32), nI (s + 4), x1, x2, x3, x4, x5, x6, x7, x8, x9, x10, W.2.2.2.2.2.2.2.2.2.2.1, W.2.2.2.2.2.2.2.2.2.2.2.1, W.2.2.2.2.2.2.2.2.2.2.2.2.1, e, x11, x12, W.2.2.2.2.2.2.2.2.2.2.2.2.2.2.2, x13)) fu (aN ze0) 0)) fu (-1) 0 0 0)) 32 fu 0 (W.1, W.2.1, W.2.2.1, W.2.2.2.1, W.2.2.2.2.1, W.2.2.2.2.2.1, W.2.2.2.2.2.2.1, W.2.2.2.2.2.2.2.1, W.2.2.2.2.2.2.2.2.1, W.2.2.2.2.2.2.2.2.2.1, W.2.2.2.2.2.2.2.2.2.2.2.2.2.1, W.2.2.2.2.2.2.2.2.2.2.2.2.2.2.1) zs0 rfl (by omega) (fun j hj => absurd hj (Nat.not_lt_zero j))
        obtain ⟨l2, pp2, f2, n1, n2⟩ := b_scan fu hf (sS_b P c0 w) m2 p1 (fun y4 y6 => (fr_X7_best_199 fu y4 y6 (fun e => some (y4, (1 : Int32), nI (s + 4), Y.1, Y.2.1, Y.2.2.1, Y.2.2.2.1, Y.2.2.2.2.1, Y.2.2.2.2.2.1, Y.2.2.2.2.2.2.1, Y.2.2.2.2.2.2.2.1, Y.2.2.2.2.2.2.2.2.1, Y.2.2.2.2.2.2.2.2.2.1, W.2.2.2.2.2.2.2.2.2.2.1, W.2.2.2.2.2.2.2.2.2.2.2.1, W.2.2.2.2.2.2.2.2.2.2.2.2.1, e, Y.2.2.2.2.2.2.2.2.2.2.1, Y.2.2.2.2.2.2.2.2.2.2.2, W.2.2.2.2.2.2.2.2.2.2.2.2.2.2.2, aN zs2)) fu (aN ze0) 0)) 65536 fu 0 (-1) 0 0 rfl (by omega) (Or.inl ⟨rfl, fun x hx => absurd hx (Nat.not_lt_zero x)⟩)
        obtain ⟨rfl, rfl⟩ := BS_end n2
        obtain ⟨z9, o1, -, o3⟩ := b_dig fu (dBest (sS P c0 w) price).1 (nI (dG (sS P c0 w) 8 price)) (fun e => some (nI (dG (sS P c0 w) 8 price), (1 : Int32), nI (s + 4), Y.1, Y.2.1, Y.2.2.1, Y.2.2.2.1, Y.2.2.2.2.1, Y.2.2.2.2.2.1, Y.2.2.2.2.2.2.1, Y.2.2.2.2.2.2.2.1, Y.2.2.2.2.2.2.2.2.1, Y.2.2.2.2.2.2.2.2.2.1, W.2.2.2.2.2.2.2.2.2.2.1, W.2.2.2.2.2.2.2.2.2.2.2.1, W.2.2.2.2.2.2.2.2.2.2.2.2.1, e, Y.2.2.2.2.2.2.2.2.2.2.1, Y.2.2.2.2.2.2.2.2.2.2.2, W.2.2.2.2.2.2.2.2.2.2.2.2.2.2.2, aN zs2)) 8 fu 0 ze0 rfl (by omega)
        rw [← z2, ← z3, ← z5] at m1
        rw [i4, k1, Option.bind_some, ← i4, nI_add, es, ee]
        refine ⟨_, (U.1, U.2.1, U.2.2.1, U.2.2.2.1, U.2.2.2.2.1, U.2.2.2.2.2.1, U.2.2.2.2.2.2.1, U.2.2.2.2.2.2.2.1, U.2.2.2.2.2.2.2.2.1, U.2.2.2.2.2.2.2.2.2.1, U.2.2.2.2.2.2.2.2.2.2.1, U.2.2.2.2.2.2.2.2.2.2.2.1, U.2.2.2.2.2.2.2.2.2.2.2.2.1, U.2.2.2.2.2.2.2.2.2.2.2.2.2.1, U.2.2.2.2.2.2.2.2.2.2.2.2.2.2.1, nI w), J, aN f, s + 4, (Y.1, Y.2.1, Y.2.2.1, Y.2.2.2.1, Y.2.2.2.2.1, Y.2.2.2.2.2.1, Y.2.2.2.2.2.2.1, Y.2.2.2.2.2.2.2.1, Y.2.2.2.2.2.2.2.2.1, Y.2.2.2.2.2.2.2.2.2.1, W.2.2.2.2.2.2.2.2.2.2.1, W.2.2.2.2.2.2.2.2.2.2.2.1, W.2.2.2.2.2.2.2.2.2.2.2.2.1, Y.2.2.2.2.2.2.2.2.2.2.1, Y.2.2.2.2.2.2.2.2.2.2.2, W.2.2.2.2.2.2.2.2.2.2.2.2.2.2.2), 1, aN pk, as2, af2, aN z9, aN zs2, rfl, i3, hs2, Or.inr rfl, ⟨dg (dN (sS P c0 w) 8 (dP (sS P c0 w) price price)), fun j hj => ⟨?_, ?_, dg_4 _ _⟩⟩, k3, ?_⟩
        · show nI (pk j) = _
          rw [k2 j hj]
        · show nI (z9 j) = _
          rw [o3 j (Nat.zero_le _) hj]
        · exact (m1.trans n1).trans o1
    · rw [show (64 : Int32) = nI 64 from rfl, p2, Option.bind_some, if_pos rfl]
      refine ⟨-102, T, K, lf, s, Z, gv, ap, as, af, ze, zs, ?_, h, hs, hgv, hag, hz, rfl⟩
      rcases p1 with z | ⟨z, y⟩
      · rw [if_pos z]
      · rw [if_neg z, if_neg y]
  · rw [q3, Option.bind_some, if_pos rfl]
    refine ⟨-102, T, K, lf, s, Z, gv, ap, as, af, ze, zs, rfl, h, hs, hgv, hag, hz, ?_⟩
    rcases x_le fu a1 (m := 64) (by decide) with ⟨price, p1, rfl, p3, p4, p5⟩ | ⟨p1, p2⟩
    · rw [show (64 : Int32) = nI 64 from rfl, p5, Option.bind_some, if_neg (show ¬ (1 : Int32) = 0 by decide), show (4 : Int32) = nI 4 from rfl, shut_no fu lc lo Z q4, Option.bind_some]
      dsimp only
      rw [if_neg (show ¬ (-102 : Int32) = 0 by decide)]
    · rw [show (64 : Int32) = nI 64 from rfl, p2, Option.bind_some, if_pos rfl]
