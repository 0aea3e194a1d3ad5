/-! BEST, THE CLASS'S SEARCH -/
abbrev R5 : Type := Int32 × Int32 × (Nat → Int32) × (Nat → Int32) × (Nat → Int32)
theorem a_row (fu : Nat) (hF : 200 < fu) {s : Nat → Nat → Nat} (hb : ∀ m p, m ≤ 8 → dG s m p ≤ 51200) (hs6 : ∀ c k, s c k ≤ 6400) {as : Nat → Nat} (ha : ∀ c k, c < 8 → k < 4 → as (4 * c + k) = s c k) {price : Nat} (hpr : price ≤ 64) {m : Nat} (hm : m < 8) (k46 : (Nat → Int32) → Option R5) : ∀ (d n p : Nat) (af : Nat → Nat), p + d = price + 1 → d < n → (∀ q, q ≤ price → af (65 * (7 - m + 1) + q) = dG s m q) → (∀ q, q < p → af (65 * (7 - m) + q) = dG s (m + 1) q) →
    ∃ a2, fr_X0_find_15 fu (aN as) (nI price) (nI (7 - m)) k46 n (aN af) (nI p) = k46 (aN a2) ∧ (∀ q, q ≤ price → a2 (65 * (7 - m) + q) = dG s (m + 1) q) ∧ (∀ j, 65 * (7 - m + 1) ≤ j → a2 j = af j) := by
  intro d
  induction d with
  | zero =>
    intro n p af hp hn h1 h2
    obtain ⟨n, rfl⟩ : ∃ z, n = z + 1 := ⟨n - 1, by omega⟩
    refine ⟨af, ?_, fun q hq => h2 q (by omega), fun _ _ => rfl⟩
    rw [fr_X0_find_15, if_pos (nI_lt (by omega) (by omega))]
  | succ d ih =>
    intro n p af hp hn h1 h2
    obtain ⟨n, rfl⟩ : ∃ z, n = z + 1 := ⟨n - 1, by omega⟩
    have e65 : nI (7 - m) * (65 : Int32) + nI p = nI (65 * (7 - m) + p) := by rw [show (65 : Int32) = nI 65 from rfl, pk_mul, nI_add, Nat.mul_comm]
    rw [fr_X0_find_15, if_neg (nI_nlt (by omega) (by omega)), a_ff fu hF hb hm (show p ≤ 64 by omega) (fun k hk => ha _ k (by omega) hk) (hs6 _) (fun q hq => h1 q (by omega)), Option.bind_some, e65, if_pos (show inR (nI (65 * (7 - m) + p)) 585 from in_i (by omega) (by decide)), aN_up _ _ (by omega), nI_1]
    obtain ⟨a2, i1, i2, i3⟩ := ih n (p + 1) (va_up af (65 * (7 - m) + p) (dG s (m + 1) p)) (by omega) (by omega) (fun q hq => by rw [up_n _ _ (by omega)]; exact h1 q hq) (fun q hq => by
      by_cases z : q = p
      · subst z; exact up_s _ _ _
      · rw [up_n _ _ (by omega)]; exact h2 q (by omega))
    exact ⟨a2, i1, i2, fun j hj => by rw [i3 j hj]; exact up_n _ _ (by omega)⟩
theorem a_rows (fu : Nat) (hF : 200 < fu) {s : Nat → Nat → Nat} (hb : ∀ m p, m ≤ 8 → dG s m p ≤ 51200) (hs6 : ∀ c k, s c k ≤ 6400) {as : Nat → Nat} (ha : ∀ c k, c < 8 → k < 4 → as (4 * c + k) = s c k) {price : Nat} (hpr : price ≤ 64) (k52 : (Nat → Int32) → Option R5) : ∀ (r n : Nat) (af : Nat → Nat), r ≤ 8 → r < n → (∀ m, m ≤ 8 - r → ∀ q, q ≤ price → af (65 * (8 - m) + q) = dG s m q) →
    ∃ a2, fr_X0_find_8 fu (aN as) (nI price) k52 n (aN af) (nI r + -1) = k52 (aN a2) ∧ (∀ m, m ≤ 8 → ∀ q, q ≤ price → a2 (65 * (8 - m) + q) = dG s m q) ∧ (∀ j, 520 ≤ j → a2 j = af j) := by
  intro r
  induction r with
  | zero =>
    intro n af hr hn h1
    obtain ⟨n, rfl⟩ : ∃ z, n = z + 1 := ⟨n - 1, by omega⟩
    refine ⟨af, ?_, h1, fun _ _ => rfl⟩
    rw [fr_X0_find_8, if_pos (by decide)]
  | succ r ih =>
    intro n af hr hn h1
    obtain ⟨n, rfl⟩ : ∃ z, n = z + 1 := ⟨n - 1, by omega⟩
    have e1 : 7 - (7 - r) = r := by omega
    obtain ⟨a1, i1, i2, i3⟩ := a_row fu hF hb hs6 ha hpr (m := 7 - r) (by omega) (fun e => fr_X0_find_8 fu (aN as) (nI price) k52 n e (nI r + -1)) (price + 1) fu 0 af (by omega) (by omega) (fun q hq => by
      have := h1 (7 - r) (by omega) q hq
      rw [show 8 - (7 - r) = 7 - (7 - r) + 1 by omega] at this
      exact this) (fun q hq => absurd hq (Nat.not_lt_zero q))
    obtain ⟨a2, j1, j2, j3⟩ := ih n a1 (by omega) (by omega) (fun m hm q hq => by
      by_cases z : m = 8 - r
      · subst z
        have := i2 q hq
        rw [e1, show 7 - r + 1 = 8 - r by omega] at this
        rw [show 8 - (8 - r) = r by omega]
        exact this
      · rw [i3 _ (by omega)]; exact h1 m (by omega) q hq)
    refine ⟨a2, ?_, j2, fun j hj => by rw [j3 j hj]; exact i3 j (by omega)⟩
    rw [nI_p, fr_X0_find_8, if_neg (nI_pos (by omega))]
    rw [e1] at i1
    exact i1.trans j1
theorem a_purse (fu : Nat) {s : Nat → Nat → Nat} (hb : ∀ m p, m ≤ 8 → dG s m p ≤ 51200) (hs6 : ∀ c k, s c k ≤ 6400) {as : Nat → Nat} (ha : ∀ c k, c < 8 → k < 4 → as (4 * c + k) = s c k) {price : Nat} (hpr : price ≤ 64) {af : Nat → Nat} (h0 : ∀ q, q ≤ price → af q = dG s 8 q) (k29 : Int32 → Option Int32) : ∀ (p n : Nat), p ≤ price → p < n → fr_X0_leastPurse_2 fu (aN af) (nI price) k29 n (nI p) = k29 (nI (dP s price p)) := by
  intro p
  induction p with
  | zero =>
    intro n hp hn
    obtain ⟨n, rfl⟩ : ∃ z, n = z + 1 := ⟨n - 1, by omega⟩
    rw [fr_X0_leastPurse_2, if_pos (by decide)]
    rfl
  | succ p ih =>
    intro n hp hn
    obtain ⟨n, rfl⟩ : ∃ z, n = z + 1 := ⟨n - 1, by omega⟩
    have b1 := hb 8 p (by omega)
    have b2 := hb 8 price (by omega)
    have e : nI (dG s 8 p) = nI (dG s 8 price) ↔ dG s 8 p = dG s 8 price := nI_eq (by omega) (by omega)
    rw [fr_X0_leastPurse_2, if_neg (show ¬ nI (p + 1) ≤ (0 : Int32) from nI_ge (a := 0) (by omega) (by omega)), sub1, nI_p, if_pos (show inR (nI p) 585 from in_i (by omega) (by decide)), if_pos (show inR (nI price) 585 from in_i (by omega) (by decide)), aN_at _ (by omega), aN_at _ (by omega), h0 p (by omega), h0 price (by omega), dP]
    by_cases q : dG s 8 p = dG s 8 price
    · rw [if_pos (e.mpr q), if_pos q]; exact ih n (by omega) (by omega)
    · rw [if_neg (fun z => q (e.mp z)), if_neg q]
theorem pr_8 (k : Nat) : pr k ≤ 8 := by
  unfold pr
  repeat' split
  all_goals omega
theorem a_check (fu : Nat) {s : Nat → Nat → Nat} (hb : ∀ m p, m ≤ 8 → dG s m p ≤ 51200) (hs6 : ∀ c k, s c k ≤ 6400) {as : Nat → Nat} (ha : ∀ c k, c < 8 → k < 4 → as (4 * c + k) = s c k) {price : Nat} (hpr : price ≤ 64) {af : Nat → Nat} (h0 : ∀ m, m ≤ 8 → ∀ q, q ≤ price → af (65 * (8 - m) + q) = dG s m q) {m p : Nat} (hm : m < 8) (hp : p ≤ price) (k37 : Int32 → Option Int32) (k45 : Option Int32) : ∀ (d n k : Nat), k + d = dK s m p → d < n → fr_X0_leastCheck_2 fu (aN as) (aN af) (nI (7 - m)) (nI p) k37 k45 n (nI k) = k37 (nI (dK s m p)) := by
  obtain ⟨o1, o2, o3, o4⟩ := dK_ok s m p
  have b3 := hb (m + 1) p (by omega)
  have e65 : nI (7 - m) * (65 : Int32) + nI p = nI (65 * (7 - m) + p) := by rw [show (65 : Int32) = nI 65 from rfl, pk_mul, nI_add, Nat.mul_comm]
  have hq : ∀ q, q ≤ p → af (65 * (7 - m + 1) + q) = dG s m q := fun q hq => by
    have := h0 m (by omega) q (by omega)
    rw [show 8 - m = 7 - m + 1 by omega] at this
    exact this
  have h1 : af (65 * (7 - m) + p) = dG s (m + 1) p := by
    have := h0 (m + 1) (by omega) p hp
    rw [show 8 - (m + 1) = 7 - m by omega] at this
    exact this
  have hin : inR (nI (65 * (7 - m) + p)) 585 := in_i (by omega) (by decide)
  intro d
  induction d with
  | zero =>
    intro n k hk hn
    obtain ⟨n, rfl⟩ : ∃ z, n = z + 1 := ⟨n - 1, by omega⟩
    have hk2 : k = dK s m p := by omega
    subst hk2
    rw [fr_X0_leastCheck_2, if_neg (show ¬ (4 : Int32) ≤ nI (dK s m p) from nI_ge (b := 4) (by omega) (by decide)), if_pos (show inR (nI (dK s m p)) 4 from in_i o1 (by decide)), nI_clamp (by omega), pPr_n, if_neg (nI_nlt o2 (by omega)), a_with2 fu hb hm (show p ≤ 64 by omega) (fun k hk => ha _ k (by omega) hk) (hs6 _) hq o1 o2, Option.bind_some, e65, if_pos hin, aN_at _ (by omega), h1, o3, if_pos rfl]
  | succ d ih =>
    intro n k hk hn
    obtain ⟨n, rfl⟩ : ∃ z, n = z + 1 := ⟨n - 1, by omega⟩
    have hk4 : k < 4 := by omega
    have hno := o4 k (by omega)
    have h8 := pr_8 k
    have ih2 := ih n (k + 1) (by omega) (by omega)
    rw [fr_X0_leastCheck_2, if_neg (show ¬ (4 : Int32) ≤ nI k from nI_ge (b := 4) (by omega) (by decide)), if_pos (show inR (nI k) 4 from in_i hk4 (by decide)), nI_clamp (by omega), pPr_n, nI_1]
    by_cases q : pr k ≤ p
    · have b1 := hb m (p - pr k) (by omega)
      have b2 := hs6 (7 - m) k
      rw [if_neg (nI_nlt q (by omega)), a_with2 fu hb hm (show p ≤ 64 by omega) (fun k hk => ha _ k (by omega) hk) (hs6 _) hq hk4 q, Option.bind_some, e65, if_pos hin, aN_at _ (by omega), h1, if_neg (fun z => hno ⟨q, (nI_eq (by omega) (by omega)).mp z⟩)]
      exact ih2
    · rw [if_pos (nI_lt (by omega) (by omega))]
      exact ih2
/-- digits -/
def dg (x j : Nat) : Nat := x / 4 ^ (7 - j) % 4
theorem dg_hi {d r m : Nat} (hd : d < 4) (hr : r < 4 ^ m) : (d * 4 ^ m + r) / 4 ^ m % 4 = d := by
  have h4 : 0 < 4 ^ m := Nat.pow_pos (by decide)
  rw [Nat.add_comm, Nat.add_mul_div_right _ _ h4, Nat.div_eq_of_lt hr, Nat.zero_add, Nat.mod_eq_of_lt hd]
theorem dg_lo {d r m i : Nat} (hi : i < m) : (d * 4 ^ m + r) / 4 ^ i % 4 = r / 4 ^ i % 4 := by
  have h4 : 0 < 4 ^ i := Nat.pow_pos (by decide)
  have e : d * 4 ^ m + r = r + 4 ^ i * (4 * (4 ^ (m - 1 - i) * d)) := by
    have e2 : 4 ^ m = 4 ^ i * (4 * 4 ^ (m - 1 - i)) := by
      rw [← Nat.pow_succ', ← Nat.pow_add]
      congr 1; omega
    rw [e2, Nat.add_comm, Nat.mul_comm d, Nat.mul_assoc, Nat.mul_assoc]
  rw [e, Nat.add_mul_div_left _ _ h4, Nat.add_mul_mod_self_left]
theorem a_pick (fu : Nat) (hF : 200 < fu) {s : Nat → Nat → Nat} (hb : ∀ m p, m ≤ 8 → dG s m p ≤ 51200) (hs6 : ∀ c k, s c k ≤ 6400) {as : Nat → Nat} (ha : ∀ c k, c < 8 → k < 4 → as (4 * c + k) = s c k) {price : Nat} (hpr : price ≤ 64) {af : Nat → Nat} (h0 : ∀ m, m ≤ 8 → ∀ q, q ≤ price → af (65 * (8 - m) + q) = dG s m q) (k41 : (Nat → Int32) → Option (Nat → Int32)) : ∀ (m n p : Nat) (ap : Nat → Nat), m ≤ 8 → m < n → p ≤ price →
    ∃ a2, fr_X0_pick_4 fu (aN as) (aN af) k41 n (aN ap) (nI p) (nI (8 - m)) = k41 (aN a2) ∧ (∀ j, j < 8 - m → a2 j = ap j) ∧ (∀ j, 8 - m ≤ j → j < 8 → a2 j = dg (dN s m p) j) := by
  intro m
  induction m with
  | zero =>
    intro n p ap hm hn hp
    obtain ⟨n, rfl⟩ : ∃ z, n = z + 1 := ⟨n - 1, by omega⟩
    refine ⟨ap, ?_, fun _ _ => rfl, fun j _ _ => by omega⟩
    rw [fr_X0_pick_4, if_pos (by decide)]
  | succ m ih =>
    intro n p ap hm hn hp
    obtain ⟨n, rfl⟩ : ∃ z, n = z + 1 := ⟨n - 1, by omega⟩
    obtain ⟨o1, o2, o3, o4⟩ := dK_ok s m p
    have hck : f_X0_leastCheck fu (aN as) (aN af) (nI (7 - m)) (nI p) = some (nI (dK s m p)) := by
      unfold f_X0_leastCheck
      exact a_check fu hb hs6 ha hpr h0 (by omega) hp (fun e => some e) (some 0) (dK s m p) fu 0 (by omega) (by omega)
    obtain ⟨a2, i1, i2, i3⟩ := ih n (p - pr (dK s m p)) (va_up ap (7 - m) (dK s m p)) (by omega) (by omega) (by omega)
    have hr := (dN_ok s m (p - pr (dK s m p))).1
    refine ⟨a2, ?_, fun j hj => ?_, fun j h1 h2 => ?_⟩
    · rw [show 8 - (m + 1) = 7 - m by omega, fr_X0_pick_4, if_neg (show ¬ (8 : Int32) ≤ nI (7 - m) from nI_ge (b := 8) (by omega) (by decide)), hck, Option.bind_some, if_pos (show inR (nI (7 - m)) 8 from in_i (by omega) (by decide)), if_pos (show inR (nI (dK s m p)) 4 from in_i o1 (by decide)), aN_up _ _ (by omega), nI_clamp (by omega), pPr_n, pk_sub o2, nI_1, show 7 - m + 1 = 8 - m by omega]
      exact i1
    · rw [i2 j (by omega)]; exact up_n _ _ (by omega)
    · rw [dN]
      by_cases z : j = 7 - m
      · subst z
        rw [i2 _ (by omega), up_s, dg, show 7 - (7 - m) = m by omega, dg_hi o1 hr]
      · rw [i3 j (by omega) h2, dg, dg, dg_lo (by omega)]
/-- find() -/
theorem a_find (fu : Nat) {P : PG} {c0 : Nat → Nat} (hP : okP P) (hc : ∀ j, j < 8 → c0 j < 256) (hf : 200 < fu) (hF : 70000 < fu) {f : Nat → Nat} {w : Nat} (hw : w = 1 ∨ w = 2) (h : FO P c0 w f) (gv : Int32) (ap as af : Nat → Int32) (hz : ∀ j, 520 ≤ j → j < 585 → af j = 0) {price : Nat} (hpr : price ≤ 64) :
    ∃ (p2 : Nat → Nat) (as2 af2 : Nat → Int32), f_X0_find fu (nI (Tk P c0)) (nI w) (aN f) gv ap as af (nI price) = some (nI (dG (sS P c0 w) 8 price), 1, aN p2, as2, af2) ∧ (∀ j, j < 8 → p2 j = dg (dN (sS P c0 w) 8 (dP (sS P c0 w) price price)) j) ∧ (∀ j, 520 ≤ j → j < 585 → af2 j = 0) := by
  have hb : ∀ m p, m ≤ 8 → dG (sS P c0 w) m p ≤ 51200 := fun m p hm => dG_51 P c0 w hm p
  obtain ⟨as2, h1, h2⟩ := a_tally fu hP hc hf hF hw h as
  obtain ⟨ap0, e0⟩ := aN_all ap
  obtain ⟨af0, e1, hz0⟩ : ∃ f0, af = aN f0 ∧ ∀ j, 520 ≤ j → j < 585 → f0 j = 0 := by
    refine ⟨fun j => (af j).toUInt32.toNat, ?_, fun j g1 g2 => ?_⟩
    · funext j
      show af j = nI ((af j).toUInt32.toNat)
      apply Int32.toBitVec_inj.1
      show (af j).toBitVec = BitVec.ofNat 32 ((af j).toBitVec.toNat)
      simp
    · show (af j).toUInt32.toNat = 0
      rw [hz j g1 g2]; rfl
  obtain ⟨d1, d2, d3⟩ := dP_ok (sS P c0 w) price price (Nat.le_refl _) rfl
  obtain ⟨a2, i1, i2, i3⟩ := a_rows fu hf hb (sS_b P c0 w) h2 hpr (fun e => ((f_X0_leastPurse fu e (nI price)).bind (fun t6 => ((f_X0_pick fu (aN ap0) (aN as2) e t6).bind (fun t7 => (if inR (nI price) 585 then some ((e (nI price).toNatClampNeg), (1 : Int32), t7, aN as2, e) else none)))))) 8 fu af0 (by omega) (by omega) (fun m hm q hq => by
    obtain rfl : m = 0 := by omega
    rw [hz0 _ (by omega) (by omega)]; rfl)
  have e8 : ∀ q, q ≤ price → a2 q = dG (sS P c0 w) 8 q := fun q hq => by
    have := i2 8 (by omega) q hq
    rw [show 65 * (8 - 8) + q = q by omega] at this
    exact this
  obtain ⟨p2, j1, -, j3⟩ := a_pick fu hf hb (sS_b P c0 w) h2 hpr i2 (fun e => some e) 8 fu (dP (sS P c0 w) price price) ap0 (by omega) (by omega) (by omega)
  have hlp : f_X0_leastPurse fu (aN a2) (nI price) = some (nI (dP (sS P c0 w) price price)) := a_purse fu hb (sS_b P c0 w) h2 hpr e8 (fun e => some e) price fu (Nat.le_refl _) (by omega)
  have hpk : f_X0_pick fu (aN ap0) (aN as2) (aN a2) (nI (dP (sS P c0 w) price price)) = some (aN p2) := j1
  refine ⟨p2, aN as2, aN a2, ?_, fun j hj => j3 j (by omega) hj, fun j g1 g2 => ?_⟩
  · unfold f_X0_find
    rw [h1, Option.bind_some, e0, e1]
    refine Eq.trans i1 ?_
    rw [hlp, Option.bind_some, hpk, Option.bind_some, if_pos (show inR (nI price) 585 from in_i (by omega) (by decide)), aN_at _ (by omega), e8 price (Nat.le_refl _)]
  · show nI (a2 j) = 0
    rw [i3 j g1, hz0 j g1 g2]; rfl
