/-! BEST, THE CLASS'S SIDE -/
/-- silent flips of a cell under a check -/
def sS (P : PG) (c0 : Nat → Nat) (w c k : Nat) : Nat := CT P c0 w c k 5
def qS4 (P : PG) (c0 : Nat → Nat) (w j y : Nat) : Bool := decide (y / 8 % 8 = j / 4) && decide (y % 8 + w ≤ 8 ∧ KX P c0 w (j % 4) y = 5)
theorem dG_b {s : Nat → Nat → Nat} {B : Nat} (h : ∀ c k, s c k ≤ B) : ∀ m p, dG s m p ≤ m * B
  | 0, _ => Nat.zero_le _
  | m + 1, p => by
    have h1 := dG_low s m p 0 (by decide) (Nat.zero_le _)
    have h2 := dG_b h m (p - pr 0)
    have h3 := h (7 - m) 0
    rw [Nat.succ_mul]
    omega
theorem sS_b (P : PG) (c0 : Nat → Nat) (w c k : Nat) : sS P c0 w c k ≤ 6400 := CT_le P c0 w c k 5
theorem dG_51 (P : PG) (c0 : Nat → Nat) (w : Nat) {m : Nat} (hm : m ≤ 8) (p : Nat) : dG (sS P c0 w) m p ≤ 51200 := by
  have := dG_b (sS_b P c0 w) m p
  omega
theorem a_t0 (fu : Nat) (k21 : (Nat → Int32) → Option (Nat → Int32)) : ∀ (m n i : Nat) (ls : Nat → Nat), i + m = 32 → m < n → (∀ j, j < i → ls j = 0) → ∃ l2, fr_X0_tallySilent_2 fu k21 n (aN ls) (nI i) = k21 (aN l2) ∧ ∀ j, j < 32 → l2 j = 0 := by
  intro m
  induction m with
  | zero =>
    intro n i ls hi hn hl
    obtain ⟨n, rfl⟩ : ∃ z, n = z + 1 := ⟨n - 1, by omega⟩
    refine ⟨ls, ?_, fun j hj => hl j (by omega)⟩
    rw [fr_X0_tallySilent_2, if_pos (show (32 : Int32) ≤ nI i from nI_le (a := 32) (by omega) (by omega))]
  | succ m ih =>
    intro n i ls hi hn hl
    obtain ⟨n, rfl⟩ : ∃ z, n = z + 1 := ⟨n - 1, by omega⟩
    rw [fr_X0_tallySilent_2, if_neg (show ¬ (32 : Int32) ≤ nI i from nI_ge (b := 32) (by omega) (by decide)), if_pos (show inR (nI i) 32 from in_i (by omega) (by decide)), show (0 : Int32) = nI 0 from rfl, aN_up _ _ (by omega), nI_1]
    refine ih n (i + 1) _ (by omega) (by omega) (fun j hj => ?_)
    by_cases q : j = i
    · subst q; exact up_s _ _ _
    · rw [up_n _ _ q]; exact hl j (by omega)
theorem a_flip (fu : Nat) {P : PG} {c0 : Nat → Nat} (hP : okP P) (hc : ∀ j, j < 8 → c0 j < 256) (hf : 200 < fu) {f : Nat → Nat} {w : Nat} (hw : w = 1 ∨ w = 2) (h : FO P c0 w f) {x : Nat} (hx : x < 64 * Tk P c0) (hf2 : x % 8 + w ≤ 8) (k39 : (Nat → Int32) → Option (Nat → Int32)) : ∀ (m n i : Nat) (as : Nat → Nat), i + m = 4 → m < n →
    ∃ a2, fr_X0_tallyFlip_2 fu (nI w) (aN f) (nI x) k39 n (aN as) (nI i) = k39 (aN a2) ∧ ∀ j, a2 j = as j + (if j / 4 = x / 8 % 8 ∧ i ≤ j % 4 ∧ KX P c0 w (j % 4) x = 5 then 1 else 0) := by
  have hT := Tk_le P c0
  intro m
  induction m with
  | zero =>
    intro n i as hi hn
    obtain ⟨n, rfl⟩ : ∃ z, n = z + 1 := ⟨n - 1, by omega⟩
    refine ⟨as, ?_, fun j => by rw [if_neg (fun z => by omega)]; rfl⟩
    rw [fr_X0_tallyFlip_2, if_pos (show (4 : Int32) ≤ nI i from nI_le (a := 4) (by omega) (by omega))]
  | succ m ih =>
    intro n i as hi hn
    obtain ⟨n, rfl⟩ : ∃ z, n = z + 1 := ⟨n - 1, by omega⟩
    rw [fr_X0_tallyFlip_2, if_neg (show ¬ (4 : Int32) ≤ nI i from nI_ge (b := 4) (by omega) (by decide)), c_silentX fu hP hc hf (by omega) hw h hx hf2, Option.bind_some]
    by_cases q : KX P c0 w i x = 5
    · have e4 : nI (x / 8 % 8) * (4 : Int32) + nI i = nI (4 * (x / 8 % 8) + i) := by rw [show (4 : Int32) = nI 4 from rfl, pk_mul, nI_add, Nat.mul_comm]
      have hin : inR (nI (4 * (x / 8 % 8) + i)) 32 := in_i (by omega) (by decide)
      rw [if_pos q, if_neg (show ¬ (1 : Int32) = 0 by decide), l_cellOf fu (by omega), Option.bind_some, e4, if_pos hin, if_pos hin, aN_at _ (by omega), nI_1, aN_up _ _ (by omega), nI_1]
      obtain ⟨a2, h1, h2⟩ := ih n (i + 1) (va_up as (4 * (x / 8 % 8) + i) (as (4 * (x / 8 % 8) + i) + 1)) (by omega) (by omega)
      refine ⟨a2, h1, fun j => ?_⟩
      rw [h2 j]
      by_cases z : j = 4 * (x / 8 % 8) + i
      · have y1 : j / 4 = x / 8 % 8 := by omega
        have y2 : j % 4 = i := by omega
        rw [if_neg (fun y => by omega), if_pos (show j / 4 = x / 8 % 8 ∧ i ≤ j % 4 ∧ KX P c0 w (j % 4) x = 5 from ⟨y1, by omega, by rw [y2]; exact q⟩), z, up_s]
      · rw [up_n _ _ z]
        congr 1
        by_cases y : j / 4 = x / 8 % 8 ∧ i ≤ j % 4 ∧ KX P c0 w (j % 4) x = 5
        · rw [if_pos y, if_pos (show j / 4 = x / 8 % 8 ∧ i + 1 ≤ j % 4 ∧ KX P c0 w (j % 4) x = 5 from ⟨y.1, by omega, y.2.2⟩)]
        · rw [if_neg y, if_neg (show ¬ (j / 4 = x / 8 % 8 ∧ i + 1 ≤ j % 4 ∧ KX P c0 w (j % 4) x = 5) from fun u => y ⟨u.1, by omega, u.2.2⟩)]
    · rw [if_neg q, if_pos rfl, nI_1]
      obtain ⟨a2, h1, h2⟩ := ih n (i + 1) as (by omega) (by omega)
      refine ⟨a2, h1, fun j => ?_⟩
      rw [h2 j]
      congr 1
      by_cases y : j / 4 = x / 8 % 8 ∧ i ≤ j % 4 ∧ KX P c0 w (j % 4) x = 5
      · rw [if_pos y, if_pos (show j / 4 = x / 8 % 8 ∧ i + 1 ≤ j % 4 ∧ KX P c0 w (j % 4) x = 5 from ⟨y.1, by
          rcases Nat.lt_or_ge i (j % 4) with u | u
          · exact u
          · exact absurd (by rw [show i = j % 4 by omega]; exact y.2.2) q, y.2.2⟩)]
      · rw [if_neg y, if_neg (show ¬ (j / 4 = x / 8 % 8 ∧ i + 1 ≤ j % 4 ∧ KX P c0 w (j % 4) x = 5) from fun u => y ⟨u.1, by omega, u.2.2⟩)]
theorem a_t1 (fu : Nat) {P : PG} {c0 : Nat → Nat} (hP : okP P) (hc : ∀ j, j < 8 → c0 j < 256) (hf : 200 < fu) {f : Nat → Nat} {w : Nat} (hw : w = 1 ∨ w = 2) (h : FO P c0 w f) (k51 : (Nat → Int32) → Option (Nat → Int32)) : ∀ (m n x : Nat) (as : Nat → Nat), x + m = 64 * Tk P c0 → m < n → (∀ j, j < 32 → as j = fb_ct (qS4 P c0 w j) x) →
    ∃ a2, fr_X0_tallySilent_23 fu (nI (Tk P c0)) (nI w) (aN f) k51 n (aN as) (nI x) = k51 (aN a2) ∧ ∀ j, j < 32 → a2 j = fb_ct (qS4 P c0 w j) (64 * Tk P c0) := by
  have hT := Tk_le P c0
  intro m
  induction m with
  | zero =>
    intro n x as hx hn hl
    obtain ⟨n, rfl⟩ : ∃ z, n = z + 1 := ⟨n - 1, by omega⟩
    refine ⟨as, ?_, fun j hj => by rw [hl j hj, show x = 64 * Tk P c0 by omega]⟩
    rw [fr_X0_tallySilent_23]
    unfold f_X2_codes
    rw [Option.bind_some, m64, if_pos (nI_le (by omega) (by omega))]
  | succ m ih =>
    intro n x as hx hn hl
    obtain ⟨n, rfl⟩ : ∃ z, n = z + 1 := ⟨n - 1, by omega⟩
    rw [fr_X0_tallySilent_23]
    unfold f_X2_codes
    rw [Option.bind_some, m64, if_neg (nI_ge (by omega) (by omega)), l_isFlip fu (by omega) (by omega), Option.bind_some]
    by_cases q : x % 8 + w ≤ 8
    · obtain ⟨a2, h1, h2⟩ := a_flip fu hP hc hf hw h (show x < 64 * Tk P c0 by omega) q (fun e => some e) 4 fu 0 as rfl (by omega)
      have h3 : f_X0_tallyFlip fu (nI w) (aN f) (aN as) (nI x) = some (aN a2) := h1
      rw [if_pos q, if_neg (show ¬ (1 : Int32) = 0 by decide), h3, Option.bind_some, nI_1]
      refine ih n (x + 1) a2 (by omega) (by omega) (fun j hj => ?_)
      rw [h2 j, fb_ct_succ, hl j hj]
      congr 1
      by_cases z : j / 4 = x / 8 % 8 ∧ 0 ≤ j % 4 ∧ KX P c0 w (j % 4) x = 5
      · rw [if_pos z, if_pos (show qS4 P c0 w j x = true by unfold qS4; rw [decide_eq_true z.1.symm, decide_eq_true (show x % 8 + w ≤ 8 ∧ KX P c0 w (j % 4) x = 5 from ⟨q, z.2.2⟩)]; rfl)]
      · rw [if_neg z, if_neg (show ¬ qS4 P c0 w j x = true from fun y => by
          unfold qS4 at y
          rw [Bool.and_eq_true, decide_eq_true_eq, decide_eq_true_eq] at y
          exact z ⟨y.1.symm, Nat.zero_le _, y.2.2⟩)]
    · rw [if_neg q, if_pos rfl, nI_1]
      refine ih n (x + 1) as (by omega) (by omega) (fun j hj => ?_)
      rw [fb_ct_succ, hl j hj, if_neg (show ¬ qS4 P c0 w j x = true from fun y => by
          unfold qS4 at y
          rw [Bool.and_eq_true, decide_eq_true_eq, decide_eq_true_eq] at y
          exact q y.2.1)]
      rfl
theorem a_tally (fu : Nat) {P : PG} {c0 : Nat → Nat} (hP : okP P) (hc : ∀ j, j < 8 → c0 j < 256) (hf : 200 < fu) (hF : 70000 < fu) {f : Nat → Nat} {w : Nat} (hw : w = 1 ∨ w = 2) (h : FO P c0 w f) (as : Nat → Int32) : ∃ a2, f_X0_tallySilent fu (nI (Tk P c0)) (nI w) (aN f) as = some (aN a2) ∧ ∀ c k, c < 8 → k < 4 → a2 (4 * c + k) = sS P c0 w c k := by
  have hT := Tk_le P c0
  obtain ⟨l0, e0⟩ := aN_all as
  obtain ⟨l1, h1, h2⟩ := a_t0 fu (fun e => fr_X0_tallySilent_23 fu (nI (Tk P c0)) (nI w) (aN f) (fun e => some e) fu e 0) 32 fu 0 l0 rfl (by omega) (fun j hj => absurd hj (Nat.not_lt_zero j))
  obtain ⟨l2, h3, h4⟩ := a_t1 fu hP hc hf hw h (fun e => some e) (64 * Tk P c0) fu 0 l1 (by omega) (by omega) (fun j hj => by rw [h2 j hj]; rfl)
  refine ⟨l2, ?_, fun c k hcc hk => ?_⟩
  · unfold f_X0_tallySilent
    rw [e0]
    exact h1.trans h3
  · rw [h4 _ (by omega)]
    unfold sS CT
    refine fb_ct_cong (fun y _ => ?_)
    unfold qS4
    rw [show (4 * c + k) / 4 = c by omega, show (4 * c + k) % 4 = k by omega]
/-! the fewest -/
theorem a_with (fu : Nat) {as af : Nat → Nat} {c p k : Nat} (hcc : c < 8) (hp : p ≤ 64) (hk : k < 4) (hpk : pr k ≤ p) : f_X0_fewestWith fu (aN as) (aN af) (nI c) (nI p) (nI k) = some (nI (as (4 * c + k) + af (65 * (c + 1) + (p - pr k)))) := by
  have e4 : nI c * (4 : Int32) + nI k = nI (4 * c + k) := by rw [show (4 : Int32) = nI 4 from rfl, pk_mul, nI_add, Nat.mul_comm]
  have e65 : (nI c + 1) * (65 : Int32) + nI p - pPr (nI k).toNatClampNeg = nI (65 * (c + 1) + (p - pr k)) := by
    rw [nI_clamp (by omega), pPr_n, nI_1, show (65 : Int32) = nI 65 from rfl, pk_mul, nI_add, pk_sub (by omega), Nat.mul_comm]
    congr 1
    omega
  unfold f_X0_fewestWith
  rw [e4, e65, if_pos (show inR (nI (4 * c + k)) 32 from in_i (by omega) (by decide)), if_pos (show inR (nI k) 4 from in_i hk (by decide)), if_pos (show inR (nI (65 * (c + 1) + (p - pr k))) 585 from in_i (by omega) (by decide)), aN_at _ (by omega), aN_at _ (by omega), nI_add]
theorem a_with2 (fu : Nat) {s : Nat → Nat → Nat} (hb : ∀ m p, m ≤ 8 → dG s m p ≤ 51200) {as af : Nat → Nat} {m p : Nat} (hm : m < 8) (hp : p ≤ 64) (ha : ∀ k, k < 4 → as (4 * (7 - m) + k) = s (7 - m) k) (hs6 : ∀ k, s (7 - m) k ≤ 6400) (hq : ∀ q, q ≤ p → af (65 * (7 - m + 1) + q) = dG s m q) {k : Nat} (hk : k < 4) (hpk : pr k ≤ p) : f_X0_fewestWith fu (aN as) (aN af) (nI (7 - m)) (nI p) (nI k) = some (nI (s (7 - m) k + dG s m (p - pr k))) := by
  rw [a_with fu (by omega) hp hk hpk, ha k hk, hq _ (by omega)]
theorem a_ffs (fu : Nat) {s : Nat → Nat → Nat} (hb : ∀ m p, m ≤ 8 → dG s m p ≤ 51200) {as af : Nat → Nat} {m p : Nat} (hm : m < 8) (hp : p ≤ 64) (ha : ∀ k, k < 4 → as (4 * (7 - m) + k) = s (7 - m) k) (hs6 : ∀ k, s (7 - m) k ≤ 6400) (hq : ∀ q, q ≤ p → af (65 * (7 - m + 1) + q) = dG s m q) (k46 : Int32 → Option Int32) (n : Nat) {k y : Nat} (hk : k < 4) (hy : y ≤ 60000) : fr_X0_fewestFrom_11 fu (aN as) (aN af) (nI (7 - m)) (nI p) k46 (n + 1) (nI y) (nI k) = fr_X0_fewestFrom_11 fu (aN as) (aN af) (nI (7 - m)) (nI p) k46 n (nI (if pr k ≤ p then mn (s (7 - m) k + dG s m (p - pr k)) y else y)) (nI (k + 1)) := by
  rw [fr_X0_fewestFrom_11, if_neg (show ¬ (4 : Int32) ≤ nI k from nI_ge (b := 4) (by omega) (by decide)), if_pos (show inR (nI k) 4 from in_i hk (by decide)), nI_clamp (by omega), pPr_n]
  have h1 := hb m (p - pr k) (by omega)
  have h2 := hs6 k
  by_cases q : pr k ≤ p
  · rw [if_neg (nI_nlt q (by omega)), a_with2 fu hb hm hp ha hs6 hq hk q, Option.bind_some, if_pos q, nI_1]
    unfold mn
    by_cases z : s (7 - m) k + dG s m (p - pr k) < y
    · rw [if_pos (nI_lt z (by omega)), if_pos z]
    · rw [if_neg (nI_nlt (by omega) (by omega)), if_neg z]
  · have : pr k ≤ 8 := by unfold pr; repeat' split
                          all_goals omega
    rw [if_pos (nI_lt (by omega) (by omega)), if_neg q, nI_1]
theorem mn_b (a b : Nat) {B : Nat} (h : b ≤ B) : mn a b ≤ B := Nat.le_trans (mn_l a b).2.1 h
theorem a_ff (fu : Nat) (hF : 200 < fu) {s : Nat → Nat → Nat} (hb : ∀ m p, m ≤ 8 → dG s m p ≤ 51200) {as af : Nat → Nat} {m p : Nat} (hm : m < 8) (hp : p ≤ 64) (ha : ∀ k, k < 4 → as (4 * (7 - m) + k) = s (7 - m) k) (hs6 : ∀ k, s (7 - m) k ≤ 6400) (hq : ∀ q, q ≤ p → af (65 * (7 - m + 1) + q) = dG s m q) : f_X0_fewestFrom fu (aN as) (aN af) (nI (7 - m)) (nI p) = some (nI (dG s (m + 1) p)) := by
  have h1 := hb m p (by omega)
  have h2 := hs6 0
  unfold f_X0_fewestFrom
  rw [show (0 : Int32) = nI 0 from rfl, a_with2 fu hb hm hp ha hs6 hq (by decide) (Nat.zero_le _), Option.bind_some]
  obtain ⟨n, hn⟩ : ∃ n, fu = n + 4 := ⟨fu - 4, by omega⟩
  have key : ∀ y3, fr_X0_fewestFrom_11 fu (aN as) (aN af) (nI (7 - m)) (nI p) (fun e => some e) (n + 1) (nI y3) (nI 4) = some (nI y3) := by
    intro y3
    rw [fr_X0_fewestFrom_11, if_pos (by decide)]
  have b0 : s (7 - m) 0 + dG s m (p - pr 0) ≤ 60000 := by have := hb m (p - pr 0) (by omega); omega
  have b1 : (if pr 1 ≤ p then mn (s (7 - m) 1 + dG s m (p - pr 1)) (s (7 - m) 0 + dG s m (p - pr 0)) else s (7 - m) 0 + dG s m (p - pr 0)) ≤ 60000 := by
    split
    · exact mn_b _ _ b0
    · exact b0
  have b2 : (if pr 2 ≤ p then mn (s (7 - m) 2 + dG s m (p - pr 2)) (if pr 1 ≤ p then mn (s (7 - m) 1 + dG s m (p - pr 1)) (s (7 - m) 0 + dG s m (p - pr 0)) else s (7 - m) 0 + dG s m (p - pr 0)) else (if pr 1 ≤ p then mn (s (7 - m) 1 + dG s m (p - pr 1)) (s (7 - m) 0 + dG s m (p - pr 0)) else s (7 - m) 0 + dG s m (p - pr 0))) ≤ 60000 := by
    split
    · exact mn_b _ _ b1
    · exact b1
  have e : fr_X0_fewestFrom_11 fu (aN as) (aN af) (nI (7 - m)) (nI p) (fun e => some e) (n + 4) (nI (s (7 - m) 0 + dG s m (p - pr 0))) (nI 1) = some (nI (dG s (m + 1) p)) := by
    rw [a_ffs fu hb hm hp ha hs6 hq _ (n + 3) (k := 1) (by decide) b0, a_ffs fu hb hm hp ha hs6 hq _ (n + 2) (k := 2) (by decide) b1, a_ffs fu hb hm hp ha hs6 hq _ (n + 1) (k := 3) (by decide) b2, key]
    rfl
  rw [← hn] at e
  exact e
