/-! THE SIMPLE CALLS -/
theorem okP_up {P : PG} (hP : okP P) {n i o x y : Nat} (hn : n ≤ 20) (hi : i < n) (hnP : n ≤ P.1 ∨ (n = P.1 + 1 ∧ i = P.1)) (ho : okO o x y) : okP (n, va_up P.2.1 i o, va_up P.2.2.1 i x, va_up P.2.2.2 i y) := by
  refine ⟨hn, fun j hj => ?_⟩
  show okO (va_up P.2.1 i o j) (va_up P.2.2.1 i x j) (va_up P.2.2.2 i y j)
  have hj2 : j < n := hj
  by_cases q : j = i
  · subst q
    rw [up_s, up_s, up_s]; exact ho
  · rw [up_n _ _ q, up_n _ _ q, up_n _ _ q]
    exact hP.2 j (by omega)
theorem x_order (fu : Nat) {P : PG} (hP : okP P) (st a0 a1 a2 : Int32) : ∃ (v st2 : Int32) (Q : PG), f_X6_order fu st (nI P.1) (aN P.2.1) (aN P.2.2.1) (aN P.2.2.2) a0 a1 a2 = some (v, st2, nI Q.1, aN Q.2.1, aN Q.2.2.1, aN Q.2.2.2) ∧ f_X7_order fu (nI P.1) (aN P.2.1) (aN P.2.2.1) (aN P.2.2.2) a0 a1 a2 = some (v, nI Q.1, aN Q.2.1, aN Q.2.2.1, aN Q.2.2.2) ∧ okP Q ∧ (st2 = 1 ∨ (st2 = st ∧ Q = P)) := by
  unfold f_X6_order f_X7_order
  have hn := hP.1
  rcases x_fit fu a0 a1 a2 with ⟨h1, h2⟩ | ⟨h1, h2, o, x, y, ho, hput⟩
  · rw [h1, h2, Option.bind_some, Option.bind_some, if_pos rfl, if_pos rfl]
    exact ⟨-102, st, P, rfl, rfl, hP, Or.inr ⟨rfl, rfl⟩⟩
  · rw [h1, h2, Option.bind_some, Option.bind_some, if_neg (show ¬ (1 : Int32) = 0 by decide), if_neg (show ¬ (1 : Int32) = 0 by decide)]
    by_cases q : P.1 < 20
    · obtain ⟨e1, e2⟩ := hput P.1 P.2.1 P.2.2.1 P.2.2.2 q
      rw [if_pos (show nI P.1 < (20 : Int32) from nI_lt (b := 20) q (by decide)), if_neg (show ¬ nI P.1 = (20 : Int32) from fun z => by have := (nI_eq (a := P.1) (b := 20) (by omega) (by decide)).mp z; omega), e1, e2, Option.bind_some, Option.bind_some, nI_1]
      exact ⟨_, 1, (P.1 + 1, va_up P.2.1 P.1 o, va_up P.2.2.1 P.1 x, va_up P.2.2.2 P.1 y), rfl, rfl, okP_up hP (by omega) (by omega) (Or.inr ⟨rfl, rfl⟩) ho, Or.inl rfl⟩
    · rw [if_neg (show ¬ nI P.1 < (20 : Int32) from nI_nlt (b := 20) (by omega) (by omega)), if_pos (show nI P.1 = (20 : Int32) by rw [show P.1 = 20 by omega]; rfl)]
      exact ⟨-104, st, P, rfl, rfl, hP, Or.inr ⟨rfl, rfl⟩⟩
theorem x_has (fu : Nat) (a : Int32) {n : Nat} (hn : n < 2 ^ 31) : (∃ j, j < n ∧ a = nI j ∧ f_X4_has fu (nI n) a = some 1 ∧ f_X7_in fu a 0 (nI n - 1) = some 1) ∨ (f_X4_has fu (nI n) a = some 0 ∧ f_X7_in fu a 0 (nI n - 1) = some 0) := by
  unfold f_X4_has
  rcases x_lt fu a hn with ⟨j, h1, rfl, h3, h4, h5⟩ | ⟨h1, h2⟩
  · rw [if_neg h3, if_neg (nI_ge h1 hn)]
    exact Or.inl ⟨j, h1, rfl, rfl, h5⟩
  · refine Or.inr ⟨?_, h2⟩
    rcases h1 with h | ⟨h, q⟩
    · rw [if_pos h]
    · obtain ⟨j, hj, rfl⟩ := nI_e h
      rw [if_neg h, if_pos (nI_le (by
        rcases Nat.lt_or_ge j n with w | w
        · exact absurd (nI_lt w hn) q
        · exact w) hj)]
theorem x_change (fu : Nat) {P : PG} (hP : okP P) (st a0 a1 a2 a3 : Int32) : ∃ (v st2 : Int32) (Q : PG), f_X6_change fu st (nI P.1) (aN P.2.1) (aN P.2.2.1) (aN P.2.2.2) a0 a1 a2 a3 = some (v, st2, aN Q.2.1, aN Q.2.2.1, aN Q.2.2.2) ∧ f_X7_change fu (nI P.1) (aN P.2.1) (aN P.2.2.1) (aN P.2.2.2) a0 a1 a2 a3 = some (v, aN Q.2.1, aN Q.2.2.1, aN Q.2.2.2) ∧ Q.1 = P.1 ∧ okP Q ∧ (st2 = 1 ∨ (st2 = st ∧ Q = P)) := by
  unfold f_X6_change f_X7_change
  have hn := hP.1
  rcases x_has fu a0 (n := P.1) (by omega) with ⟨j, hj, rfl, q1, q2⟩ | ⟨q1, q2⟩
  · rw [q1, q2, Option.bind_some, Option.bind_some, if_neg (show ¬ (1 : Int32) = 0 by decide), if_neg (show ¬ (1 : Int32) = 0 by decide)]
    rcases x_fit fu a1 a2 a3 with ⟨h1, h2⟩ | ⟨h1, h2, o, x, y, ho, hput⟩
    · rw [h1, h2, Option.bind_some, Option.bind_some, if_pos rfl, if_pos rfl]
      exact ⟨-102, st, P, rfl, rfl, rfl, hP, Or.inr ⟨rfl, rfl⟩⟩
    · obtain ⟨e1, e2⟩ := hput j P.2.1 P.2.2.1 P.2.2.2 (by omega)
      rw [h1, h2, Option.bind_some, Option.bind_some, if_neg (show ¬ (1 : Int32) = 0 by decide), if_neg (show ¬ (1 : Int32) = 0 by decide), e1, e2, Option.bind_some, Option.bind_some]
      exact ⟨1, 1, (P.1, va_up P.2.1 j o, va_up P.2.2.1 j x, va_up P.2.2.2 j y), rfl, rfl, rfl, okP_up hP hn hj (Or.inl (Nat.le_refl _)) ho, Or.inl rfl⟩
  · rw [q1, q2, Option.bind_some, Option.bind_some, if_pos rfl, if_pos rfl]
    exact ⟨-101, st, P, rfl, rfl, rfl, hP, Or.inr ⟨rfl, rfl⟩⟩
theorem x_cel (fu : Nat) {c0 : Nat → Nat} (hc : ∀ j, j < 8 → c0 j < 256) (st a0 a1 : Int32) : ∃ (v st2 : Int32) (d : Nat → Nat), f_X6_cell fu st (aN c0) a0 a1 = some (v, st2, aN d) ∧ f_X7_cell fu (aN c0) a0 a1 = some (v, aN d) ∧ (∀ j, j < 8 → d j < 256) ∧ (st2 = 1 ∨ (st2 = st ∧ d = c0)) := by
  unfold f_X6_cell f_X7_cell
  rcases x_cell fu a0 with ⟨c, hcc, rfl, q1, q2⟩ | ⟨q1, q2⟩
  · have hin : inR (nI c) 8 := in_i hcc (by decide)
    rw [q1, q2, Option.bind_some, Option.bind_some, if_neg (show ¬ (1 : Int32) = 0 by decide), if_neg (show ¬ (1 : Int32) = 0 by decide)]
    rcases x_byte fu a1 with ⟨y, hy, rfl, p1, -, p2, p3⟩ | ⟨p1, p2⟩
    · rw [if_neg p1, if_pos p2, p3, Option.bind_some, if_neg (show ¬ (1 : Int32) = 0 by decide), if_pos hin, if_pos hin, if_pos hin, if_pos hin, aN_up _ _ (by omega)]
      exact ⟨_, 1, va_up c0 c y, rfl, rfl, up_b hc hy, Or.inl rfl⟩
    · rw [p2, Option.bind_some, if_pos rfl]
      refine ⟨-102, st, c0, ?_, rfl, hc, Or.inr ⟨rfl, rfl⟩⟩
      rcases p1 with p | ⟨p, -, p3⟩
      · rw [if_pos p]
      · rw [if_neg p, if_neg p3]
  · rw [q1, q2, Option.bind_some, Option.bind_some, if_pos rfl, if_pos rfl]
    exact ⟨-101, st, c0, rfl, rfl, hc, Or.inr ⟨rfl, rfl⟩⟩
theorem x_check (fu : Nat) {kc : Nat → Nat} (hk : ∀ j, j < 8 → kc j < 4) (a0 a1 : Int32) : ∃ (v : Int32) (d : Nat → Nat), f_X6_check fu (aN kc) a0 a1 = some (v, aN d) ∧ f_X7_check fu (aN kc) a0 a1 = some (v, aN d) ∧ (∀ j, j < 8 → d j < 4) := by
  unfold f_X6_check f_X7_check
  rcases x_cell fu a0 with ⟨c, hcc, rfl, q1, q2⟩ | ⟨q1, q2⟩
  · have hin : inR (nI c) 8 := in_i hcc (by decide)
    rw [q1, q2, Option.bind_some, Option.bind_some, if_neg (show ¬ (1 : Int32) = 0 by decide), if_neg (show ¬ (1 : Int32) = 0 by decide)]
    rcases x_le fu a1 (m := 3) (by decide) with ⟨y, hy, rfl, p1, p2, p3⟩ | ⟨p1, p2⟩
    · rw [if_neg p1, if_pos (show nI y < (4 : Int32) from nI_lt (b := 4) (by omega) (by decide)), show (3 : Int32) = nI 3 from rfl, p3, Option.bind_some, if_neg (show ¬ (1 : Int32) = 0 by decide), if_pos hin, if_pos hin, aN_up _ _ (by omega)]
      exact ⟨_, va_up kc c y, rfl, rfl, up_b hk (by omega)⟩
    · rw [show (3 : Int32) = nI 3 from rfl, p2, Option.bind_some, if_pos rfl]
      refine ⟨-102, kc, ?_, rfl, hk⟩
      rcases p1 with p | ⟨p, p3⟩
      · rw [if_pos p]
      · obtain ⟨j, hj, rfl⟩ := nI_e p
        rw [if_neg p, if_neg (show ¬ nI j < (4 : Int32) from nI_nlt (a := j) (b := 4) (by
          rcases Nat.lt_or_ge j 4 with u | u
          · exact absurd (nI_le (show j ≤ 3 by omega) (by decide)) p3
          · exact u) hj)]
  · rw [q1, q2, Option.bind_some, Option.bind_some, if_pos rfl, if_pos rfl]
    exact ⟨-101, kc, rfl, rfl, hk⟩
theorem c_priceL (fu : Nat) {kc : Nat → Nat} (hk : ∀ j, j < 8 → kc j < 4) (k : Int32 → Option Int32) : ∀ (m n i : Nat), i + m = 8 → m < n → fr_X6_priceOf_4 fu (aN kc) k n (nI (fb_sm (fun c => pr (kc c)) i)) (nI i) = k (nI (fb_sm (fun c => pr (kc c)) 8)) := by
  intro m
  induction m with
  | zero =>
    intro n i hi hn
    obtain ⟨n, rfl⟩ : ∃ z, n = z + 1 := ⟨n - 1, by omega⟩
    rw [fr_X6_priceOf_4, if_pos (show (8 : Int32) ≤ nI i from nI_le (a := 8) (by omega) (by omega)), show i = 8 by omega]
  | succ m ih =>
    intro n i hi hn
    obtain ⟨n, rfl⟩ : ∃ z, n = z + 1 := ⟨n - 1, by omega⟩
    have h4 := hk i (by omega)
    rw [fr_X6_priceOf_4, if_neg (show ¬ (8 : Int32) ≤ nI i from nI_ge (b := 8) (by omega) (by decide)), if_pos (show inR (nI i) 8 from in_i (by omega) (by decide)), aN_at _ (by omega), if_pos (show inR (nI (kc i)) 4 from in_i h4 (by decide)), nI_clamp (by omega), pPr_n, nI_add, nI_1]
    exact ih n (i + 1) (by omega) (by omega)
theorem z_priceL (fu : Nat) {kc : Nat → Nat} (hk : ∀ j, j < 8 → kc j < 4) (k : Int32 → Option Int32) : ∀ (m n i : Nat), i + m = 8 → m < n → fr_X7_costs_4 fu (aN kc) k n (nI (fb_sm (fun c => pr (kc c)) i)) (nI i) = k (nI (fb_sm (fun c => pr (kc c)) 8)) := by
  intro m
  induction m with
  | zero =>
    intro n i hi hn
    obtain ⟨n, rfl⟩ : ∃ z, n = z + 1 := ⟨n - 1, by omega⟩
    rw [fr_X7_costs_4, if_pos (show (8 : Int32) ≤ nI i from nI_le (a := 8) (by omega) (by omega)), show i = 8 by omega]
  | succ m ih =>
    intro n i hi hn
    obtain ⟨n, rfl⟩ : ∃ z, n = z + 1 := ⟨n - 1, by omega⟩
    rw [fr_X7_costs_4, if_neg (show ¬ (8 : Int32) ≤ nI i from nI_ge (b := 8) (by omega) (by decide)), if_pos (show inR (nI i) 8 from in_i (by omega) (by decide)), aN_at _ (by omega), l_price fu (hk i (by omega)), Option.bind_some, nI_add, nI_1]
    exact ih n (i + 1) (by omega) (by omega)
theorem x_price (fu : Nat) (hf : 200 < fu) {kc : Nat → Nat} (hk : ∀ j, j < 8 → kc j < 4) : f_X6_priceOf fu (aN kc) = some (nI (fb_sm (fun c => pr (kc c)) 8)) ∧ f_X7_costs fu (aN kc) = some (nI (fb_sm (fun c => pr (kc c)) 8)) :=
  ⟨c_priceL fu hk (fun e => some e) 8 fu 0 rfl (by omega), z_priceL fu hk (fun e => some e) 8 fu 0 rfl (by omega)⟩
theorem x_costs (fu : Nat) (hf : 200 < fu) {kc : Nat → Nat} (hk : ∀ j, j < 8 → kc j < 4) : ∃ v, f_X6_costs fu (aN kc) = some v ∧ f_X7_costs fu (aN kc) = some v := by
  obtain ⟨h1, h2⟩ := x_price fu hf hk
  unfold f_X6_costs
  rw [h1, h2, Option.bind_some]
  exact ⟨_, rfl, rfl⟩
theorem x_orNone (fu : Nat) {ap ze : Nat → Int32} (hag : AG ap ze) (gv : Int32) {c : Nat} (hcc : c < 8) : ∃ v, f_X6_chosenOrNone fu gv ap (nI c) = some v ∧ f_X7_chosen fu gv ze (nI c) = some v := by
  obtain ⟨pk, hp⟩ := hag
  have hin : inR (nI c) 8 := in_i hcc (by decide)
  unfold f_X6_chosenOrNone f_X7_chosen
  rcases x_cell fu (nI c) with ⟨d, hd, e, q1, q2⟩ | ⟨q1, q2⟩
  · rw [q2, Option.bind_some, if_neg (show ¬ (1 : Int32) = 0 by decide)]
    by_cases q : gv = 0
    · rw [if_pos q, if_pos q]; exact ⟨_, rfl, rfl⟩
    · rw [if_neg q, if_neg q, if_pos hin, if_pos hin, nI_clamp (by omega), (hp c hcc).1, (hp c hcc).2.1]; exact ⟨_, rfl, rfl⟩
  · exfalso
    rw [l_isCell fu c (by omega), if_pos hcc] at q1
    exact absurd (Option.some.inj q1) (by decide)
theorem x_chosen (fu : Nat) {ap ze : Nat → Int32} (hag : AG ap ze) (gv a : Int32) : ∃ v, f_X6_chosen fu gv ap a = some v ∧ f_X7_chosen fu gv ze a = some v := by
  unfold f_X6_chosen
  rcases x_cell fu a with ⟨c, hcc, rfl, q1, q2⟩ | ⟨q1, q2⟩
  · obtain ⟨v, h1, h2⟩ := x_orNone fu hag gv hcc
    rw [q1, Option.bind_some, if_neg (show ¬ (1 : Int32) = 0 by decide), h1, h2, Option.bind_some]
    exact ⟨v, rfl, rfl⟩
  · unfold f_X7_chosen
    rw [q1, q2, Option.bind_some, Option.bind_some, if_pos rfl, if_pos rfl]
    exact ⟨_, rfl, rfl⟩
theorem c_takeL (fu : Nat) {ap : Nat → Int32} {pk : Nat → Nat} (hp : ∀ j, j < 8 → ap j = nI (pk j)) (k : (Nat → Int32) → Option (Int32 × (Nat → Int32))) : ∀ (m n i : Nat) (kc : Nat → Nat), i + m = 8 → m < n → fr_X6_take_14 fu ap k n (aN kc) (nI i) = k (aN (fun j => if i ≤ j ∧ j < 8 then pk j else kc j)) := by
  intro m
  induction m with
  | zero =>
    intro n i kc hi hn
    obtain ⟨n, rfl⟩ : ∃ z, n = z + 1 := ⟨n - 1, by omega⟩
    rw [fr_X6_take_14, if_pos (show (8 : Int32) ≤ nI i from nI_le (a := 8) (by omega) (by omega)), show (fun j => if i ≤ j ∧ j < 8 then pk j else kc j) = kc from funext (fun j => if_neg (by omega))]
  | succ m ih =>
    intro n i kc hi hn
    obtain ⟨n, rfl⟩ : ∃ z, n = z + 1 := ⟨n - 1, by omega⟩
    have hin : inR (nI i) 8 := in_i (by omega) (by decide)
    rw [fr_X6_take_14, if_neg (show ¬ (8 : Int32) ≤ nI i from nI_ge (b := 8) (by omega) (by decide)), if_pos hin, if_pos hin, show ap (nI i).toNatClampNeg = nI (pk i) by rw [nI_clamp (by omega)]; exact hp i (by omega), aN_up _ _ (by omega), nI_1, ih n (i + 1) _ (by omega) (by omega)]
    congr 2
    funext j
    by_cases q : j = i
    · subst q
      rw [if_neg (by omega), if_pos (show j ≤ j ∧ j < 8 by omega), up_s]
    · rw [up_n _ _ q]
      by_cases z : i + 1 ≤ j ∧ j < 8
      · rw [if_pos z, if_pos (show i ≤ j ∧ j < 8 by omega)]
      · rw [if_neg z, if_neg (show ¬ (i ≤ j ∧ j < 8) by omega)]
theorem z_takeL (fu : Nat) {ap : Nat → Int32} {pk : Nat → Nat} (hp : ∀ j, j < 8 → ap j = nI (pk j)) (k : (Nat → Int32) → Option (Int32 × (Nat → Int32))) : ∀ (m n i : Nat) (kc : Nat → Nat), i + m = 8 → m < n → fr_X7_take_11 fu ap k n (aN kc) (nI i) = k (aN (fun j => if i ≤ j ∧ j < 8 then pk j else kc j)) := by
  intro m
  induction m with
  | zero =>
    intro n i kc hi hn
    obtain ⟨n, rfl⟩ : ∃ z, n = z + 1 := ⟨n - 1, by omega⟩
    rw [fr_X7_take_11, if_pos (show (8 : Int32) ≤ nI i from nI_le (a := 8) (by omega) (by omega)), show (fun j => if i ≤ j ∧ j < 8 then pk j else kc j) = kc from funext (fun j => if_neg (by omega))]
  | succ m ih =>
    intro n i kc hi hn
    obtain ⟨n, rfl⟩ : ∃ z, n = z + 1 := ⟨n - 1, by omega⟩
    have hin : inR (nI i) 8 := in_i (by omega) (by decide)
    rw [fr_X7_take_11, if_neg (show ¬ (8 : Int32) ≤ nI i from nI_ge (b := 8) (by omega) (by decide)), if_pos hin, if_pos hin, show ap (nI i).toNatClampNeg = nI (pk i) by rw [nI_clamp (by omega)]; exact hp i (by omega), aN_up _ _ (by omega), nI_1, ih n (i + 1) _ (by omega) (by omega)]
    congr 2
    funext j
    by_cases q : j = i
    · subst q
      rw [if_neg (by omega), if_pos (show j ≤ j ∧ j < 8 by omega), up_s]
    · rw [up_n _ _ q]
      by_cases z : i + 1 ≤ j ∧ j < 8
      · rw [if_pos z, if_pos (show i ≤ j ∧ j < 8 by omega)]
      · rw [if_neg z, if_neg (show ¬ (i ≤ j ∧ j < 8) by omega)]
theorem x_take (fu : Nat) (hf : 200 < fu) {ap ze : Nat → Int32} (hag : AG ap ze) {kc : Nat → Nat} (hk : ∀ j, j < 8 → kc j < 4) (gv : Int32) : ∃ (v : Int32) (d : Nat → Nat), f_X6_take fu (aN kc) gv ap = some (v, aN d) ∧ f_X7_take fu gv (aN kc) ze = some (v, aN d) ∧ (∀ j, j < 8 → d j < 4) := by
  unfold f_X6_take f_X7_take
  by_cases q : gv = 0
  · rw [if_pos q, if_pos q]; exact ⟨-1, kc, rfl, rfl, hk⟩
  · obtain ⟨pk, hp⟩ := hag
    have hd : ∀ j, j < 8 → (fun j => if 0 ≤ j ∧ j < 8 then pk j else kc j) j < 4 := fun j hj => by
      show (if 0 ≤ j ∧ j < 8 then pk j else kc j) < 4
      rw [if_pos (show 0 ≤ j ∧ j < 8 by omega)]; exact (hp j hj).2.2
    obtain ⟨p1, p2⟩ := x_price fu hf hd
    rw [if_neg q, if_neg q, show (0 : Int32) = nI 0 from rfl, c_takeL fu (fun j hj => (hp j hj).1) _ 8 fu 0 kc rfl (by omega), z_takeL fu (fun j hj => (hp j hj).2.1) _ 8 fu 0 kc rfl (by omega), p1, p2, Option.bind_some]
    exact ⟨_, _, rfl, rfl, hd⟩
theorem x_about (fu : Nat) {P : PG} (hP : okP P) (a0 a1 : Int32) : ∃ v, f_X6_about fu (nI P.1) (aN P.2.1) (aN P.2.2.1) (aN P.2.2.2) a0 a1 = some v ∧ f_X7_about fu (nI P.1) (aN P.2.1) (aN P.2.2.1) (aN P.2.2.2) a0 a1 = some v := by
  unfold f_X6_about f_X7_about
  have hn := hP.1
  rcases x_has fu a0 (n := P.1) (by omega) with ⟨j, hj, rfl, q1, q2⟩ | ⟨q1, q2⟩
  · have hin : inR (nI j) 20 := in_i (by omega) (by decide)
    rw [q1, q2, Option.bind_some, Option.bind_some, if_neg (show ¬ (1 : Int32) = 0 by decide), if_neg (show ¬ (1 : Int32) = 0 by decide)]
    unfold f_X7_orderOf
    rw [if_pos hin, if_pos hin, if_pos hin]
    rcases x_le fu a1 (m := 2) (by decide) with ⟨y, hy, rfl, p1, p2, p3⟩ | ⟨p1, p2⟩
    · rw [show (2 : Int32) = nI 2 from rfl, p3, Option.bind_some, if_neg (show ¬ (1 : Int32) = 0 by decide)]
      rcases (show y = 0 ∨ y = 1 ∨ y = 2 by omega) with rfl | rfl | rfl
      · exact ⟨_, rfl, rfl⟩
      · exact ⟨_, rfl, rfl⟩
      · exact ⟨_, rfl, rfl⟩
    · have hno : ∀ o, o ≤ 2 → ¬ a1 = nI o := by
        intro o ho e
        subst e
        rcases p1 with q | ⟨-, q⟩
        · exact nI_pos (by omega) q
        · exact q (nI_le ho (by decide))
      rw [if_neg (show ¬ a1 = (0 : Int32) from hno 0 (by decide)), if_neg (show ¬ a1 = (1 : Int32) from hno 1 (by decide)), if_neg (show ¬ a1 = (2 : Int32) from hno 2 (by decide)), show (2 : Int32) = nI 2 from rfl, p2, Option.bind_some, if_pos rfl]
      exact ⟨_, rfl, rfl⟩
  · rw [q1, q2, Option.bind_some, Option.bind_some, if_pos rfl, if_pos rfl]
    exact ⟨_, rfl, rfl⟩
theorem c_sizeL (fu : Nat) {kc : Nat → Nat} (hk : ∀ j, j < 8 → kc j < 4) (k : Int32 → Option Int32) : ∀ (m n i : Nat), i + m = 8 → m < n → fr_X6_checkedCells_4 fu (aN kc) k n (nI (fb_ct (fun c => decide (¬ kc c = 0)) i)) (nI i) = k (nI (fb_ct (fun c => decide (¬ kc c = 0)) 8)) := by
  intro m
  induction m with
  | zero =>
    intro n i hi hn
    obtain ⟨n, rfl⟩ : ∃ z, n = z + 1 := ⟨n - 1, by omega⟩
    rw [fr_X6_checkedCells_4, if_pos (show (8 : Int32) ≤ nI i from nI_le (a := 8) (by omega) (by omega)), show i = 8 by omega]
  | succ m ih =>
    intro n i hi hn
    obtain ⟨n, rfl⟩ : ∃ z, n = z + 1 := ⟨n - 1, by omega⟩
    have h4 := hk i (by omega)
    have ih2 := ih n (i + 1) (by omega) (by omega)
    rw [fb_ct_succ] at ih2
    rw [fr_X6_checkedCells_4, if_neg (show ¬ (8 : Int32) ≤ nI i from nI_ge (b := 8) (by omega) (by decide)), if_pos (show inR (nI i) 8 from in_i (by omega) (by decide)), aN_at _ (by omega), nI_1, nI_1]
    by_cases q : kc i = 0
    · rw [decide_eq_false (show ¬ ¬ kc i = 0 from fun z => z q)] at ih2
      rw [if_pos (show nI (kc i) = (0 : Int32) by rw [q]; rfl)]
      exact ih2
    · rw [decide_eq_true q] at ih2
      rw [if_neg (show ¬ nI (kc i) = (0 : Int32) from fun z => q ((nI_eq (b := 0) (by omega) (by decide)).mp z))]
      exact ih2
theorem z_sizeL (fu : Nat) {kc : Nat → Nat} (hk : ∀ j, j < 8 → kc j < 4) (a : Int32) (k : Int32 → Option Int32) : ∀ (m n i : Nat), i + m = 8 → m < n → fr_X7_size_4 fu (aN kc) a k n (nI (fb_ct (fun c => decide (¬ kc c = 0)) i)) (nI i) = k (nI (fb_ct (fun c => decide (¬ kc c = 0)) 8)) := by
  intro m
  induction m with
  | zero =>
    intro n i hi hn
    obtain ⟨n, rfl⟩ : ∃ z, n = z + 1 := ⟨n - 1, by omega⟩
    rw [fr_X7_size_4, if_pos (show (8 : Int32) ≤ nI i from nI_le (a := 8) (by omega) (by omega)), show i = 8 by omega]
  | succ m ih =>
    intro n i hi hn
    obtain ⟨n, rfl⟩ : ∃ z, n = z + 1 := ⟨n - 1, by omega⟩
    have h4 := hk i (by omega)
    have ih2 := ih n (i + 1) (by omega) (by omega)
    rw [fb_ct_succ] at ih2
    rw [fr_X7_size_4, if_neg (show ¬ (8 : Int32) ≤ nI i from nI_ge (b := 8) (by omega) (by decide)), if_pos (show inR (nI i) 8 from in_i (by omega) (by decide)), aN_at _ (by omega), nI_1, nI_1]
    by_cases q : kc i = 0
    · rw [decide_eq_false (show ¬ ¬ kc i = 0 from fun z => z q)] at ih2
      rw [if_pos (show nI (kc i) ≤ (0 : Int32) by rw [q]; decide), show (0 : Int32) = nI 0 from rfl, nI_add]
      exact ih2
    · rw [decide_eq_true q] at ih2
      rw [if_neg (show ¬ nI (kc i) ≤ (0 : Int32) from nI_ge (a := 0) (by omega) (by omega))]
      exact ih2
theorem x_size (fu : Nat) (hf : 200 < fu) {kc : Nat → Nat} (hk : ∀ j, j < 8 → kc j < 4) (s n a : Int32) : ∃ v, f_X6_size fu s n (aN kc) a = some v ∧ f_X7_size fu n s (aN kc) a = some v := by
  have h1 : f_X6_checkedCells fu (aN kc) = some (nI (fb_ct (fun c => decide (¬ kc c = 0)) 8)) := c_sizeL fu hk (fun e => some e) 8 fu 0 rfl (by omega)
  have h2 := z_sizeL fu hk a (fun e => (if a = 0 then some n else (if a = 1 then some e else (if a = 2 then some s else some (-102))))) 8 fu 0 rfl (by omega)
  have h3 : f_X7_size fu n s (aN kc) a = (if a = 0 then some n else (if a = 1 then some (nI (fb_ct (fun c => decide (¬ kc c = 0)) 8)) else (if a = 2 then some s else some (-102)))) := h2
  unfold f_X6_size
  rw [h1, h3, Option.bind_some]
  by_cases q0 : a = 0
  · rw [if_pos q0]; exact ⟨_, rfl, rfl⟩
  · rw [if_neg q0]
    by_cases q1 : a = 1
    · rw [if_pos q1]; exact ⟨_, rfl, rfl⟩
    · rw [if_neg q1]
      by_cases q2 : a = 2
      · rw [if_pos q2]; exact ⟨_, rfl, rfl⟩
      · rw [if_neg q2]; exact ⟨_, rfl, rfl⟩
