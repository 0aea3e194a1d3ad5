/-! DIGEST -/
def hS (P : PG) (h : Int64) (i : Nat) : Int64 := ((31 : Int64) * (((31 : Int64) * (((31 : Int64) * h) + (Int32.toInt64 (nI (P.2.1 i))))) + (Int32.toInt64 (nI (P.2.2.1 i))))) + (Int32.toInt64 (nI (P.2.2.2 i)))
def hP9 (P : PG) : Int64 → Nat → Nat → Int64
  | h, _, 0 => h
  | h, i, m + 1 => hP9 P (hS P h i) (i + 1) m
abbrev R17 : Type := Int64 × M16
theorem c_dig6 (fu : Nat) {P : PG} (hP : okP P) (k : Int64 → Option R17) : ∀ (m n i : Nat) (h : Int64), i + m = P.1 → m < n → fr_X6_digest_6 fu (nI P.1) (aN P.2.1) (aN P.2.2.1) (aN P.2.2.2) k n h (nI i) = k (hP9 P h i m) := by
  have hn := hP.1
  intro m
  induction m with
  | zero =>
    intro n i h hi hn2
    obtain ⟨n, rfl⟩ : ∃ z, n = z + 1 := ⟨n - 1, by omega⟩
    rw [fr_X6_digest_6, if_pos (nI_le (by omega) (by omega))]
    rfl
  | succ m ih =>
    intro n i h hi hn2
    obtain ⟨n, rfl⟩ : ∃ z, n = z + 1 := ⟨n - 1, by omega⟩
    have hin : inR (nI i) 20 := in_i (by omega) (by decide)
    rw [fr_X6_digest_6, if_neg (nI_ge (by omega) (by omega)), if_pos hin, if_pos hin, if_pos hin, aN_at _ (by omega), aN_at _ (by omega), aN_at _ (by omega), nI_1]
    exact ih n (i + 1) _ (by omega) (by omega)
abbrev R18 : Type := Int64 × Int32 × Int32 × Int32 × Int32 × Int32 × Int32 × Int32 × Int32 × Int32 × Int32 × Int32 × Int32 × Int32 × Int64 × (Nat → Int32) × (Nat → Int32) × (Nat → Int32)
theorem z_dig19 (fu : Nat) (hf : 200 < fu) {P : PG} {i : Nat} (hi : i < 20) (k : Int64 → Option R18) (h : Int64) : fr_X7_digest_19 fu (aN P.2.1) (aN P.2.2.1) (aN P.2.2.2) (nI i) k fu h 0 = k (hS P h i) := by
  have hin : inR (nI i) 20 := in_i hi (by decide)
  obtain ⟨n, hn⟩ : ∃ n, fu = n + 4 := ⟨fu - 4, by omega⟩
  have e0 : f_X7_orderOf fu (aN P.2.1) (aN P.2.2.1) (aN P.2.2.2) (nI i) 0 = some (nI (P.2.1 i)) := by
    unfold f_X7_orderOf
    rw [if_pos rfl, if_pos hin, aN_at _ (by omega)]
  have e1 : f_X7_orderOf fu (aN P.2.1) (aN P.2.2.1) (aN P.2.2.2) (nI i) (0 + 1) = some (nI (P.2.2.1 i)) := by
    unfold f_X7_orderOf
    rw [if_neg (by decide), if_pos (by decide), if_pos hin, aN_at _ (by omega)]
  have e2 : f_X7_orderOf fu (aN P.2.1) (aN P.2.2.1) (aN P.2.2.2) (nI i) (0 + 1 + 1) = some (nI (P.2.2.2 i)) := by
    unfold f_X7_orderOf
    rw [if_neg (by decide), if_neg (by decide), if_pos hin, aN_at _ (by omega)]
  have key : fr_X7_digest_19 fu (aN P.2.1) (aN P.2.2.1) (aN P.2.2.2) (nI i) k (n + 4) h 0 = k (hS P h i) := by
    unfold f_X7_mix at *
    rw [fr_X7_digest_19, if_neg (by decide), e0, Option.bind_some]
    unfold f_X7_mix
    rw [Option.bind_some, fr_X7_digest_19, if_neg (by decide), e1, Option.bind_some]
    unfold f_X7_mix
    rw [Option.bind_some, fr_X7_digest_19, if_neg (by decide), e2, Option.bind_some]
    unfold f_X7_mix
    rw [Option.bind_some, fr_X7_digest_19, if_pos (by decide)]
    rfl
  rw [← hn] at key
  exact key
theorem z_dig9 (fu : Nat) (hf : 200 < fu) {P : PG} (hP : okP P) (k : Int64 → Option R18) : ∀ (m n i : Nat) (h : Int64), i + m = P.1 → m < n → fr_X7_digest_9 fu (nI P.1) (aN P.2.1) (aN P.2.2.1) (aN P.2.2.2) k n h (nI i) = k (hP9 P h i m) := by
  have hn := hP.1
  intro m
  induction m with
  | zero =>
    intro n i h hi hn2
    obtain ⟨n, rfl⟩ : ∃ z, n = z + 1 := ⟨n - 1, by omega⟩
    rw [fr_X7_digest_9, if_pos (nI_le (by omega) (by omega))]
    rfl
  | succ m ih =>
    intro n i h hi hn2
    obtain ⟨n, rfl⟩ : ∃ z, n = z + 1 := ⟨n - 1, by omega⟩
    rw [fr_X7_digest_9, if_neg (nI_ge (by omega) (by omega)), z_dig19 fu hf (by omega), nI_1]
    exact ih n (i + 1) _ (by omega) (by omega)
def hC (c0 kc : Nat → Nat) (cv : Nat → Int32) (h : Int64) (c : Nat) : Int64 := ((31 : Int64) * (((31 : Int64) * (((31 : Int64) * h) + (Int32.toInt64 (nI (c0 c))))) + (Int32.toInt64 (nI (kc c))))) + (Int32.toInt64 (cv c))
def hC9 (c0 kc : Nat → Nat) (cv : Nat → Int32) : Int64 → Nat → Nat → Int64
  | h, _, 0 => h
  | h, i, m + 1 => hC9 c0 kc cv (hC c0 kc cv h i) (i + 1) m
theorem c_dig76 (fu : Nat) {c0 kc : Nat → Nat} {cv : Nat → Int32} {gv : Int32} {ap : Nat → Int32} (hv : ∀ c, c < 8 → f_X6_chosenOrNone fu gv ap (nI c) = some (cv c)) (k : Int64 → Option R17) : ∀ (m n i : Nat) (h : Int64), i + m = 8 → m < n → fr_X6_digest_76 fu (aN c0) (aN kc) gv ap k n h (nI i) = k (hC9 c0 kc cv h i m) := by
  intro m
  induction m with
  | zero =>
    intro n i h hi hn2
    obtain ⟨n, rfl⟩ : ∃ z, n = z + 1 := ⟨n - 1, by omega⟩
    rw [fr_X6_digest_76, if_pos (show (8 : Int32) ≤ nI i from nI_le (a := 8) (by omega) (by omega))]
    rfl
  | succ m ih =>
    intro n i h hi hn2
    obtain ⟨n, rfl⟩ : ∃ z, n = z + 1 := ⟨n - 1, by omega⟩
    have hin : inR (nI i) 8 := in_i (by omega) (by decide)
    rw [fr_X6_digest_76, if_neg (show ¬ (8 : Int32) ≤ nI i from nI_ge (b := 8) (by omega) (by decide)), if_pos hin, if_pos hin, hv i (by omega), Option.bind_some, aN_at _ (by omega), aN_at _ (by omega), nI_1]
    exact ih n (i + 1) _ (by omega) (by omega)
theorem z_dig49 (fu : Nat) {c0 kc : Nat → Nat} {cv : Nat → Int32} {gv : Int32} {ze : Nat → Int32} (hv : ∀ c, c < 8 → f_X7_chosen fu gv ze (nI c) = some (cv c)) (k : Int64 → Option R18) : ∀ (m n i : Nat) (h : Int64), i + m = 8 → m < n → fr_X7_digest_49 fu gv (aN c0) (aN kc) ze k n h (nI i) = k (hC9 c0 kc cv h i m) := by
  intro m
  induction m with
  | zero =>
    intro n i h hi hn2
    obtain ⟨n, rfl⟩ : ∃ z, n = z + 1 := ⟨n - 1, by omega⟩
    rw [fr_X7_digest_49, if_pos (show (8 : Int32) ≤ nI i from nI_le (a := 8) (by omega) (by omega))]
    rfl
  | succ m ih =>
    intro n i h hi hn2
    obtain ⟨n, rfl⟩ : ∃ z, n = z + 1 := ⟨n - 1, by omega⟩
    have hin : inR (nI i) 8 := in_i (by omega) (by decide)
    rw [fr_X7_digest_49, if_neg (show ¬ (8 : Int32) ≤ nI i from nI_ge (b := 8) (by omega) (by decide)), if_pos hin]
    unfold f_X7_mix
    rw [Option.bind_some, if_pos hin, Option.bind_some, hv i (by omega), Option.bind_some, Option.bind_some, aN_at _ (by omega), aN_at _ (by omega), nI_1]
    exact ih n (i + 1) _ (by omega) (by omega)
theorem z_run (fu : Nat) {P : PG} {c0 : Nat → Nat} (hP : okP P) (hc : ∀ j, j < 8 → c0 j < 256) (hf : 200 < fu) (lc lo : Int32) (Z : Z16) : ∃ W : Z16, f_X7_run fu (nI P.1) Z.1 Z.2.1 Z.2.2.1 Z.2.2.2.1 Z.2.2.2.2.1 Z.2.2.2.2.2.1 Z.2.2.2.2.2.2.1 Z.2.2.2.2.2.2.2.1 Z.2.2.2.2.2.2.2.2.1 lc lo Z.2.2.2.2.2.2.2.2.2.1 Z.2.2.2.2.2.2.2.2.2.2.1 Z.2.2.2.2.2.2.2.2.2.2.2.1 Z.2.2.2.2.2.2.2.2.2.2.2.2.1 (aN P.2.1) (aN P.2.2.1) (aN P.2.2.2) (aN c0) Z.2.2.2.2.2.2.2.2.2.2.2.2.2.1 Z.2.2.2.2.2.2.2.2.2.2.2.2.2.2.1 Z.2.2.2.2.2.2.2.2.2.2.2.2.2.2.2 = some (nI (qO (Pl P c0 100).e), W) ∧ ZP P c0 W := by
  obtain ⟨W, h4, h5, -⟩ := z_plain fu hP hc hf lc lo Z
  unfold f_X7_run
  rw [h4, Option.bind_some]
  refine ⟨W, ?_, h5⟩
  have e11 := h5.1
  rcases e3_of fu hP hc hf with q | q | q
  · rw [if_pos (show W.2.2.2.2.2.2.2.2.2.2.1 = 1 by rw [e11, q]; rfl), q]; rfl
  · rw [if_neg (show ¬ W.2.2.2.2.2.2.2.2.2.2.1 = 1 by rw [e11, q]; decide), if_pos (show W.2.2.2.2.2.2.2.2.2.2.1 = 3 by rw [e11, q]; rfl), q]; rfl
  · rw [if_neg (show ¬ W.2.2.2.2.2.2.2.2.2.2.1 = 1 by rw [e11, q]; decide), if_neg (show ¬ W.2.2.2.2.2.2.2.2.2.2.1 = 3 by rw [e11, q]; decide), q]; rfl
theorem x_digest (fu : Nat) {P : PG} {c0 : Nat → Nat} (hP : okP P) (hc : ∀ j, j < 8 → c0 j < 256) (hf : 200 < fu) {lf : Nat → Int32} {T : M16} (h : SO P c0 lf T) (kc : Nat → Nat) (s : Int32) {ap ze : Nat → Int32} (hag : AG ap ze) (gv : Int32) (lc lo : Int32) (Z : Z16) (zh : Int64) : ∃ (v : Int64) (U : M16) (W : Z16), f_X6_digest fu T.1 s (nI P.1) (aN P.2.1) (aN P.2.2.1) (aN P.2.2.2) (aN c0) (aN kc) T.2.1 T.2.2.1 T.2.2.2.1 T.2.2.2.2.1 T.2.2.2.2.2.1 T.2.2.2.2.2.2.1 T.2.2.2.2.2.2.2.1 T.2.2.2.2.2.2.2.2.1 T.2.2.2.2.2.2.2.2.2.1 T.2.2.2.2.2.2.2.2.2.2.1 T.2.2.2.2.2.2.2.2.2.2.2.1 T.2.2.2.2.2.2.2.2.2.2.2.2.1 T.2.2.2.2.2.2.2.2.2.2.2.2.2.1 T.2.2.2.2.2.2.2.2.2.2.2.2.2.2.1 T.2.2.2.2.2.2.2.2.2.2.2.2.2.2.2 gv ap = some (v, U) ∧ SO P c0 lf U ∧
    f_X7_digest fu (nI P.1) gv s Z.1 Z.2.1 Z.2.2.1 Z.2.2.2.1 Z.2.2.2.2.1 Z.2.2.2.2.2.1 Z.2.2.2.2.2.2.1 Z.2.2.2.2.2.2.2.1 Z.2.2.2.2.2.2.2.2.1 lc lo Z.2.2.2.2.2.2.2.2.2.1 Z.2.2.2.2.2.2.2.2.2.2.1 Z.2.2.2.2.2.2.2.2.2.2.2.1 Z.2.2.2.2.2.2.2.2.2.2.2.2.1 zh (aN P.2.1) (aN P.2.2.1) (aN P.2.2.2) (aN c0) (aN kc) ze Z.2.2.2.2.2.2.2.2.2.2.2.2.2.1 Z.2.2.2.2.2.2.2.2.2.2.2.2.2.2.1 Z.2.2.2.2.2.2.2.2.2.2.2.2.2.2.2 = some (v, W.1, W.2.1, W.2.2.1, W.2.2.2.1, W.2.2.2.2.1, W.2.2.2.2.2.1, W.2.2.2.2.2.2.1, W.2.2.2.2.2.2.2.1, W.2.2.2.2.2.2.2.2.1, W.2.2.2.2.2.2.2.2.2.1, W.2.2.2.2.2.2.2.2.2.2.1, W.2.2.2.2.2.2.2.2.2.2.2.1, W.2.2.2.2.2.2.2.2.2.2.2.2.1, v, W.2.2.2.2.2.2.2.2.2.2.2.2.2.1, W.2.2.2.2.2.2.2.2.2.2.2.2.2.2.1, W.2.2.2.2.2.2.2.2.2.2.2.2.2.2.2) := by
  have hcv : ∀ c, c < 8 → f_X6_chosenOrNone fu gv ap (nI c) = some ((f_X6_chosenOrNone fu gv ap (nI c)).getD 0) ∧ f_X7_chosen fu gv ze (nI c) = some ((f_X6_chosenOrNone fu gv ap (nI c)).getD 0) := by
    intro c hcc
    obtain ⟨v, h1, h2⟩ := x_orNone fu hag gv hcc
    rw [h1, h2]
    exact ⟨rfl, rfl⟩
  obtain ⟨U, h1, h2, h3⟩ := c_plain fu hP hc hf h
  obtain ⟨W, h4, h5⟩ := z_run fu hP hc hf lc lo Z
  have hn := hP.1
  have hp := h3
  obtain ⟨g, r, A, w0, -, e4, e5, -⟩ := h3
  have e12 := h5.2.1
  unfold f_X6_digest f_X7_digest
  rw [show (0 : Int32) = nI 0 from rfl, c_dig6 fu hP _ P.1 fu 0 _ (by omega) (by omega), z_dig9 fu hf hP _ P.1 fu 0 _ (by omega) (by omega), c_dig76 fu (cv := fun c => (f_X6_chosenOrNone fu gv ap (nI c)).getD 0) (fun c hcc => (hcv c hcc).1) _ 8 fu 0 _ rfl (by omega), z_dig49 fu (cv := fun c => (f_X6_chosenOrNone fu gv ap (nI c)).getD 0) (fun c hcc => (hcv c hcc).2) _ 8 fu 0 _ rfl (by omega), h1, Option.bind_some, h4, Option.bind_some]
  unfold f_X7_mix
  rw [Option.bind_some, Option.bind_some, Option.bind_some]
  refine ⟨_, U, W, rfl, Or.inr ⟨h2, hp⟩, ?_⟩
  dsimp only
  rw [e5, e4, ← e12]
