/-! THE LAW -/
def GOOD (P : PG) (c0 kc : Nat → Nat) (s : Nat) (gv : Int32) (ap ze af lf : Nat → Int32) (T : M16) : Prop := okP P ∧ (∀ j, j < 8 → c0 j < 256) ∧ (∀ j, j < 8 → kc j < 4) ∧ s ≤ 60 ∧ (gv = 0 ∨ gv = 1) ∧ AG ap ze ∧ (∀ j, 520 ≤ j → j < 585 → af j = 0) ∧ SO P c0 lf T
abbrev K69 : Type := Int32 → Int32 → Int32 → (Nat → Int32) → (Nat → Int32) → (Nat → Int32) → (Nat → Int32) → (Nat → Int32) → Int32 → Int32 → Int32 → Int32 → Int32 → Int32 → Int32 → (Nat → Int32) → (Nat → Int32) → (Nat → Int32) → (Nat → Int32) → (Nat → Int32) → (Nat → Int32) → (Nat → Int32) → Int32 → Int32 → Int32 → Int32 → Int32 → Int32 → Int32 → Int32 → (Nat → Int32) → (Nat → Int32) → (Nat → Int32) → (Nat → Int32) → Int32 → (Nat → Int32) → (Nat → Int32) → (Nat → Int32) → Int32 → Int32 → Int32 → Int32 → Int32 → Int32 → Int32 → Int32 → Int32 → Int32 → Int32 → Int32 → Int32 → Int32 → Int32 → Int32 → Int32 → Int32 → Int64 → (Nat → Int32) → (Nat → Int32) → (Nat → Int32) → (Nat → Int32) → (Nat → Int32) → (Nat → Int32) → (Nat → Int32) → (Nat → Int32) → (Nat → Int32) → (Nat → Int32) → (Nat → Int32) → Int32 → Option Unit
def KOK (k : K69) (i : Nat) : Prop := ∀ (T : M16) (s : Nat) (P : PG) (c0 kc : Nat → Nat) (K : K9) (lf ls : Nat → Int32) (gv : Int32) (ap as af : Nat → Int32) (Z : Z16) (lc lo : Int32) (h : Int64) (ze zh zs : Nat → Int32), GOOD P c0 kc s gv ap ze af lf T → k T.1 (nI s) (nI P.1) (aN P.2.1) (aN P.2.2.1) (aN P.2.2.2) (aN c0) (aN kc) T.2.1 T.2.2.1 T.2.2.2.1 T.2.2.2.2.1 T.2.2.2.2.2.1 T.2.2.2.2.2.2.1 T.2.2.2.2.2.2.2.1 T.2.2.2.2.2.2.2.2.1 T.2.2.2.2.2.2.2.2.2.1 T.2.2.2.2.2.2.2.2.2.2.1 T.2.2.2.2.2.2.2.2.2.2.2.1 T.2.2.2.2.2.2.2.2.2.2.2.2.1 T.2.2.2.2.2.2.2.2.2.2.2.2.2.1 T.2.2.2.2.2.2.2.2.2.2.2.2.2.2.1 T.2.2.2.2.2.2.2.2.2.2.2.2.2.2.2 K.1 K.2.1 K.2.2.1 K.2.2.2.1 K.2.2.2.2.1 K.2.2.2.2.2.1 K.2.2.2.2.2.2.1 K.2.2.2.2.2.2.2.1 K.2.2.2.2.2.2.2.2 lf ls gv ap as af (nI P.1) gv (nI s) Z.1 Z.2.1 Z.2.2.1 Z.2.2.2.1 Z.2.2.2.2.1 Z.2.2.2.2.2.1 Z.2.2.2.2.2.2.1 Z.2.2.2.2.2.2.2.1 Z.2.2.2.2.2.2.2.2.1 lc lo Z.2.2.2.2.2.2.2.2.2.1 Z.2.2.2.2.2.2.2.2.2.2.1 Z.2.2.2.2.2.2.2.2.2.2.2.1 Z.2.2.2.2.2.2.2.2.2.2.2.2.1 h (aN P.2.1) (aN P.2.2.1) (aN P.2.2.2) (aN c0) (aN kc) ze Z.2.2.2.2.2.2.2.2.2.2.2.2.2.1 Z.2.2.2.2.2.2.2.2.2.2.2.2.2.2.1 Z.2.2.2.2.2.2.2.2.2.2.2.2.2.2.2 zh zs (nI i) = some ()
theorem ir {i L j : Nat} (h : i + 5 ≤ L) (hL : L ≤ 2560) (hj : j < 5) : inR (nI i + nI j) L := by
  rw [nI_add]; exact in_i (by omega) (by omega)
theorem cmp0 (v : Int64) : lg_cmp v v = 0 := (lg_cmp_eq v v).mpr rfl
theorem e5 (i : Nat) : nI i + (5 : Int32) = nI (i + 5) := by rw [show (5 : Int32) = nI 5 from rfl, nI_add]
theorem case_144 (fu L : Nat) (xs : Nat → Int32) (hF : 70000 < fu) (hL : L ≤ 2560) (k : K69) {i : Nat} (hi : i + 5 ≤ L) (hk : KOK k (i + 5)) (T : M16) (s : Nat) (P : PG) (c0 kc : Nat → Nat) (K : K9) (lf ls : Nat → Int32) (gv : Int32) (ap as af : Nat → Int32) (Z : Z16) (lc lo : Int32) (h : Int64) (ze zh zs : Nat → Int32) (hG : GOOD P c0 kc s gv ap ze af lf T) : fr_L_law_144 fu L xs k T.1 (nI s) (nI P.1) (aN P.2.1) (aN P.2.2.1) (aN P.2.2.2) (aN c0) (aN kc) T.2.1 T.2.2.1 T.2.2.2.1 T.2.2.2.2.1 T.2.2.2.2.2.1 T.2.2.2.2.2.2.1 T.2.2.2.2.2.2.2.1 T.2.2.2.2.2.2.2.2.1 T.2.2.2.2.2.2.2.2.2.1 T.2.2.2.2.2.2.2.2.2.2.1 T.2.2.2.2.2.2.2.2.2.2.2.1 T.2.2.2.2.2.2.2.2.2.2.2.2.1 T.2.2.2.2.2.2.2.2.2.2.2.2.2.1 T.2.2.2.2.2.2.2.2.2.2.2.2.2.2.1 T.2.2.2.2.2.2.2.2.2.2.2.2.2.2.2 K.1 K.2.1 K.2.2.1 K.2.2.2.1 K.2.2.2.2.1 K.2.2.2.2.2.1 K.2.2.2.2.2.2.1 K.2.2.2.2.2.2.2.1 K.2.2.2.2.2.2.2.2 lf ls gv ap as af (nI P.1) gv (nI s) Z.1 Z.2.1 Z.2.2.1 Z.2.2.2.1 Z.2.2.2.2.1 Z.2.2.2.2.2.1 Z.2.2.2.2.2.2.1 Z.2.2.2.2.2.2.2.1 Z.2.2.2.2.2.2.2.2.1 lc lo Z.2.2.2.2.2.2.2.2.2.1 Z.2.2.2.2.2.2.2.2.2.2.1 Z.2.2.2.2.2.2.2.2.2.2.2.1 Z.2.2.2.2.2.2.2.2.2.2.2.2.1 h (aN P.2.1) (aN P.2.2.1) (aN P.2.2.2) (aN c0) (aN kc) ze Z.2.2.2.2.2.2.2.2.2.2.2.2.2.1 Z.2.2.2.2.2.2.2.2.2.2.2.2.2.2.1 Z.2.2.2.2.2.2.2.2.2.2.2.2.2.2.2 zh zs (nI i) = some () := by
  obtain ⟨hP, hc, hk4, hs, hgv, hag, haf, hS⟩ := hG
  have r1 : inR (nI i + 1) L := ir (j := 1) hi hL (by decide)
  have r2 : inR (nI i + 2) L := ir (j := 2) hi hL (by decide)
  have r3 : inR (nI i + 3) L := ir (j := 3) hi hL (by decide)
  obtain ⟨v, st2, Q, h1, h2, hQ, hst⟩ := x_order fu hP T.1 (xs (nI i + 1).toNatClampNeg) (xs (nI i + 2).toNatClampNeg) (xs (nI i + 3).toNatClampNeg)
  unfold fr_L_law_144
  rw [if_pos r1, if_pos r2, if_pos r3, h1, Option.bind_some, if_pos r1, if_pos r2, if_pos r3, h2, Option.bind_some]
  refine Eq.trans (if_pos rfl) ?_
  rw [e5]
  exact hk (st2, T.2) s Q c0 kc K lf ls gv ap as af Z lc lo h ze zh zs ⟨hQ, hc, hk4, hs, hgv, hag, haf, (by rcases hst with e | ⟨e, eq⟩; exact Or.inl e; subst e; subst eq; exact hS)⟩
theorem case_187 (fu L : Nat) (xs : Nat → Int32) (hF : 70000 < fu) (hL : L ≤ 2560) (k : K69) {i : Nat} (hi : i + 5 ≤ L) (hk : KOK k (i + 5)) (T : M16) (s : Nat) (P : PG) (c0 kc : Nat → Nat) (K : K9) (lf ls : Nat → Int32) (gv : Int32) (ap as af : Nat → Int32) (Z : Z16) (lc lo : Int32) (h : Int64) (ze zh zs : Nat → Int32) (hG : GOOD P c0 kc s gv ap ze af lf T) : fr_L_law_187 fu L xs k T.1 (nI s) (nI P.1) (aN P.2.1) (aN P.2.2.1) (aN P.2.2.2) (aN c0) (aN kc) T.2.1 T.2.2.1 T.2.2.2.1 T.2.2.2.2.1 T.2.2.2.2.2.1 T.2.2.2.2.2.2.1 T.2.2.2.2.2.2.2.1 T.2.2.2.2.2.2.2.2.1 T.2.2.2.2.2.2.2.2.2.1 T.2.2.2.2.2.2.2.2.2.2.1 T.2.2.2.2.2.2.2.2.2.2.2.1 T.2.2.2.2.2.2.2.2.2.2.2.2.1 T.2.2.2.2.2.2.2.2.2.2.2.2.2.1 T.2.2.2.2.2.2.2.2.2.2.2.2.2.2.1 T.2.2.2.2.2.2.2.2.2.2.2.2.2.2.2 K.1 K.2.1 K.2.2.1 K.2.2.2.1 K.2.2.2.2.1 K.2.2.2.2.2.1 K.2.2.2.2.2.2.1 K.2.2.2.2.2.2.2.1 K.2.2.2.2.2.2.2.2 lf ls gv ap as af (nI P.1) gv (nI s) Z.1 Z.2.1 Z.2.2.1 Z.2.2.2.1 Z.2.2.2.2.1 Z.2.2.2.2.2.1 Z.2.2.2.2.2.2.1 Z.2.2.2.2.2.2.2.1 Z.2.2.2.2.2.2.2.2.1 lc lo Z.2.2.2.2.2.2.2.2.2.1 Z.2.2.2.2.2.2.2.2.2.2.1 Z.2.2.2.2.2.2.2.2.2.2.2.1 Z.2.2.2.2.2.2.2.2.2.2.2.2.1 h (aN P.2.1) (aN P.2.2.1) (aN P.2.2.2) (aN c0) (aN kc) ze Z.2.2.2.2.2.2.2.2.2.2.2.2.2.1 Z.2.2.2.2.2.2.2.2.2.2.2.2.2.2.1 Z.2.2.2.2.2.2.2.2.2.2.2.2.2.2.2 zh zs (nI i) = some () := by
  obtain ⟨hP, hc, hk4, hs, hgv, hag, haf, hS⟩ := hG
  have r1 : inR (nI i + 1) L := ir (j := 1) hi hL (by decide)
  have r2 : inR (nI i + 2) L := ir (j := 2) hi hL (by decide)
  have r3 : inR (nI i + 3) L := ir (j := 3) hi hL (by decide)
  have r4 : inR (nI i + 4) L := ir (j := 4) hi hL (by decide)
  obtain ⟨v, st2, ⟨nQ, fQ⟩, h1, h2, hq, hQ, hst⟩ := x_change fu hP T.1 (xs (nI i + 1).toNatClampNeg) (xs (nI i + 2).toNatClampNeg) (xs (nI i + 3).toNatClampNeg) (xs (nI i + 4).toNatClampNeg)
  dsimp only at hq
  subst hq
  unfold fr_L_law_187
  rw [if_pos r1, if_pos r2, if_pos r3, if_pos r4, h1, Option.bind_some, if_pos r1, if_pos r2, if_pos r3, if_pos r4, h2, Option.bind_some]
  refine Eq.trans (if_pos rfl) ?_
  rw [e5]
  exact hk (st2, T.2) s (P.1, fQ) c0 kc K lf ls gv ap as af Z lc lo h ze zh zs ⟨hQ, hc, hk4, hs, hgv, hag, haf, (by rcases hst with e | ⟨e, eq⟩; exact Or.inl e; subst e; rw [eq]; exact hS)⟩
theorem case_240 (fu L : Nat) (xs : Nat → Int32) (hF : 70000 < fu) (hL : L ≤ 2560) (k : K69) {i : Nat} (hi : i + 5 ≤ L) (hk : KOK k (i + 5)) (T : M16) (s : Nat) (P : PG) (c0 kc : Nat → Nat) (K : K9) (lf ls : Nat → Int32) (gv : Int32) (ap as af : Nat → Int32) (Z : Z16) (lc lo : Int32) (h : Int64) (ze zh zs : Nat → Int32) (hG : GOOD P c0 kc s gv ap ze af lf T) : fr_L_law_240 fu L xs k T.1 (nI s) (nI P.1) (aN P.2.1) (aN P.2.2.1) (aN P.2.2.2) (aN c0) (aN kc) T.2.1 T.2.2.1 T.2.2.2.1 T.2.2.2.2.1 T.2.2.2.2.2.1 T.2.2.2.2.2.2.1 T.2.2.2.2.2.2.2.1 T.2.2.2.2.2.2.2.2.1 T.2.2.2.2.2.2.2.2.2.1 T.2.2.2.2.2.2.2.2.2.2.1 T.2.2.2.2.2.2.2.2.2.2.2.1 T.2.2.2.2.2.2.2.2.2.2.2.2.1 T.2.2.2.2.2.2.2.2.2.2.2.2.2.1 T.2.2.2.2.2.2.2.2.2.2.2.2.2.2.1 T.2.2.2.2.2.2.2.2.2.2.2.2.2.2.2 K.1 K.2.1 K.2.2.1 K.2.2.2.1 K.2.2.2.2.1 K.2.2.2.2.2.1 K.2.2.2.2.2.2.1 K.2.2.2.2.2.2.2.1 K.2.2.2.2.2.2.2.2 lf ls gv ap as af (nI P.1) gv (nI s) Z.1 Z.2.1 Z.2.2.1 Z.2.2.2.1 Z.2.2.2.2.1 Z.2.2.2.2.2.1 Z.2.2.2.2.2.2.1 Z.2.2.2.2.2.2.2.1 Z.2.2.2.2.2.2.2.2.1 lc lo Z.2.2.2.2.2.2.2.2.2.1 Z.2.2.2.2.2.2.2.2.2.2.1 Z.2.2.2.2.2.2.2.2.2.2.2.1 Z.2.2.2.2.2.2.2.2.2.2.2.2.1 h (aN P.2.1) (aN P.2.2.1) (aN P.2.2.2) (aN c0) (aN kc) ze Z.2.2.2.2.2.2.2.2.2.2.2.2.2.1 Z.2.2.2.2.2.2.2.2.2.2.2.2.2.2.1 Z.2.2.2.2.2.2.2.2.2.2.2.2.2.2.2 zh zs (nI i) = some () := by
  obtain ⟨hP, hc, hk4, hs, hgv, hag, haf, hS⟩ := hG
  unfold fr_L_law_240 f_X6_clear f_X7_clear
  rw [Option.bind_some, Option.bind_some]
  refine Eq.trans (if_pos rfl) ?_
  rw [e5]
  exact hk (1, T.2) s (0, P.2) c0 kc K lf ls gv ap as af Z lc lo h ze zh zs ⟨⟨Nat.zero_le _, fun j hj => absurd hj (Nat.not_lt_zero j)⟩, hc, hk4, hs, hgv, hag, haf, Or.inl rfl⟩
theorem case_253 (fu L : Nat) (xs : Nat → Int32) (hF : 70000 < fu) (hL : L ≤ 2560) (k : K69) {i : Nat} (hi : i + 5 ≤ L) (hk : KOK k (i + 5)) (T : M16) (s : Nat) (P : PG) (c0 kc : Nat → Nat) (K : K9) (lf ls : Nat → Int32) (gv : Int32) (ap as af : Nat → Int32) (Z : Z16) (lc lo : Int32) (h : Int64) (ze zh zs : Nat → Int32) (hG : GOOD P c0 kc s gv ap ze af lf T) : fr_L_law_253 fu L xs k T.1 (nI s) (nI P.1) (aN P.2.1) (aN P.2.2.1) (aN P.2.2.2) (aN c0) (aN kc) T.2.1 T.2.2.1 T.2.2.2.1 T.2.2.2.2.1 T.2.2.2.2.2.1 T.2.2.2.2.2.2.1 T.2.2.2.2.2.2.2.1 T.2.2.2.2.2.2.2.2.1 T.2.2.2.2.2.2.2.2.2.1 T.2.2.2.2.2.2.2.2.2.2.1 T.2.2.2.2.2.2.2.2.2.2.2.1 T.2.2.2.2.2.2.2.2.2.2.2.2.1 T.2.2.2.2.2.2.2.2.2.2.2.2.2.1 T.2.2.2.2.2.2.2.2.2.2.2.2.2.2.1 T.2.2.2.2.2.2.2.2.2.2.2.2.2.2.2 K.1 K.2.1 K.2.2.1 K.2.2.2.1 K.2.2.2.2.1 K.2.2.2.2.2.1 K.2.2.2.2.2.2.1 K.2.2.2.2.2.2.2.1 K.2.2.2.2.2.2.2.2 lf ls gv ap as af (nI P.1) gv (nI s) Z.1 Z.2.1 Z.2.2.1 Z.2.2.2.1 Z.2.2.2.2.1 Z.2.2.2.2.2.1 Z.2.2.2.2.2.2.1 Z.2.2.2.2.2.2.2.1 Z.2.2.2.2.2.2.2.2.1 lc lo Z.2.2.2.2.2.2.2.2.2.1 Z.2.2.2.2.2.2.2.2.2.2.1 Z.2.2.2.2.2.2.2.2.2.2.2.1 Z.2.2.2.2.2.2.2.2.2.2.2.2.1 h (aN P.2.1) (aN P.2.2.1) (aN P.2.2.2) (aN c0) (aN kc) ze Z.2.2.2.2.2.2.2.2.2.2.2.2.2.1 Z.2.2.2.2.2.2.2.2.2.2.2.2.2.2.1 Z.2.2.2.2.2.2.2.2.2.2.2.2.2.2.2 zh zs (nI i) = some () := by
  obtain ⟨hP, hc, hk4, hs, hgv, hag, haf, hS⟩ := hG
  have r1 : inR (nI i + 1) L := ir (j := 1) hi hL (by decide)
  have r2 : inR (nI i + 2) L := ir (j := 2) hi hL (by decide)
  obtain ⟨v, st2, d, h1, h2, hd, hst⟩ := x_cel fu hc T.1 (xs (nI i + 1).toNatClampNeg) (xs (nI i + 2).toNatClampNeg)
  unfold fr_L_law_253
  rw [if_pos r1, if_pos r2, h1, Option.bind_some, if_pos r1, if_pos r2, h2, Option.bind_some]
  refine Eq.trans (if_pos rfl) ?_
  rw [e5]
  exact hk (st2, T.2) s P d kc K lf ls gv ap as af Z lc lo h ze zh zs ⟨hP, hd, hk4, hs, hgv, hag, haf, (by rcases hst with e | ⟨e, eq⟩; exact Or.inl e; subst e; subst eq; exact hS)⟩
theorem case_286 (fu L : Nat) (xs : Nat → Int32) (hF : 70000 < fu) (hL : L ≤ 2560) (k : K69) {i : Nat} (hi : i + 5 ≤ L) (hk : KOK k (i + 5)) (T : M16) (s : Nat) (P : PG) (c0 kc : Nat → Nat) (K : K9) (lf ls : Nat → Int32) (gv : Int32) (ap as af : Nat → Int32) (Z : Z16) (lc lo : Int32) (h : Int64) (ze zh zs : Nat → Int32) (hG : GOOD P c0 kc s gv ap ze af lf T) : fr_L_law_286 fu L xs k T.1 (nI s) (nI P.1) (aN P.2.1) (aN P.2.2.1) (aN P.2.2.2) (aN c0) (aN kc) T.2.1 T.2.2.1 T.2.2.2.1 T.2.2.2.2.1 T.2.2.2.2.2.1 T.2.2.2.2.2.2.1 T.2.2.2.2.2.2.2.1 T.2.2.2.2.2.2.2.2.1 T.2.2.2.2.2.2.2.2.2.1 T.2.2.2.2.2.2.2.2.2.2.1 T.2.2.2.2.2.2.2.2.2.2.2.1 T.2.2.2.2.2.2.2.2.2.2.2.2.1 T.2.2.2.2.2.2.2.2.2.2.2.2.2.1 T.2.2.2.2.2.2.2.2.2.2.2.2.2.2.1 T.2.2.2.2.2.2.2.2.2.2.2.2.2.2.2 K.1 K.2.1 K.2.2.1 K.2.2.2.1 K.2.2.2.2.1 K.2.2.2.2.2.1 K.2.2.2.2.2.2.1 K.2.2.2.2.2.2.2.1 K.2.2.2.2.2.2.2.2 lf ls gv ap as af (nI P.1) gv (nI s) Z.1 Z.2.1 Z.2.2.1 Z.2.2.2.1 Z.2.2.2.2.1 Z.2.2.2.2.2.1 Z.2.2.2.2.2.2.1 Z.2.2.2.2.2.2.2.1 Z.2.2.2.2.2.2.2.2.1 lc lo Z.2.2.2.2.2.2.2.2.2.1 Z.2.2.2.2.2.2.2.2.2.2.1 Z.2.2.2.2.2.2.2.2.2.2.2.1 Z.2.2.2.2.2.2.2.2.2.2.2.2.1 h (aN P.2.1) (aN P.2.2.1) (aN P.2.2.2) (aN c0) (aN kc) ze Z.2.2.2.2.2.2.2.2.2.2.2.2.2.1 Z.2.2.2.2.2.2.2.2.2.2.2.2.2.2.1 Z.2.2.2.2.2.2.2.2.2.2.2.2.2.2.2 zh zs (nI i) = some () := by
  obtain ⟨hP, hc, hk4, hs, hgv, hag, haf, hS⟩ := hG
  have r1 : inR (nI i + 1) L := ir (j := 1) hi hL (by decide)
  have r2 : inR (nI i + 2) L := ir (j := 2) hi hL (by decide)
  obtain ⟨v, d, h1, h2, hd⟩ := x_check fu hk4 (xs (nI i + 1).toNatClampNeg) (xs (nI i + 2).toNatClampNeg)
  unfold fr_L_law_286
  rw [if_pos r1, if_pos r2, h1, Option.bind_some, if_pos r1, if_pos r2, h2, Option.bind_some]
  refine Eq.trans (if_pos rfl) ?_
  rw [e5]
  exact hk T s P c0 d K lf ls gv ap as af Z lc lo h ze zh zs ⟨hP, hc, hd, hs, hgv, hag, haf, hS⟩
theorem case_319 (fu L : Nat) (xs : Nat → Int32) (hF : 70000 < fu) (hL : L ≤ 2560) (k : K69) {i : Nat} (hi : i + 5 ≤ L) (hk : KOK k (i + 5)) (T : M16) (s : Nat) (P : PG) (c0 kc : Nat → Nat) (K : K9) (lf ls : Nat → Int32) (gv : Int32) (ap as af : Nat → Int32) (Z : Z16) (lc lo : Int32) (h : Int64) (ze zh zs : Nat → Int32) (hG : GOOD P c0 kc s gv ap ze af lf T) : fr_L_law_319 fu L xs k T.1 (nI s) (nI P.1) (aN P.2.1) (aN P.2.2.1) (aN P.2.2.2) (aN c0) (aN kc) T.2.1 T.2.2.1 T.2.2.2.1 T.2.2.2.2.1 T.2.2.2.2.2.1 T.2.2.2.2.2.2.1 T.2.2.2.2.2.2.2.1 T.2.2.2.2.2.2.2.2.1 T.2.2.2.2.2.2.2.2.2.1 T.2.2.2.2.2.2.2.2.2.2.1 T.2.2.2.2.2.2.2.2.2.2.2.1 T.2.2.2.2.2.2.2.2.2.2.2.2.1 T.2.2.2.2.2.2.2.2.2.2.2.2.2.1 T.2.2.2.2.2.2.2.2.2.2.2.2.2.2.1 T.2.2.2.2.2.2.2.2.2.2.2.2.2.2.2 K.1 K.2.1 K.2.2.1 K.2.2.2.1 K.2.2.2.2.1 K.2.2.2.2.2.1 K.2.2.2.2.2.2.1 K.2.2.2.2.2.2.2.1 K.2.2.2.2.2.2.2.2 lf ls gv ap as af (nI P.1) gv (nI s) Z.1 Z.2.1 Z.2.2.1 Z.2.2.2.1 Z.2.2.2.2.1 Z.2.2.2.2.2.1 Z.2.2.2.2.2.2.1 Z.2.2.2.2.2.2.2.1 Z.2.2.2.2.2.2.2.2.1 lc lo Z.2.2.2.2.2.2.2.2.2.1 Z.2.2.2.2.2.2.2.2.2.2.1 Z.2.2.2.2.2.2.2.2.2.2.2.1 Z.2.2.2.2.2.2.2.2.2.2.2.2.1 h (aN P.2.1) (aN P.2.2.1) (aN P.2.2.2) (aN c0) (aN kc) ze Z.2.2.2.2.2.2.2.2.2.2.2.2.2.1 Z.2.2.2.2.2.2.2.2.2.2.2.2.2.2.1 Z.2.2.2.2.2.2.2.2.2.2.2.2.2.2.2 zh zs (nI i) = some () := by
  obtain ⟨hP, hc, hk4, hs, hgv, hag, haf, hS⟩ := hG
  obtain ⟨v, U, W, h1, hU, h2⟩ := x_run fu hP hc (by omega) hS lc lo Z
  unfold fr_L_law_319
  rw [h1, Option.bind_some, h2, Option.bind_some]
  refine Eq.trans (if_pos rfl) ?_
  rw [e5]
  exact hk U s P c0 kc K lf ls gv ap as af W lc lo h ze zh zs ⟨hP, hc, hk4, hs, hgv, hag, haf, hU⟩
theorem case_332 (fu L : Nat) (xs : Nat → Int32) (hF : 70000 < fu) (hL : L ≤ 2560) (k : K69) {i : Nat} (hi : i + 5 ≤ L) (hk : KOK k (i + 5)) (T : M16) (s : Nat) (P : PG) (c0 kc : Nat → Nat) (K : K9) (lf ls : Nat → Int32) (gv : Int32) (ap as af : Nat → Int32) (Z : Z16) (lc lo : Int32) (h : Int64) (ze zh zs : Nat → Int32) (hG : GOOD P c0 kc s gv ap ze af lf T) : fr_L_law_332 fu L xs k T.1 (nI s) (nI P.1) (aN P.2.1) (aN P.2.2.1) (aN P.2.2.2) (aN c0) (aN kc) T.2.1 T.2.2.1 T.2.2.2.1 T.2.2.2.2.1 T.2.2.2.2.2.1 T.2.2.2.2.2.2.1 T.2.2.2.2.2.2.2.1 T.2.2.2.2.2.2.2.2.1 T.2.2.2.2.2.2.2.2.2.1 T.2.2.2.2.2.2.2.2.2.2.1 T.2.2.2.2.2.2.2.2.2.2.2.1 T.2.2.2.2.2.2.2.2.2.2.2.2.1 T.2.2.2.2.2.2.2.2.2.2.2.2.2.1 T.2.2.2.2.2.2.2.2.2.2.2.2.2.2.1 T.2.2.2.2.2.2.2.2.2.2.2.2.2.2.2 K.1 K.2.1 K.2.2.1 K.2.2.2.1 K.2.2.2.2.1 K.2.2.2.2.2.1 K.2.2.2.2.2.2.1 K.2.2.2.2.2.2.2.1 K.2.2.2.2.2.2.2.2 lf ls gv ap as af (nI P.1) gv (nI s) Z.1 Z.2.1 Z.2.2.1 Z.2.2.2.1 Z.2.2.2.2.1 Z.2.2.2.2.2.1 Z.2.2.2.2.2.2.1 Z.2.2.2.2.2.2.2.1 Z.2.2.2.2.2.2.2.2.1 lc lo Z.2.2.2.2.2.2.2.2.2.1 Z.2.2.2.2.2.2.2.2.2.2.1 Z.2.2.2.2.2.2.2.2.2.2.2.1 Z.2.2.2.2.2.2.2.2.2.2.2.2.1 h (aN P.2.1) (aN P.2.2.1) (aN P.2.2.2) (aN c0) (aN kc) ze Z.2.2.2.2.2.2.2.2.2.2.2.2.2.1 Z.2.2.2.2.2.2.2.2.2.2.2.2.2.2.1 Z.2.2.2.2.2.2.2.2.2.2.2.2.2.2.2 zh zs (nI i) = some () := by
  obtain ⟨hP, hc, hk4, hs, hgv, hag, haf, hS⟩ := hG
  obtain ⟨v, U, W, h1, hU, h2⟩ := x_ticks fu hP hc (by omega) hS lc lo Z
  unfold fr_L_law_332
  rw [h1, Option.bind_some, h2, Option.bind_some]
  refine Eq.trans (if_pos rfl) ?_
  rw [e5]
  exact hk U s P c0 kc K lf ls gv ap as af W lc lo h ze zh zs ⟨hP, hc, hk4, hs, hgv, hag, haf, hU⟩
theorem case_345 (fu L : Nat) (xs : Nat → Int32) (hF : 70000 < fu) (hL : L ≤ 2560) (k : K69) {i : Nat} (hi : i + 5 ≤ L) (hk : KOK k (i + 5)) (T : M16) (s : Nat) (P : PG) (c0 kc : Nat → Nat) (K : K9) (lf ls : Nat → Int32) (gv : Int32) (ap as af : Nat → Int32) (Z : Z16) (lc lo : Int32) (h : Int64) (ze zh zs : Nat → Int32) (hG : GOOD P c0 kc s gv ap ze af lf T) : fr_L_law_345 fu L xs k T.1 (nI s) (nI P.1) (aN P.2.1) (aN P.2.2.1) (aN P.2.2.2) (aN c0) (aN kc) T.2.1 T.2.2.1 T.2.2.2.1 T.2.2.2.2.1 T.2.2.2.2.2.1 T.2.2.2.2.2.2.1 T.2.2.2.2.2.2.2.1 T.2.2.2.2.2.2.2.2.1 T.2.2.2.2.2.2.2.2.2.1 T.2.2.2.2.2.2.2.2.2.2.1 T.2.2.2.2.2.2.2.2.2.2.2.1 T.2.2.2.2.2.2.2.2.2.2.2.2.1 T.2.2.2.2.2.2.2.2.2.2.2.2.2.1 T.2.2.2.2.2.2.2.2.2.2.2.2.2.2.1 T.2.2.2.2.2.2.2.2.2.2.2.2.2.2.2 K.1 K.2.1 K.2.2.1 K.2.2.2.1 K.2.2.2.2.1 K.2.2.2.2.2.1 K.2.2.2.2.2.2.1 K.2.2.2.2.2.2.2.1 K.2.2.2.2.2.2.2.2 lf ls gv ap as af (nI P.1) gv (nI s) Z.1 Z.2.1 Z.2.2.1 Z.2.2.2.1 Z.2.2.2.2.1 Z.2.2.2.2.2.1 Z.2.2.2.2.2.2.1 Z.2.2.2.2.2.2.2.1 Z.2.2.2.2.2.2.2.2.1 lc lo Z.2.2.2.2.2.2.2.2.2.1 Z.2.2.2.2.2.2.2.2.2.2.1 Z.2.2.2.2.2.2.2.2.2.2.2.1 Z.2.2.2.2.2.2.2.2.2.2.2.2.1 h (aN P.2.1) (aN P.2.2.1) (aN P.2.2.2) (aN c0) (aN kc) ze Z.2.2.2.2.2.2.2.2.2.2.2.2.2.1 Z.2.2.2.2.2.2.2.2.2.2.2.2.2.2.1 Z.2.2.2.2.2.2.2.2.2.2.2.2.2.2.2 zh zs (nI i) = some () := by
  obtain ⟨hP, hc, hk4, hs, hgv, hag, haf, hS⟩ := hG
  obtain ⟨v, U, W, h1, hU, h2⟩ := x_many fu hP hc (by omega) hS lc lo Z
  unfold fr_L_law_345
  rw [h1, Option.bind_some, h2, Option.bind_some]
  refine Eq.trans (if_pos rfl) ?_
  rw [e5]
  exact hk U s P c0 kc K lf ls gv ap as af W lc lo h ze zh zs ⟨hP, hc, hk4, hs, hgv, hag, haf, hU⟩
theorem case_358 (fu L : Nat) (xs : Nat → Int32) (hF : 70000 < fu) (hL : L ≤ 2560) (k : K69) {i : Nat} (hi : i + 5 ≤ L) (hk : KOK k (i + 5)) (T : M16) (s : Nat) (P : PG) (c0 kc : Nat → Nat) (K : K9) (lf ls : Nat → Int32) (gv : Int32) (ap as af : Nat → Int32) (Z : Z16) (lc lo : Int32) (h : Int64) (ze zh zs : Nat → Int32) (hG : GOOD P c0 kc s gv ap ze af lf T) : fr_L_law_358 fu L xs k T.1 (nI s) (nI P.1) (aN P.2.1) (aN P.2.2.1) (aN P.2.2.2) (aN c0) (aN kc) T.2.1 T.2.2.1 T.2.2.2.1 T.2.2.2.2.1 T.2.2.2.2.2.1 T.2.2.2.2.2.2.1 T.2.2.2.2.2.2.2.1 T.2.2.2.2.2.2.2.2.1 T.2.2.2.2.2.2.2.2.2.1 T.2.2.2.2.2.2.2.2.2.2.1 T.2.2.2.2.2.2.2.2.2.2.2.1 T.2.2.2.2.2.2.2.2.2.2.2.2.1 T.2.2.2.2.2.2.2.2.2.2.2.2.2.1 T.2.2.2.2.2.2.2.2.2.2.2.2.2.2.1 T.2.2.2.2.2.2.2.2.2.2.2.2.2.2.2 K.1 K.2.1 K.2.2.1 K.2.2.2.1 K.2.2.2.2.1 K.2.2.2.2.2.1 K.2.2.2.2.2.2.1 K.2.2.2.2.2.2.2.1 K.2.2.2.2.2.2.2.2 lf ls gv ap as af (nI P.1) gv (nI s) Z.1 Z.2.1 Z.2.2.1 Z.2.2.2.1 Z.2.2.2.2.1 Z.2.2.2.2.2.1 Z.2.2.2.2.2.2.1 Z.2.2.2.2.2.2.2.1 Z.2.2.2.2.2.2.2.2.1 lc lo Z.2.2.2.2.2.2.2.2.2.1 Z.2.2.2.2.2.2.2.2.2.2.1 Z.2.2.2.2.2.2.2.2.2.2.2.1 Z.2.2.2.2.2.2.2.2.2.2.2.2.1 h (aN P.2.1) (aN P.2.2.1) (aN P.2.2.2) (aN c0) (aN kc) ze Z.2.2.2.2.2.2.2.2.2.2.2.2.2.1 Z.2.2.2.2.2.2.2.2.2.2.2.2.2.2.1 Z.2.2.2.2.2.2.2.2.2.2.2.2.2.2.2 zh zs (nI i) = some () := by
  obtain ⟨hP, hc, hk4, hs, hgv, hag, haf, hS⟩ := hG
  have r1 : inR (nI i + 1) L := ir (j := 1) hi hL (by decide)
  obtain ⟨v, U, W, h1, hU, h2⟩ := x_told fu hP hc (by omega) hS lc lo Z (xs (nI i + 1).toNatClampNeg)
  unfold fr_L_law_358
  rw [if_pos r1, h1, Option.bind_some, if_pos r1, h2, Option.bind_some]
  refine Eq.trans (if_pos rfl) ?_
  rw [e5]
  exact hk U s P c0 kc K lf ls gv ap as af W lc lo h ze zh zs ⟨hP, hc, hk4, hs, hgv, hag, haf, hU⟩
theorem case_381 (fu L : Nat) (xs : Nat → Int32) (hF : 70000 < fu) (hL : L ≤ 2560) (k : K69) {i : Nat} (hi : i + 5 ≤ L) (hk : KOK k (i + 5)) (T : M16) (s : Nat) (P : PG) (c0 kc : Nat → Nat) (K : K9) (lf ls : Nat → Int32) (gv : Int32) (ap as af : Nat → Int32) (Z : Z16) (lc lo : Int32) (h : Int64) (ze zh zs : Nat → Int32) (hG : GOOD P c0 kc s gv ap ze af lf T) : fr_L_law_381 fu L xs k T.1 (nI s) (nI P.1) (aN P.2.1) (aN P.2.2.1) (aN P.2.2.2) (aN c0) (aN kc) T.2.1 T.2.2.1 T.2.2.2.1 T.2.2.2.2.1 T.2.2.2.2.2.1 T.2.2.2.2.2.2.1 T.2.2.2.2.2.2.2.1 T.2.2.2.2.2.2.2.2.1 T.2.2.2.2.2.2.2.2.2.1 T.2.2.2.2.2.2.2.2.2.2.1 T.2.2.2.2.2.2.2.2.2.2.2.1 T.2.2.2.2.2.2.2.2.2.2.2.2.1 T.2.2.2.2.2.2.2.2.2.2.2.2.2.1 T.2.2.2.2.2.2.2.2.2.2.2.2.2.2.1 T.2.2.2.2.2.2.2.2.2.2.2.2.2.2.2 K.1 K.2.1 K.2.2.1 K.2.2.2.1 K.2.2.2.2.1 K.2.2.2.2.2.1 K.2.2.2.2.2.2.1 K.2.2.2.2.2.2.2.1 K.2.2.2.2.2.2.2.2 lf ls gv ap as af (nI P.1) gv (nI s) Z.1 Z.2.1 Z.2.2.1 Z.2.2.2.1 Z.2.2.2.2.1 Z.2.2.2.2.2.1 Z.2.2.2.2.2.2.1 Z.2.2.2.2.2.2.2.1 Z.2.2.2.2.2.2.2.2.1 lc lo Z.2.2.2.2.2.2.2.2.2.1 Z.2.2.2.2.2.2.2.2.2.2.1 Z.2.2.2.2.2.2.2.2.2.2.2.1 Z.2.2.2.2.2.2.2.2.2.2.2.2.1 h (aN P.2.1) (aN P.2.2.1) (aN P.2.2.2) (aN c0) (aN kc) ze Z.2.2.2.2.2.2.2.2.2.2.2.2.2.1 Z.2.2.2.2.2.2.2.2.2.2.2.2.2.2.1 Z.2.2.2.2.2.2.2.2.2.2.2.2.2.2.2 zh zs (nI i) = some () := by
  obtain ⟨hP, hc, hk4, hs, hgv, hag, haf, hS⟩ := hG
  have r1 : inR (nI i + 1) L := ir (j := 1) hi hL (by decide)
  obtain ⟨v, U, W, h1, hU, h2⟩ := x_after fu hP hc (by omega) hS lc lo Z (xs (nI i + 1).toNatClampNeg)
  unfold fr_L_law_381
  rw [if_pos r1, h1, Option.bind_some, if_pos r1, h2, Option.bind_some]
  refine Eq.trans (if_pos rfl) ?_
  rw [e5]
  exact hk U s P c0 kc K lf ls gv ap as af W lc lo h ze zh zs ⟨hP, hc, hk4, hs, hgv, hag, haf, hU⟩
theorem case_404 (fu L : Nat) (xs : Nat → Int32) (hF : 70000 < fu) (hL : L ≤ 2560) (k : K69) {i : Nat} (hi : i + 5 ≤ L) (hk : KOK k (i + 5)) (T : M16) (s : Nat) (P : PG) (c0 kc : Nat → Nat) (K : K9) (lf ls : Nat → Int32) (gv : Int32) (ap as af : Nat → Int32) (Z : Z16) (lc lo : Int32) (h : Int64) (ze zh zs : Nat → Int32) (hG : GOOD P c0 kc s gv ap ze af lf T) : fr_L_law_404 fu L xs k T.1 (nI s) (nI P.1) (aN P.2.1) (aN P.2.2.1) (aN P.2.2.2) (aN c0) (aN kc) T.2.1 T.2.2.1 T.2.2.2.1 T.2.2.2.2.1 T.2.2.2.2.2.1 T.2.2.2.2.2.2.1 T.2.2.2.2.2.2.2.1 T.2.2.2.2.2.2.2.2.1 T.2.2.2.2.2.2.2.2.2.1 T.2.2.2.2.2.2.2.2.2.2.1 T.2.2.2.2.2.2.2.2.2.2.2.1 T.2.2.2.2.2.2.2.2.2.2.2.2.1 T.2.2.2.2.2.2.2.2.2.2.2.2.2.1 T.2.2.2.2.2.2.2.2.2.2.2.2.2.2.1 T.2.2.2.2.2.2.2.2.2.2.2.2.2.2.2 K.1 K.2.1 K.2.2.1 K.2.2.2.1 K.2.2.2.2.1 K.2.2.2.2.2.1 K.2.2.2.2.2.2.1 K.2.2.2.2.2.2.2.1 K.2.2.2.2.2.2.2.2 lf ls gv ap as af (nI P.1) gv (nI s) Z.1 Z.2.1 Z.2.2.1 Z.2.2.2.1 Z.2.2.2.2.1 Z.2.2.2.2.2.1 Z.2.2.2.2.2.2.1 Z.2.2.2.2.2.2.2.1 Z.2.2.2.2.2.2.2.2.1 lc lo Z.2.2.2.2.2.2.2.2.2.1 Z.2.2.2.2.2.2.2.2.2.2.1 Z.2.2.2.2.2.2.2.2.2.2.2.1 Z.2.2.2.2.2.2.2.2.2.2.2.2.1 h (aN P.2.1) (aN P.2.2.1) (aN P.2.2.2) (aN c0) (aN kc) ze Z.2.2.2.2.2.2.2.2.2.2.2.2.2.1 Z.2.2.2.2.2.2.2.2.2.2.2.2.2.2.1 Z.2.2.2.2.2.2.2.2.2.2.2.2.2.2.2 zh zs (nI i) = some () := by
  obtain ⟨hP, hc, hk4, hs, hgv, hag, haf, hS⟩ := hG
  have r1 : inR (nI i + 1) L := ir (j := 1) hi hL (by decide)
  have r2 : inR (nI i + 2) L := ir (j := 2) hi hL (by decide)
  obtain ⟨v, U, W, h1, hU, h2⟩ := x_dead fu hP hc (by omega) hS lc lo Z (xs (nI i + 1).toNatClampNeg) (xs (nI i + 2).toNatClampNeg)
  unfold fr_L_law_404
  rw [if_pos r1, if_pos r2, h1, Option.bind_some, if_pos r1, if_pos r2, h2, Option.bind_some]
  refine Eq.trans (if_pos rfl) ?_
  rw [e5]
  exact hk U s P c0 kc K lf ls gv ap as af (W.1, W.2.1, W.2.2.1, W.2.2.2.1, W.2.2.2.2.1, W.2.2.2.2.2.1, W.2.2.2.2.2.2.1, W.2.2.2.2.2.2.2.1, W.2.2.2.2.2.2.2.2.1, W.2.2.2.2.2.2.2.2.2.2.2.1, W.2.2.2.2.2.2.2.2.2.2.2.2.1, W.2.2.2.2.2.2.2.2.2.2.2.2.2.1, W.2.2.2.2.2.2.2.2.2.2.2.2.2.2.1, W.2.2.2.2.2.2.2.2.2.2.2.2.2.2.2.1, W.2.2.2.2.2.2.2.2.2.2.2.2.2.2.2.2.1, W.2.2.2.2.2.2.2.2.2.2.2.2.2.2.2.2.2) W.2.2.2.2.2.2.2.2.2.1 W.2.2.2.2.2.2.2.2.2.2.1 h ze zh zs ⟨hP, hc, hk4, hs, hgv, hag, haf, hU⟩
theorem case_437 (fu L : Nat) (xs : Nat → Int32) (hF : 70000 < fu) (hL : L ≤ 2560) (k : K69) {i : Nat} (hi : i + 5 ≤ L) (hk : KOK k (i + 5)) (T : M16) (s : Nat) (P : PG) (c0 kc : Nat → Nat) (K : K9) (lf ls : Nat → Int32) (gv : Int32) (ap as af : Nat → Int32) (Z : Z16) (lc lo : Int32) (h : Int64) (ze zh zs : Nat → Int32) (hG : GOOD P c0 kc s gv ap ze af lf T) : fr_L_law_437 fu L xs k T.1 (nI s) (nI P.1) (aN P.2.1) (aN P.2.2.1) (aN P.2.2.2) (aN c0) (aN kc) T.2.1 T.2.2.1 T.2.2.2.1 T.2.2.2.2.1 T.2.2.2.2.2.1 T.2.2.2.2.2.2.1 T.2.2.2.2.2.2.2.1 T.2.2.2.2.2.2.2.2.1 T.2.2.2.2.2.2.2.2.2.1 T.2.2.2.2.2.2.2.2.2.2.1 T.2.2.2.2.2.2.2.2.2.2.2.1 T.2.2.2.2.2.2.2.2.2.2.2.2.1 T.2.2.2.2.2.2.2.2.2.2.2.2.2.1 T.2.2.2.2.2.2.2.2.2.2.2.2.2.2.1 T.2.2.2.2.2.2.2.2.2.2.2.2.2.2.2 K.1 K.2.1 K.2.2.1 K.2.2.2.1 K.2.2.2.2.1 K.2.2.2.2.2.1 K.2.2.2.2.2.2.1 K.2.2.2.2.2.2.2.1 K.2.2.2.2.2.2.2.2 lf ls gv ap as af (nI P.1) gv (nI s) Z.1 Z.2.1 Z.2.2.1 Z.2.2.2.1 Z.2.2.2.2.1 Z.2.2.2.2.2.1 Z.2.2.2.2.2.2.1 Z.2.2.2.2.2.2.2.1 Z.2.2.2.2.2.2.2.2.1 lc lo Z.2.2.2.2.2.2.2.2.2.1 Z.2.2.2.2.2.2.2.2.2.2.1 Z.2.2.2.2.2.2.2.2.2.2.2.1 Z.2.2.2.2.2.2.2.2.2.2.2.2.1 h (aN P.2.1) (aN P.2.2.1) (aN P.2.2.2) (aN c0) (aN kc) ze Z.2.2.2.2.2.2.2.2.2.2.2.2.2.1 Z.2.2.2.2.2.2.2.2.2.2.2.2.2.2.1 Z.2.2.2.2.2.2.2.2.2.2.2.2.2.2.2 zh zs (nI i) = some () := by
  obtain ⟨hP, hc, hk4, hs, hgv, hag, haf, hS⟩ := hG
  have r1 : inR (nI i + 1) L := ir (j := 1) hi hL (by decide)
  have r2 : inR (nI i + 2) L := ir (j := 2) hi hL (by decide)
  have r3 : inR (nI i + 3) L := ir (j := 3) hi hL (by decide)
  have r4 : inR (nI i + 4) L := ir (j := 4) hi hL (by decide)
  obtain ⟨v, U, J, W, h1, hU, h2⟩ := x_flip fu hP hc (by omega) hS hk4 K lc lo Z (xs (nI i + 1).toNatClampNeg) (xs (nI i + 2).toNatClampNeg) (xs (nI i + 3).toNatClampNeg) (xs (nI i + 4).toNatClampNeg)
  unfold fr_L_law_437
  rw [if_pos r1, if_pos r2, if_pos r3, if_pos r4, h1, Option.bind_some, if_pos r1, if_pos r2, if_pos r3, if_pos r4, h2, Option.bind_some]
  refine Eq.trans (if_pos rfl) ?_
  rw [e5]
  exact hk U s P c0 kc J lf ls gv ap as af W lc lo h ze zh zs ⟨hP, hc, hk4, hs, hgv, hag, haf, hU⟩
theorem case_490 (fu L : Nat) (xs : Nat → Int32) (hF : 70000 < fu) (hL : L ≤ 2560) (k : K69) {i : Nat} (hi : i + 5 ≤ L) (hk : KOK k (i + 5)) (T : M16) (s : Nat) (P : PG) (c0 kc : Nat → Nat) (K : K9) (lf ls : Nat → Int32) (gv : Int32) (ap as af : Nat → Int32) (Z : Z16) (lc lo : Int32) (h : Int64) (ze zh zs : Nat → Int32) (hG : GOOD P c0 kc s gv ap ze af lf T) : fr_L_law_490 fu L xs k T.1 (nI s) (nI P.1) (aN P.2.1) (aN P.2.2.1) (aN P.2.2.2) (aN c0) (aN kc) T.2.1 T.2.2.1 T.2.2.2.1 T.2.2.2.2.1 T.2.2.2.2.2.1 T.2.2.2.2.2.2.1 T.2.2.2.2.2.2.2.1 T.2.2.2.2.2.2.2.2.1 T.2.2.2.2.2.2.2.2.2.1 T.2.2.2.2.2.2.2.2.2.2.1 T.2.2.2.2.2.2.2.2.2.2.2.1 T.2.2.2.2.2.2.2.2.2.2.2.2.1 T.2.2.2.2.2.2.2.2.2.2.2.2.2.1 T.2.2.2.2.2.2.2.2.2.2.2.2.2.2.1 T.2.2.2.2.2.2.2.2.2.2.2.2.2.2.2 K.1 K.2.1 K.2.2.1 K.2.2.2.1 K.2.2.2.2.1 K.2.2.2.2.2.1 K.2.2.2.2.2.2.1 K.2.2.2.2.2.2.2.1 K.2.2.2.2.2.2.2.2 lf ls gv ap as af (nI P.1) gv (nI s) Z.1 Z.2.1 Z.2.2.1 Z.2.2.2.1 Z.2.2.2.2.1 Z.2.2.2.2.2.1 Z.2.2.2.2.2.2.1 Z.2.2.2.2.2.2.2.1 Z.2.2.2.2.2.2.2.2.1 lc lo Z.2.2.2.2.2.2.2.2.2.1 Z.2.2.2.2.2.2.2.2.2.2.1 Z.2.2.2.2.2.2.2.2.2.2.2.1 Z.2.2.2.2.2.2.2.2.2.2.2.2.1 h (aN P.2.1) (aN P.2.2.1) (aN P.2.2.2) (aN c0) (aN kc) ze Z.2.2.2.2.2.2.2.2.2.2.2.2.2.1 Z.2.2.2.2.2.2.2.2.2.2.2.2.2.2.1 Z.2.2.2.2.2.2.2.2.2.2.2.2.2.2.2 zh zs (nI i) = some () := by
  obtain ⟨hP, hc, hk4, hs, hgv, hag, haf, hS⟩ := hG
  have r1 : inR (nI i + 1) L := ir (j := 1) hi hL (by decide)
  have r2 : inR (nI i + 2) L := ir (j := 2) hi hL (by decide)
  have r3 : inR (nI i + 3) L := ir (j := 3) hi hL (by decide)
  have r4 : inR (nI i + 4) L := ir (j := 4) hi hL (by decide)
  obtain ⟨v, U, J, W, h1, hU, h2⟩ := x_harm fu hP hc (by omega) hS hk4 K lc lo Z (xs (nI i + 1).toNatClampNeg) (xs (nI i + 2).toNatClampNeg) (xs (nI i + 3).toNatClampNeg) (xs (nI i + 4).toNatClampNeg)
  unfold fr_L_law_490
  rw [if_pos r1, if_pos r2, if_pos r3, if_pos r4, h1, Option.bind_some, if_pos r1, if_pos r2, if_pos r3, if_pos r4, h2, Option.bind_some]
  refine Eq.trans (if_pos rfl) ?_
  rw [e5]
  exact hk U s P c0 kc J lf ls gv ap as af W lc lo h ze zh zs ⟨hP, hc, hk4, hs, hgv, hag, haf, hU⟩
theorem case_543 (fu L : Nat) (xs : Nat → Int32) (hF : 70000 < fu) (hL : L ≤ 2560) (k : K69) {i : Nat} (hi : i + 5 ≤ L) (hk : KOK k (i + 5)) (T : M16) (s : Nat) (P : PG) (c0 kc : Nat → Nat) (K : K9) (lf ls : Nat → Int32) (gv : Int32) (ap as af : Nat → Int32) (Z : Z16) (lc lo : Int32) (h : Int64) (ze zh zs : Nat → Int32) (hG : GOOD P c0 kc s gv ap ze af lf T) : fr_L_law_543 fu L xs k T.1 (nI s) (nI P.1) (aN P.2.1) (aN P.2.2.1) (aN P.2.2.2) (aN c0) (aN kc) T.2.1 T.2.2.1 T.2.2.2.1 T.2.2.2.2.1 T.2.2.2.2.2.1 T.2.2.2.2.2.2.1 T.2.2.2.2.2.2.2.1 T.2.2.2.2.2.2.2.2.1 T.2.2.2.2.2.2.2.2.2.1 T.2.2.2.2.2.2.2.2.2.2.1 T.2.2.2.2.2.2.2.2.2.2.2.1 T.2.2.2.2.2.2.2.2.2.2.2.2.1 T.2.2.2.2.2.2.2.2.2.2.2.2.2.1 T.2.2.2.2.2.2.2.2.2.2.2.2.2.2.1 T.2.2.2.2.2.2.2.2.2.2.2.2.2.2.2 K.1 K.2.1 K.2.2.1 K.2.2.2.1 K.2.2.2.2.1 K.2.2.2.2.2.1 K.2.2.2.2.2.2.1 K.2.2.2.2.2.2.2.1 K.2.2.2.2.2.2.2.2 lf ls gv ap as af (nI P.1) gv (nI s) Z.1 Z.2.1 Z.2.2.1 Z.2.2.2.1 Z.2.2.2.2.1 Z.2.2.2.2.2.1 Z.2.2.2.2.2.2.1 Z.2.2.2.2.2.2.2.1 Z.2.2.2.2.2.2.2.2.1 lc lo Z.2.2.2.2.2.2.2.2.2.1 Z.2.2.2.2.2.2.2.2.2.2.1 Z.2.2.2.2.2.2.2.2.2.2.2.1 Z.2.2.2.2.2.2.2.2.2.2.2.2.1 h (aN P.2.1) (aN P.2.2.1) (aN P.2.2.2) (aN c0) (aN kc) ze Z.2.2.2.2.2.2.2.2.2.2.2.2.2.1 Z.2.2.2.2.2.2.2.2.2.2.2.2.2.2.1 Z.2.2.2.2.2.2.2.2.2.2.2.2.2.2.2 zh zs (nI i) = some () := by
  obtain ⟨hP, hc, hk4, hs, hgv, hag, haf, hS⟩ := hG
  have r1 : inR (nI i + 1) L := ir (j := 1) hi hL (by decide)
  have r2 : inR (nI i + 2) L := ir (j := 2) hi hL (by decide)
  have r3 : inR (nI i + 3) L := ir (j := 3) hi hL (by decide)
  have r4 : inR (nI i + 4) L := ir (j := 4) hi hL (by decide)
  obtain ⟨v, U, J, W, h1, hU, h2⟩ := x_lasts fu hP hc (by omega) hS hk4 K lc lo Z (xs (nI i + 1).toNatClampNeg) (xs (nI i + 2).toNatClampNeg) (xs (nI i + 3).toNatClampNeg) (xs (nI i + 4).toNatClampNeg)
  unfold fr_L_law_543
  rw [if_pos r1, if_pos r2, if_pos r3, if_pos r4, h1, Option.bind_some, if_pos r1, if_pos r2, if_pos r3, if_pos r4, h2, Option.bind_some]
  refine Eq.trans (if_pos rfl) ?_
  rw [e5]
  exact hk U s P c0 kc J lf ls gv ap as af W lc lo h ze zh zs ⟨hP, hc, hk4, hs, hgv, hag, haf, hU⟩
theorem case_596 (fu L : Nat) (xs : Nat → Int32) (hF : 70000 < fu) (hL : L ≤ 2560) (k : K69) {i : Nat} (hi : i + 5 ≤ L) (hk : KOK k (i + 5)) (T : M16) (s : Nat) (P : PG) (c0 kc : Nat → Nat) (K : K9) (lf ls : Nat → Int32) (gv : Int32) (ap as af : Nat → Int32) (Z : Z16) (lc lo : Int32) (h : Int64) (ze zh zs : Nat → Int32) (hG : GOOD P c0 kc s gv ap ze af lf T) : fr_L_law_596 fu L xs k T.1 (nI s) (nI P.1) (aN P.2.1) (aN P.2.2.1) (aN P.2.2.2) (aN c0) (aN kc) T.2.1 T.2.2.1 T.2.2.2.1 T.2.2.2.2.1 T.2.2.2.2.2.1 T.2.2.2.2.2.2.1 T.2.2.2.2.2.2.2.1 T.2.2.2.2.2.2.2.2.1 T.2.2.2.2.2.2.2.2.2.1 T.2.2.2.2.2.2.2.2.2.2.1 T.2.2.2.2.2.2.2.2.2.2.2.1 T.2.2.2.2.2.2.2.2.2.2.2.2.1 T.2.2.2.2.2.2.2.2.2.2.2.2.2.1 T.2.2.2.2.2.2.2.2.2.2.2.2.2.2.1 T.2.2.2.2.2.2.2.2.2.2.2.2.2.2.2 K.1 K.2.1 K.2.2.1 K.2.2.2.1 K.2.2.2.2.1 K.2.2.2.2.2.1 K.2.2.2.2.2.2.1 K.2.2.2.2.2.2.2.1 K.2.2.2.2.2.2.2.2 lf ls gv ap as af (nI P.1) gv (nI s) Z.1 Z.2.1 Z.2.2.1 Z.2.2.2.1 Z.2.2.2.2.1 Z.2.2.2.2.2.1 Z.2.2.2.2.2.2.1 Z.2.2.2.2.2.2.2.1 Z.2.2.2.2.2.2.2.2.1 lc lo Z.2.2.2.2.2.2.2.2.2.1 Z.2.2.2.2.2.2.2.2.2.2.1 Z.2.2.2.2.2.2.2.2.2.2.2.1 Z.2.2.2.2.2.2.2.2.2.2.2.2.1 h (aN P.2.1) (aN P.2.2.1) (aN P.2.2.2) (aN c0) (aN kc) ze Z.2.2.2.2.2.2.2.2.2.2.2.2.2.1 Z.2.2.2.2.2.2.2.2.2.2.2.2.2.2.1 Z.2.2.2.2.2.2.2.2.2.2.2.2.2.2.2 zh zs (nI i) = some () := by
  obtain ⟨hP, hc, hk4, hs, hgv, hag, haf, hS⟩ := hG
  have r1 : inR (nI i + 1) L := ir (j := 1) hi hL (by decide)
  have r2 : inR (nI i + 2) L := ir (j := 2) hi hL (by decide)
  have r3 : inR (nI i + 3) L := ir (j := 3) hi hL (by decide)
  obtain ⟨v, U, J, lf2, s2, W, h1, hU, hs2, h2⟩ := x_count fu hP hc (by omega) hS hk4 hs hF K lc lo Z (xs (nI i + 1).toNatClampNeg) (xs (nI i + 2).toNatClampNeg) (xs (nI i + 3).toNatClampNeg)
  unfold fr_L_law_596
  rw [if_pos r1, if_pos r2, if_pos r3, h1, Option.bind_some, if_pos r1, if_pos r2, if_pos r3, h2, Option.bind_some]
  refine Eq.trans (if_pos rfl) ?_
  rw [e5]
  exact hk U s2 P c0 kc J lf2 ls gv ap as af W lc lo h ze zh zs ⟨hP, hc, hk4, hs2, hgv, hag, haf, hU⟩
theorem case_639 (fu L : Nat) (xs : Nat → Int32) (hF : 70000 < fu) (hL : L ≤ 2560) (k : K69) {i : Nat} (hi : i + 5 ≤ L) (hk : KOK k (i + 5)) (T : M16) (s : Nat) (P : PG) (c0 kc : Nat → Nat) (K : K9) (lf ls : Nat → Int32) (gv : Int32) (ap as af : Nat → Int32) (Z : Z16) (lc lo : Int32) (h : Int64) (ze zh zs : Nat → Int32) (hG : GOOD P c0 kc s gv ap ze af lf T) : fr_L_law_639 fu L xs k T.1 (nI s) (nI P.1) (aN P.2.1) (aN P.2.2.1) (aN P.2.2.2) (aN c0) (aN kc) T.2.1 T.2.2.1 T.2.2.2.1 T.2.2.2.2.1 T.2.2.2.2.2.1 T.2.2.2.2.2.2.1 T.2.2.2.2.2.2.2.1 T.2.2.2.2.2.2.2.2.1 T.2.2.2.2.2.2.2.2.2.1 T.2.2.2.2.2.2.2.2.2.2.1 T.2.2.2.2.2.2.2.2.2.2.2.1 T.2.2.2.2.2.2.2.2.2.2.2.2.1 T.2.2.2.2.2.2.2.2.2.2.2.2.2.1 T.2.2.2.2.2.2.2.2.2.2.2.2.2.2.1 T.2.2.2.2.2.2.2.2.2.2.2.2.2.2.2 K.1 K.2.1 K.2.2.1 K.2.2.2.1 K.2.2.2.2.1 K.2.2.2.2.2.1 K.2.2.2.2.2.2.1 K.2.2.2.2.2.2.2.1 K.2.2.2.2.2.2.2.2 lf ls gv ap as af (nI P.1) gv (nI s) Z.1 Z.2.1 Z.2.2.1 Z.2.2.2.1 Z.2.2.2.2.1 Z.2.2.2.2.2.1 Z.2.2.2.2.2.2.1 Z.2.2.2.2.2.2.2.1 Z.2.2.2.2.2.2.2.2.1 lc lo Z.2.2.2.2.2.2.2.2.2.1 Z.2.2.2.2.2.2.2.2.2.2.1 Z.2.2.2.2.2.2.2.2.2.2.2.1 Z.2.2.2.2.2.2.2.2.2.2.2.2.1 h (aN P.2.1) (aN P.2.2.1) (aN P.2.2.2) (aN c0) (aN kc) ze Z.2.2.2.2.2.2.2.2.2.2.2.2.2.1 Z.2.2.2.2.2.2.2.2.2.2.2.2.2.2.1 Z.2.2.2.2.2.2.2.2.2.2.2.2.2.2.2 zh zs (nI i) = some () := by
  obtain ⟨hP, hc, hk4, hs, hgv, hag, haf, hS⟩ := hG
  have r1 : inR (nI i + 1) L := ir (j := 1) hi hL (by decide)
  obtain ⟨v, U, J, lf2, s2, W, zh2, h1, hU, hs2, h2⟩ := x_all fu hP hc (by omega) hS hk4 hs hF K lc lo Z zh (xs (nI i + 1).toNatClampNeg)
  unfold fr_L_law_639
  rw [if_pos r1, h1, Option.bind_some, if_pos r1, h2, Option.bind_some]
  refine Eq.trans (if_pos rfl) ?_
  rw [e5]
  exact hk U s2 P c0 kc J lf2 ls gv ap as af W lc lo h ze zh2 zs ⟨hP, hc, hk4, hs2, hgv, hag, haf, hU⟩
theorem case_662 (fu L : Nat) (xs : Nat → Int32) (hF : 70000 < fu) (hL : L ≤ 2560) (k : K69) {i : Nat} (hi : i + 5 ≤ L) (hk : KOK k (i + 5)) (T : M16) (s : Nat) (P : PG) (c0 kc : Nat → Nat) (K : K9) (lf ls : Nat → Int32) (gv : Int32) (ap as af : Nat → Int32) (Z : Z16) (lc lo : Int32) (h : Int64) (ze zh zs : Nat → Int32) (hG : GOOD P c0 kc s gv ap ze af lf T) : fr_L_law_662 fu L xs k T.1 (nI s) (nI P.1) (aN P.2.1) (aN P.2.2.1) (aN P.2.2.2) (aN c0) (aN kc) T.2.1 T.2.2.1 T.2.2.2.1 T.2.2.2.2.1 T.2.2.2.2.2.1 T.2.2.2.2.2.2.1 T.2.2.2.2.2.2.2.1 T.2.2.2.2.2.2.2.2.1 T.2.2.2.2.2.2.2.2.2.1 T.2.2.2.2.2.2.2.2.2.2.1 T.2.2.2.2.2.2.2.2.2.2.2.1 T.2.2.2.2.2.2.2.2.2.2.2.2.1 T.2.2.2.2.2.2.2.2.2.2.2.2.2.1 T.2.2.2.2.2.2.2.2.2.2.2.2.2.2.1 T.2.2.2.2.2.2.2.2.2.2.2.2.2.2.2 K.1 K.2.1 K.2.2.1 K.2.2.2.1 K.2.2.2.2.1 K.2.2.2.2.2.1 K.2.2.2.2.2.2.1 K.2.2.2.2.2.2.2.1 K.2.2.2.2.2.2.2.2 lf ls gv ap as af (nI P.1) gv (nI s) Z.1 Z.2.1 Z.2.2.1 Z.2.2.2.1 Z.2.2.2.2.1 Z.2.2.2.2.2.1 Z.2.2.2.2.2.2.1 Z.2.2.2.2.2.2.2.1 Z.2.2.2.2.2.2.2.2.1 lc lo Z.2.2.2.2.2.2.2.2.2.1 Z.2.2.2.2.2.2.2.2.2.2.1 Z.2.2.2.2.2.2.2.2.2.2.2.1 Z.2.2.2.2.2.2.2.2.2.2.2.2.1 h (aN P.2.1) (aN P.2.2.1) (aN P.2.2.2) (aN c0) (aN kc) ze Z.2.2.2.2.2.2.2.2.2.2.2.2.2.1 Z.2.2.2.2.2.2.2.2.2.2.2.2.2.2.1 Z.2.2.2.2.2.2.2.2.2.2.2.2.2.2.2 zh zs (nI i) = some () := by
  obtain ⟨hP, hc, hk4, hs, hgv, hag, haf, hS⟩ := hG
  have r1 : inR (nI i + 1) L := ir (j := 1) hi hL (by decide)
  have r2 : inR (nI i + 2) L := ir (j := 2) hi hL (by decide)
  obtain ⟨v, U, J, lf2, s2, W, zh2, ls2, h1, hU, hs2, h2⟩ := x_worst fu hP hc (by omega) hS hk4 hs hF K lc lo Z zh ls (xs (nI i + 1).toNatClampNeg) (xs (nI i + 2).toNatClampNeg)
  unfold fr_L_law_662
  rw [if_pos r1, if_pos r2, h1, Option.bind_some, if_pos r1, if_pos r2, h2, Option.bind_some]
  refine Eq.trans (if_pos rfl) ?_
  rw [e5]
  exact hk U s2 P c0 kc J lf2 ls2 gv ap as af W lc lo h ze zh2 zs ⟨hP, hc, hk4, hs2, hgv, hag, haf, hU⟩
theorem case_695 (fu L : Nat) (xs : Nat → Int32) (hF : 70000 < fu) (hL : L ≤ 2560) (k : K69) {i : Nat} (hi : i + 5 ≤ L) (hk : KOK k (i + 5)) (T : M16) (s : Nat) (P : PG) (c0 kc : Nat → Nat) (K : K9) (lf ls : Nat → Int32) (gv : Int32) (ap as af : Nat → Int32) (Z : Z16) (lc lo : Int32) (h : Int64) (ze zh zs : Nat → Int32) (hG : GOOD P c0 kc s gv ap ze af lf T) : fr_L_law_695 fu L xs k T.1 (nI s) (nI P.1) (aN P.2.1) (aN P.2.2.1) (aN P.2.2.2) (aN c0) (aN kc) T.2.1 T.2.2.1 T.2.2.2.1 T.2.2.2.2.1 T.2.2.2.2.2.1 T.2.2.2.2.2.2.1 T.2.2.2.2.2.2.2.1 T.2.2.2.2.2.2.2.2.1 T.2.2.2.2.2.2.2.2.2.1 T.2.2.2.2.2.2.2.2.2.2.1 T.2.2.2.2.2.2.2.2.2.2.2.1 T.2.2.2.2.2.2.2.2.2.2.2.2.1 T.2.2.2.2.2.2.2.2.2.2.2.2.2.1 T.2.2.2.2.2.2.2.2.2.2.2.2.2.2.1 T.2.2.2.2.2.2.2.2.2.2.2.2.2.2.2 K.1 K.2.1 K.2.2.1 K.2.2.2.1 K.2.2.2.2.1 K.2.2.2.2.2.1 K.2.2.2.2.2.2.1 K.2.2.2.2.2.2.2.1 K.2.2.2.2.2.2.2.2 lf ls gv ap as af (nI P.1) gv (nI s) Z.1 Z.2.1 Z.2.2.1 Z.2.2.2.1 Z.2.2.2.2.1 Z.2.2.2.2.2.1 Z.2.2.2.2.2.2.1 Z.2.2.2.2.2.2.2.1 Z.2.2.2.2.2.2.2.2.1 lc lo Z.2.2.2.2.2.2.2.2.2.1 Z.2.2.2.2.2.2.2.2.2.2.1 Z.2.2.2.2.2.2.2.2.2.2.2.1 Z.2.2.2.2.2.2.2.2.2.2.2.2.1 h (aN P.2.1) (aN P.2.2.1) (aN P.2.2.2) (aN c0) (aN kc) ze Z.2.2.2.2.2.2.2.2.2.2.2.2.2.1 Z.2.2.2.2.2.2.2.2.2.2.2.2.2.2.1 Z.2.2.2.2.2.2.2.2.2.2.2.2.2.2.2 zh zs (nI i) = some () := by
  obtain ⟨hP, hc, hk4, hs, hgv, hag, haf, hS⟩ := hG
  obtain ⟨v, h1, h2⟩ := x_costs fu (by omega) hk4
  unfold fr_L_law_695
  rw [h1, Option.bind_some, h2, Option.bind_some]
  refine Eq.trans (if_pos rfl) ?_
  rw [e5]
  exact hk T s P c0 kc K lf ls gv ap as af Z lc lo h ze zh zs ⟨hP, hc, hk4, hs, hgv, hag, haf, hS⟩
theorem case_708 (fu L : Nat) (xs : Nat → Int32) (hF : 70000 < fu) (hL : L ≤ 2560) (k : K69) {i : Nat} (hi : i + 5 ≤ L) (hk : KOK k (i + 5)) (T : M16) (s : Nat) (P : PG) (c0 kc : Nat → Nat) (K : K9) (lf ls : Nat → Int32) (gv : Int32) (ap as af : Nat → Int32) (Z : Z16) (lc lo : Int32) (h : Int64) (ze zh zs : Nat → Int32) (hG : GOOD P c0 kc s gv ap ze af lf T) : fr_L_law_708 fu L xs k T.1 (nI s) (nI P.1) (aN P.2.1) (aN P.2.2.1) (aN P.2.2.2) (aN c0) (aN kc) T.2.1 T.2.2.1 T.2.2.2.1 T.2.2.2.2.1 T.2.2.2.2.2.1 T.2.2.2.2.2.2.1 T.2.2.2.2.2.2.2.1 T.2.2.2.2.2.2.2.2.1 T.2.2.2.2.2.2.2.2.2.1 T.2.2.2.2.2.2.2.2.2.2.1 T.2.2.2.2.2.2.2.2.2.2.2.1 T.2.2.2.2.2.2.2.2.2.2.2.2.1 T.2.2.2.2.2.2.2.2.2.2.2.2.2.1 T.2.2.2.2.2.2.2.2.2.2.2.2.2.2.1 T.2.2.2.2.2.2.2.2.2.2.2.2.2.2.2 K.1 K.2.1 K.2.2.1 K.2.2.2.1 K.2.2.2.2.1 K.2.2.2.2.2.1 K.2.2.2.2.2.2.1 K.2.2.2.2.2.2.2.1 K.2.2.2.2.2.2.2.2 lf ls gv ap as af (nI P.1) gv (nI s) Z.1 Z.2.1 Z.2.2.1 Z.2.2.2.1 Z.2.2.2.2.1 Z.2.2.2.2.2.1 Z.2.2.2.2.2.2.1 Z.2.2.2.2.2.2.2.1 Z.2.2.2.2.2.2.2.2.1 lc lo Z.2.2.2.2.2.2.2.2.2.1 Z.2.2.2.2.2.2.2.2.2.2.1 Z.2.2.2.2.2.2.2.2.2.2.2.1 Z.2.2.2.2.2.2.2.2.2.2.2.2.1 h (aN P.2.1) (aN P.2.2.1) (aN P.2.2.2) (aN c0) (aN kc) ze Z.2.2.2.2.2.2.2.2.2.2.2.2.2.1 Z.2.2.2.2.2.2.2.2.2.2.2.2.2.2.1 Z.2.2.2.2.2.2.2.2.2.2.2.2.2.2.2 zh zs (nI i) = some () := by
  obtain ⟨hP, hc, hk4, hs, hgv, hag, haf, hS⟩ := hG
  have r1 : inR (nI i + 1) L := ir (j := 1) hi hL (by decide)
  have r2 : inR (nI i + 2) L := ir (j := 2) hi hL (by decide)
  obtain ⟨v, U, J, lf2, s2, W, gv2, ap2, as2, af2, ze2, zs2, h1, hU, hs2, hgv2, hag2, haf2, h2⟩ := x_best fu hP hc (by omega) hS hs hF K lc lo Z gv hgv ap as af ze zs hag haf (xs (nI i + 1).toNatClampNeg) (xs (nI i + 2).toNatClampNeg)
  unfold fr_L_law_708
  rw [if_pos r1, if_pos r2, h1, Option.bind_some, if_pos r1, if_pos r2, h2, Option.bind_some]
  refine Eq.trans (if_pos rfl) ?_
  rw [e5]
  exact hk U s2 P c0 kc J lf2 ls gv2 ap2 as2 af2 W lc lo h ze2 zh zs2 ⟨hP, hc, hk4, hs2, hgv2, hag2, haf2, hU⟩
theorem case_741 (fu L : Nat) (xs : Nat → Int32) (hF : 70000 < fu) (hL : L ≤ 2560) (k : K69) {i : Nat} (hi : i + 5 ≤ L) (hk : KOK k (i + 5)) (T : M16) (s : Nat) (P : PG) (c0 kc : Nat → Nat) (K : K9) (lf ls : Nat → Int32) (gv : Int32) (ap as af : Nat → Int32) (Z : Z16) (lc lo : Int32) (h : Int64) (ze zh zs : Nat → Int32) (hG : GOOD P c0 kc s gv ap ze af lf T) : fr_L_law_741 fu L xs k T.1 (nI s) (nI P.1) (aN P.2.1) (aN P.2.2.1) (aN P.2.2.2) (aN c0) (aN kc) T.2.1 T.2.2.1 T.2.2.2.1 T.2.2.2.2.1 T.2.2.2.2.2.1 T.2.2.2.2.2.2.1 T.2.2.2.2.2.2.2.1 T.2.2.2.2.2.2.2.2.1 T.2.2.2.2.2.2.2.2.2.1 T.2.2.2.2.2.2.2.2.2.2.1 T.2.2.2.2.2.2.2.2.2.2.2.1 T.2.2.2.2.2.2.2.2.2.2.2.2.1 T.2.2.2.2.2.2.2.2.2.2.2.2.2.1 T.2.2.2.2.2.2.2.2.2.2.2.2.2.2.1 T.2.2.2.2.2.2.2.2.2.2.2.2.2.2.2 K.1 K.2.1 K.2.2.1 K.2.2.2.1 K.2.2.2.2.1 K.2.2.2.2.2.1 K.2.2.2.2.2.2.1 K.2.2.2.2.2.2.2.1 K.2.2.2.2.2.2.2.2 lf ls gv ap as af (nI P.1) gv (nI s) Z.1 Z.2.1 Z.2.2.1 Z.2.2.2.1 Z.2.2.2.2.1 Z.2.2.2.2.2.1 Z.2.2.2.2.2.2.1 Z.2.2.2.2.2.2.2.1 Z.2.2.2.2.2.2.2.2.1 lc lo Z.2.2.2.2.2.2.2.2.2.1 Z.2.2.2.2.2.2.2.2.2.2.1 Z.2.2.2.2.2.2.2.2.2.2.2.1 Z.2.2.2.2.2.2.2.2.2.2.2.2.1 h (aN P.2.1) (aN P.2.2.1) (aN P.2.2.2) (aN c0) (aN kc) ze Z.2.2.2.2.2.2.2.2.2.2.2.2.2.1 Z.2.2.2.2.2.2.2.2.2.2.2.2.2.2.1 Z.2.2.2.2.2.2.2.2.2.2.2.2.2.2.2 zh zs (nI i) = some () := by
  obtain ⟨hP, hc, hk4, hs, hgv, hag, haf, hS⟩ := hG
  have r1 : inR (nI i + 1) L := ir (j := 1) hi hL (by decide)
  obtain ⟨v, h1, h2⟩ := x_chosen fu hag gv (xs (nI i + 1).toNatClampNeg)
  unfold fr_L_law_741
  rw [if_pos r1, h1, Option.bind_some, if_pos r1, h2, Option.bind_some]
  refine Eq.trans (if_pos rfl) ?_
  rw [e5]
  exact hk T s P c0 kc K lf ls gv ap as af Z lc lo h ze zh zs ⟨hP, hc, hk4, hs, hgv, hag, haf, hS⟩
theorem case_764 (fu L : Nat) (xs : Nat → Int32) (hF : 70000 < fu) (hL : L ≤ 2560) (k : K69) {i : Nat} (hi : i + 5 ≤ L) (hk : KOK k (i + 5)) (T : M16) (s : Nat) (P : PG) (c0 kc : Nat → Nat) (K : K9) (lf ls : Nat → Int32) (gv : Int32) (ap as af : Nat → Int32) (Z : Z16) (lc lo : Int32) (h : Int64) (ze zh zs : Nat → Int32) (hG : GOOD P c0 kc s gv ap ze af lf T) : fr_L_law_764 fu L xs k T.1 (nI s) (nI P.1) (aN P.2.1) (aN P.2.2.1) (aN P.2.2.2) (aN c0) (aN kc) T.2.1 T.2.2.1 T.2.2.2.1 T.2.2.2.2.1 T.2.2.2.2.2.1 T.2.2.2.2.2.2.1 T.2.2.2.2.2.2.2.1 T.2.2.2.2.2.2.2.2.1 T.2.2.2.2.2.2.2.2.2.1 T.2.2.2.2.2.2.2.2.2.2.1 T.2.2.2.2.2.2.2.2.2.2.2.1 T.2.2.2.2.2.2.2.2.2.2.2.2.1 T.2.2.2.2.2.2.2.2.2.2.2.2.2.1 T.2.2.2.2.2.2.2.2.2.2.2.2.2.2.1 T.2.2.2.2.2.2.2.2.2.2.2.2.2.2.2 K.1 K.2.1 K.2.2.1 K.2.2.2.1 K.2.2.2.2.1 K.2.2.2.2.2.1 K.2.2.2.2.2.2.1 K.2.2.2.2.2.2.2.1 K.2.2.2.2.2.2.2.2 lf ls gv ap as af (nI P.1) gv (nI s) Z.1 Z.2.1 Z.2.2.1 Z.2.2.2.1 Z.2.2.2.2.1 Z.2.2.2.2.2.1 Z.2.2.2.2.2.2.1 Z.2.2.2.2.2.2.2.1 Z.2.2.2.2.2.2.2.2.1 lc lo Z.2.2.2.2.2.2.2.2.2.1 Z.2.2.2.2.2.2.2.2.2.2.1 Z.2.2.2.2.2.2.2.2.2.2.2.1 Z.2.2.2.2.2.2.2.2.2.2.2.2.1 h (aN P.2.1) (aN P.2.2.1) (aN P.2.2.2) (aN c0) (aN kc) ze Z.2.2.2.2.2.2.2.2.2.2.2.2.2.1 Z.2.2.2.2.2.2.2.2.2.2.2.2.2.2.1 Z.2.2.2.2.2.2.2.2.2.2.2.2.2.2.2 zh zs (nI i) = some () := by
  obtain ⟨hP, hc, hk4, hs, hgv, hag, haf, hS⟩ := hG
  obtain ⟨v, d, h1, h2, hd⟩ := x_take fu (by omega) hag hk4 gv
  unfold fr_L_law_764
  rw [h1, Option.bind_some, h2, Option.bind_some]
  refine Eq.trans (if_pos rfl) ?_
  rw [e5]
  exact hk T s P c0 d K lf ls gv ap as af Z lc lo h ze zh zs ⟨hP, hc, hd, hs, hgv, hag, haf, hS⟩
theorem case_777 (fu L : Nat) (xs : Nat → Int32) (hF : 70000 < fu) (hL : L ≤ 2560) (k : K69) {i : Nat} (hi : i + 5 ≤ L) (hk : KOK k (i + 5)) (T : M16) (s : Nat) (P : PG) (c0 kc : Nat → Nat) (K : K9) (lf ls : Nat → Int32) (gv : Int32) (ap as af : Nat → Int32) (Z : Z16) (lc lo : Int32) (h : Int64) (ze zh zs : Nat → Int32) (hG : GOOD P c0 kc s gv ap ze af lf T) : fr_L_law_777 fu L xs k T.1 (nI s) (nI P.1) (aN P.2.1) (aN P.2.2.1) (aN P.2.2.2) (aN c0) (aN kc) T.2.1 T.2.2.1 T.2.2.2.1 T.2.2.2.2.1 T.2.2.2.2.2.1 T.2.2.2.2.2.2.1 T.2.2.2.2.2.2.2.1 T.2.2.2.2.2.2.2.2.1 T.2.2.2.2.2.2.2.2.2.1 T.2.2.2.2.2.2.2.2.2.2.1 T.2.2.2.2.2.2.2.2.2.2.2.1 T.2.2.2.2.2.2.2.2.2.2.2.2.1 T.2.2.2.2.2.2.2.2.2.2.2.2.2.1 T.2.2.2.2.2.2.2.2.2.2.2.2.2.2.1 T.2.2.2.2.2.2.2.2.2.2.2.2.2.2.2 K.1 K.2.1 K.2.2.1 K.2.2.2.1 K.2.2.2.2.1 K.2.2.2.2.2.1 K.2.2.2.2.2.2.1 K.2.2.2.2.2.2.2.1 K.2.2.2.2.2.2.2.2 lf ls gv ap as af (nI P.1) gv (nI s) Z.1 Z.2.1 Z.2.2.1 Z.2.2.2.1 Z.2.2.2.2.1 Z.2.2.2.2.2.1 Z.2.2.2.2.2.2.1 Z.2.2.2.2.2.2.2.1 Z.2.2.2.2.2.2.2.2.1 lc lo Z.2.2.2.2.2.2.2.2.2.1 Z.2.2.2.2.2.2.2.2.2.2.1 Z.2.2.2.2.2.2.2.2.2.2.2.1 Z.2.2.2.2.2.2.2.2.2.2.2.2.1 h (aN P.2.1) (aN P.2.2.1) (aN P.2.2.2) (aN c0) (aN kc) ze Z.2.2.2.2.2.2.2.2.2.2.2.2.2.1 Z.2.2.2.2.2.2.2.2.2.2.2.2.2.2.1 Z.2.2.2.2.2.2.2.2.2.2.2.2.2.2.2 zh zs (nI i) = some () := by
  obtain ⟨hP, hc, hk4, hs, hgv, hag, haf, hS⟩ := hG
  have r1 : inR (nI i + 1) L := ir (j := 1) hi hL (by decide)
  have r2 : inR (nI i + 2) L := ir (j := 2) hi hL (by decide)
  obtain ⟨v, h1, h2⟩ := x_about fu hP (xs (nI i + 1).toNatClampNeg) (xs (nI i + 2).toNatClampNeg)
  unfold fr_L_law_777
  rw [if_pos r1, if_pos r2, h1, Option.bind_some, if_pos r1, if_pos r2, h2, Option.bind_some]
  refine Eq.trans (if_pos rfl) ?_
  rw [e5]
  exact hk T s P c0 kc K lf ls gv ap as af Z lc lo h ze zh zs ⟨hP, hc, hk4, hs, hgv, hag, haf, hS⟩
theorem case_810 (fu L : Nat) (xs : Nat → Int32) (hF : 70000 < fu) (hL : L ≤ 2560) (k : K69) {i : Nat} (hi : i + 5 ≤ L) (hk : KOK k (i + 5)) (T : M16) (s : Nat) (P : PG) (c0 kc : Nat → Nat) (K : K9) (lf ls : Nat → Int32) (gv : Int32) (ap as af : Nat → Int32) (Z : Z16) (lc lo : Int32) (h : Int64) (ze zh zs : Nat → Int32) (hG : GOOD P c0 kc s gv ap ze af lf T) : fr_L_law_810 fu L xs k T.1 (nI s) (nI P.1) (aN P.2.1) (aN P.2.2.1) (aN P.2.2.2) (aN c0) (aN kc) T.2.1 T.2.2.1 T.2.2.2.1 T.2.2.2.2.1 T.2.2.2.2.2.1 T.2.2.2.2.2.2.1 T.2.2.2.2.2.2.2.1 T.2.2.2.2.2.2.2.2.1 T.2.2.2.2.2.2.2.2.2.1 T.2.2.2.2.2.2.2.2.2.2.1 T.2.2.2.2.2.2.2.2.2.2.2.1 T.2.2.2.2.2.2.2.2.2.2.2.2.1 T.2.2.2.2.2.2.2.2.2.2.2.2.2.1 T.2.2.2.2.2.2.2.2.2.2.2.2.2.2.1 T.2.2.2.2.2.2.2.2.2.2.2.2.2.2.2 K.1 K.2.1 K.2.2.1 K.2.2.2.1 K.2.2.2.2.1 K.2.2.2.2.2.1 K.2.2.2.2.2.2.1 K.2.2.2.2.2.2.2.1 K.2.2.2.2.2.2.2.2 lf ls gv ap as af (nI P.1) gv (nI s) Z.1 Z.2.1 Z.2.2.1 Z.2.2.2.1 Z.2.2.2.2.1 Z.2.2.2.2.2.1 Z.2.2.2.2.2.2.1 Z.2.2.2.2.2.2.2.1 Z.2.2.2.2.2.2.2.2.1 lc lo Z.2.2.2.2.2.2.2.2.2.1 Z.2.2.2.2.2.2.2.2.2.2.1 Z.2.2.2.2.2.2.2.2.2.2.2.1 Z.2.2.2.2.2.2.2.2.2.2.2.2.1 h (aN P.2.1) (aN P.2.2.1) (aN P.2.2.2) (aN c0) (aN kc) ze Z.2.2.2.2.2.2.2.2.2.2.2.2.2.1 Z.2.2.2.2.2.2.2.2.2.2.2.2.2.2.1 Z.2.2.2.2.2.2.2.2.2.2.2.2.2.2.2 zh zs (nI i) = some () := by
  obtain ⟨hP, hc, hk4, hs, hgv, hag, haf, hS⟩ := hG
  have r1 : inR (nI i + 1) L := ir (j := 1) hi hL (by decide)
  obtain ⟨v, h1, h2⟩ := x_size fu (by omega) hk4 (nI s) (nI P.1) (xs (nI i + 1).toNatClampNeg)
  unfold fr_L_law_810
  rw [if_pos r1, h1, Option.bind_some, if_pos r1, h2, Option.bind_some]
  refine Eq.trans (if_pos rfl) ?_
  rw [e5]
  exact hk T s P c0 kc K lf ls gv ap as af Z lc lo h ze zh zs ⟨hP, hc, hk4, hs, hgv, hag, haf, hS⟩
theorem case_833 (fu L : Nat) (xs : Nat → Int32) (hF : 70000 < fu) (hL : L ≤ 2560) (k : K69) {i : Nat} (hi : i + 5 ≤ L) (hk : KOK k (i + 5)) (T : M16) (s : Nat) (P : PG) (c0 kc : Nat → Nat) (K : K9) (lf ls : Nat → Int32) (gv : Int32) (ap as af : Nat → Int32) (Z : Z16) (lc lo : Int32) (h : Int64) (ze zh zs : Nat → Int32) (hG : GOOD P c0 kc s gv ap ze af lf T) : fr_L_law_833 fu L xs k T.1 (nI s) (nI P.1) (aN P.2.1) (aN P.2.2.1) (aN P.2.2.2) (aN c0) (aN kc) T.2.1 T.2.2.1 T.2.2.2.1 T.2.2.2.2.1 T.2.2.2.2.2.1 T.2.2.2.2.2.2.1 T.2.2.2.2.2.2.2.1 T.2.2.2.2.2.2.2.2.1 T.2.2.2.2.2.2.2.2.2.1 T.2.2.2.2.2.2.2.2.2.2.1 T.2.2.2.2.2.2.2.2.2.2.2.1 T.2.2.2.2.2.2.2.2.2.2.2.2.1 T.2.2.2.2.2.2.2.2.2.2.2.2.2.1 T.2.2.2.2.2.2.2.2.2.2.2.2.2.2.1 T.2.2.2.2.2.2.2.2.2.2.2.2.2.2.2 K.1 K.2.1 K.2.2.1 K.2.2.2.1 K.2.2.2.2.1 K.2.2.2.2.2.1 K.2.2.2.2.2.2.1 K.2.2.2.2.2.2.2.1 K.2.2.2.2.2.2.2.2 lf ls gv ap as af (nI P.1) gv (nI s) Z.1 Z.2.1 Z.2.2.1 Z.2.2.2.1 Z.2.2.2.2.1 Z.2.2.2.2.2.1 Z.2.2.2.2.2.2.1 Z.2.2.2.2.2.2.2.1 Z.2.2.2.2.2.2.2.2.1 lc lo Z.2.2.2.2.2.2.2.2.2.1 Z.2.2.2.2.2.2.2.2.2.2.1 Z.2.2.2.2.2.2.2.2.2.2.2.1 Z.2.2.2.2.2.2.2.2.2.2.2.2.1 h (aN P.2.1) (aN P.2.2.1) (aN P.2.2.2) (aN c0) (aN kc) ze Z.2.2.2.2.2.2.2.2.2.2.2.2.2.1 Z.2.2.2.2.2.2.2.2.2.2.2.2.2.2.1 Z.2.2.2.2.2.2.2.2.2.2.2.2.2.2.2 zh zs (nI i) = some () := by
  obtain ⟨hP, hc, hk4, hs, hgv, hag, haf, hS⟩ := hG
  obtain ⟨v, U, W, h1, hU, h2⟩ := x_digest fu hP hc (by omega) hS kc (nI s) hag gv lc lo Z h
  unfold fr_L_law_833
  rw [h1, Option.bind_some, h2, Option.bind_some]
  refine Eq.trans (if_pos (cmp0 v)) ?_
  rw [e5]
  exact hk U s P c0 kc K lf ls gv ap as af W lc lo v ze zh zs ⟨hP, hc, hk4, hs, hgv, hag, haf, hU⟩
