/-! THE LAW'S LOOP -/
theorem end5 {L i : Nat} (hL : L ≤ 2560) (hi : i ≤ 2600) : (Int32.ofNat L) - (5 : Int32) < nI i ↔ L < i + 5 := by
  have h1 : (Int32.ofNat L).toInt = (L : Int) := nI_toInt (n := L) (by omega)
  have h2 : (5 : Int32).toInt = 5 := rfl
  rw [Int32.lt_iff_toInt_lt, fb_subI (by rw [h1, h2]; omega) (by rw [h1, h2]; omega), h1, h2, nI_toInt (by omega)]
  omega
abbrev KEND : Int32 → Int32 → Int32 → (Nat → Int32) → (Nat → Int32) → (Nat → Int32) → (Nat → Int32) → (Nat → Int32) → Int32 → Int32 → Int32 → Int32 → Int32 → Int32 → Int32 → (Nat → Int32) → (Nat → Int32) → (Nat → Int32) → (Nat → Int32) → (Nat → Int32) → (Nat → Int32) → (Nat → Int32) → Int32 → Int32 → Int32 → Int32 → Int32 → Int32 → Int32 → Int32 → (Nat → Int32) → (Nat → Int32) → (Nat → Int32) → (Nat → Int32) → Int32 → (Nat → Int32) → (Nat → Int32) → (Nat → Int32) → Int32 → Int32 → Int32 → Int32 → Int32 → Int32 → Int32 → Int32 → Int32 → Int32 → Int32 → Int32 → Int32 → Int32 → Int32 → Int32 → Int32 → Int32 → Int64 → (Nat → Int32) → (Nat → Int32) → (Nat → Int32) → (Nat → Int32) → (Nat → Int32) → (Nat → Int32) → (Nat → Int32) → (Nat → Int32) → (Nat → Int32) → (Nat → Int32) → (Nat → Int32) → Option Unit := fun _ _ _ _ _ _ _ _ _ _ _ _ _ _ _ _ _ _ _ _ _ _ _ _ _ _ _ _ _ _ _ _ _ _ _ _ _ _ _ _ _ _ _ _ _ _ _ _ _ _ _ _ _ _ _ _ _ _ _ _ _ _ _ _ _ _ _ _ => some ()
set_option maxHeartbeats 4000000 in
theorem law_loop (fu L : Nat) (xs : Nat → Int32) (hF : 70000 < fu) (hL : L ≤ 2560) : ∀ (n i : Nat), i ≤ L + 4 → L + 5 ≤ i + 5 * n → ∀ (T : M16) (s : Nat) (P : PG) (c0 kc : Nat → Nat) (K : K9) (lf ls : Nat → Int32) (gv : Int32) (ap as af : Nat → Int32) (Z : Z16) (lc lo : Int32) (h : Int64) (ze zh zs : Nat → Int32), GOOD P c0 kc s gv ap ze af lf T → fr_L_law_18 fu L xs KEND n T.1 (nI s) (nI P.1) (aN P.2.1) (aN P.2.2.1) (aN P.2.2.2) (aN c0) (aN kc) T.2.1 T.2.2.1 T.2.2.2.1 T.2.2.2.2.1 T.2.2.2.2.2.1 T.2.2.2.2.2.2.1 T.2.2.2.2.2.2.2.1 T.2.2.2.2.2.2.2.2.1 T.2.2.2.2.2.2.2.2.2.1 T.2.2.2.2.2.2.2.2.2.2.1 T.2.2.2.2.2.2.2.2.2.2.2.1 T.2.2.2.2.2.2.2.2.2.2.2.2.1 T.2.2.2.2.2.2.2.2.2.2.2.2.2.1 T.2.2.2.2.2.2.2.2.2.2.2.2.2.2.1 T.2.2.2.2.2.2.2.2.2.2.2.2.2.2.2 K.1 K.2.1 K.2.2.1 K.2.2.2.1 K.2.2.2.2.1 K.2.2.2.2.2.1 K.2.2.2.2.2.2.1 K.2.2.2.2.2.2.2.1 K.2.2.2.2.2.2.2.2 lf ls gv ap as af (nI P.1) gv (nI s) Z.1 Z.2.1 Z.2.2.1 Z.2.2.2.1 Z.2.2.2.2.1 Z.2.2.2.2.2.1 Z.2.2.2.2.2.2.1 Z.2.2.2.2.2.2.2.1 Z.2.2.2.2.2.2.2.2.1 lc lo Z.2.2.2.2.2.2.2.2.2.1 Z.2.2.2.2.2.2.2.2.2.2.1 Z.2.2.2.2.2.2.2.2.2.2.2.1 Z.2.2.2.2.2.2.2.2.2.2.2.2.1 h (aN P.2.1) (aN P.2.2.1) (aN P.2.2.2) (aN c0) (aN kc) ze Z.2.2.2.2.2.2.2.2.2.2.2.2.2.1 Z.2.2.2.2.2.2.2.2.2.2.2.2.2.2.1 Z.2.2.2.2.2.2.2.2.2.2.2.2.2.2.2 zh zs (nI i) = some () := by
  intro n
  induction n with
  | zero => intro i h1 h2; omega
  | succ n ih =>
    intro i h1 h2 T s P c0 kc K lf ls gv ap as af Z lc lo h ze zh zs hG
    rw [fr_L_law_18]
    by_cases q : L < i + 5
    · rw [if_pos ((end5 hL (by omega)).mpr q)]
    · have hi : i + 5 ≤ L := by omega
      have hk : KOK (fun a1 a2 a3 a4 a5 a6 a7 a8 a9 a10 a11 a12 a13 a14 a15 a16 a17 a18 a19 a20 a21 a22 a23 a24 a25 a26 a27 a28 a29 a30 a31 a32 a33 a34 a35 a36 a37 a38 a39 a40 a41 a42 a43 a44 a45 a46 a47 a48 a49 a50 a51 a52 a53 a54 a55 a56 a57 a58 a59 a60 a61 a62 a63 a64 a65 a66 a67 a68 y => fr_L_law_18 fu L xs KEND n a1 a2 a3 a4 a5 a6 a7 a8 a9 a10 a11 a12 a13 a14 a15 a16 a17 a18 a19 a20 a21 a22 a23 a24 a25 a26 a27 a28 a29 a30 a31 a32 a33 a34 a35 a36 a37 a38 a39 a40 a41 a42 a43 a44 a45 a46 a47 a48 a49 a50 a51 a52 a53 a54 a55 a56 a57 a58 a59 a60 a61 a62 a63 a64 a65 a66 a67 a68 y) (i + 5) := ih (i + 5) (by omega) (by omega)
      rw [if_neg (fun z => q ((end5 hL (by omega)).mp z)), if_pos (show inR (nI i) L from in_i (by omega) (by omega))]
      by_cases q0 : (xs (nI i).toNatClampNeg &&& 31) = (0 : Int32)
      · rw [if_pos q0]; exact case_144 fu L xs hF hL _ hi hk T s P c0 kc K lf ls gv ap as af Z lc lo h ze zh zs hG
      rw [if_neg q0]
      by_cases q1 : (xs (nI i).toNatClampNeg &&& 31) = (1 : Int32)
      · rw [if_pos q1]; exact case_187 fu L xs hF hL _ hi hk T s P c0 kc K lf ls gv ap as af Z lc lo h ze zh zs hG
      rw [if_neg q1]
      by_cases q2 : (xs (nI i).toNatClampNeg &&& 31) = (2 : Int32)
      · rw [if_pos q2]; exact case_240 fu L xs hF hL _ hi hk T s P c0 kc K lf ls gv ap as af Z lc lo h ze zh zs hG
      rw [if_neg q2]
      by_cases q3 : (xs (nI i).toNatClampNeg &&& 31) = (3 : Int32)
      · rw [if_pos q3]; exact case_253 fu L xs hF hL _ hi hk T s P c0 kc K lf ls gv ap as af Z lc lo h ze zh zs hG
      rw [if_neg q3]
      by_cases q4 : (xs (nI i).toNatClampNeg &&& 31) = (4 : Int32)
      · rw [if_pos q4]; exact case_286 fu L xs hF hL _ hi hk T s P c0 kc K lf ls gv ap as af Z lc lo h ze zh zs hG
      rw [if_neg q4]
      by_cases q5 : (xs (nI i).toNatClampNeg &&& 31) = (5 : Int32)
      · rw [if_pos q5]; exact case_319 fu L xs hF hL _ hi hk T s P c0 kc K lf ls gv ap as af Z lc lo h ze zh zs hG
      rw [if_neg q5]
      by_cases q6 : (xs (nI i).toNatClampNeg &&& 31) = (6 : Int32)
      · rw [if_pos q6]; exact case_332 fu L xs hF hL _ hi hk T s P c0 kc K lf ls gv ap as af Z lc lo h ze zh zs hG
      rw [if_neg q6]
      by_cases q7 : (xs (nI i).toNatClampNeg &&& 31) = (7 : Int32)
      · rw [if_pos q7]; exact case_345 fu L xs hF hL _ hi hk T s P c0 kc K lf ls gv ap as af Z lc lo h ze zh zs hG
      rw [if_neg q7]
      by_cases q8 : (xs (nI i).toNatClampNeg &&& 31) = (8 : Int32)
      · rw [if_pos q8]; exact case_358 fu L xs hF hL _ hi hk T s P c0 kc K lf ls gv ap as af Z lc lo h ze zh zs hG
      rw [if_neg q8]
      by_cases q9 : (xs (nI i).toNatClampNeg &&& 31) = (9 : Int32)
      · rw [if_pos q9]; exact case_381 fu L xs hF hL _ hi hk T s P c0 kc K lf ls gv ap as af Z lc lo h ze zh zs hG
      rw [if_neg q9]
      by_cases q10 : (xs (nI i).toNatClampNeg &&& 31) = (10 : Int32)
      · rw [if_pos q10]; exact case_404 fu L xs hF hL _ hi hk T s P c0 kc K lf ls gv ap as af Z lc lo h ze zh zs hG
      rw [if_neg q10]
      by_cases q11 : (xs (nI i).toNatClampNeg &&& 31) = (11 : Int32)
      · rw [if_pos q11]; exact case_437 fu L xs hF hL _ hi hk T s P c0 kc K lf ls gv ap as af Z lc lo h ze zh zs hG
      rw [if_neg q11]
      by_cases q12 : (xs (nI i).toNatClampNeg &&& 31) = (12 : Int32)
      · rw [if_pos q12]; exact case_490 fu L xs hF hL _ hi hk T s P c0 kc K lf ls gv ap as af Z lc lo h ze zh zs hG
      rw [if_neg q12]
      by_cases q13 : (xs (nI i).toNatClampNeg &&& 31) = (13 : Int32)
      · rw [if_pos q13]; exact case_543 fu L xs hF hL _ hi hk T s P c0 kc K lf ls gv ap as af Z lc lo h ze zh zs hG
      rw [if_neg q13]
      by_cases q14 : (xs (nI i).toNatClampNeg &&& 31) = (14 : Int32)
      · rw [if_pos q14]; exact case_596 fu L xs hF hL _ hi hk T s P c0 kc K lf ls gv ap as af Z lc lo h ze zh zs hG
      rw [if_neg q14]
      by_cases q15 : (xs (nI i).toNatClampNeg &&& 31) = (15 : Int32)
      · rw [if_pos q15]; exact case_639 fu L xs hF hL _ hi hk T s P c0 kc K lf ls gv ap as af Z lc lo h ze zh zs hG
      rw [if_neg q15]
      by_cases q16 : (xs (nI i).toNatClampNeg &&& 31) = (16 : Int32)
      · rw [if_pos q16]; exact case_662 fu L xs hF hL _ hi hk T s P c0 kc K lf ls gv ap as af Z lc lo h ze zh zs hG
      rw [if_neg q16]
      by_cases q17 : (xs (nI i).toNatClampNeg &&& 31) = (17 : Int32)
      · rw [if_pos q17]; exact case_695 fu L xs hF hL _ hi hk T s P c0 kc K lf ls gv ap as af Z lc lo h ze zh zs hG
      rw [if_neg q17]
      by_cases q18 : (xs (nI i).toNatClampNeg &&& 31) = (18 : Int32)
      · rw [if_pos q18]; exact case_708 fu L xs hF hL _ hi hk T s P c0 kc K lf ls gv ap as af Z lc lo h ze zh zs hG
      rw [if_neg q18]
      by_cases q19 : (xs (nI i).toNatClampNeg &&& 31) = (19 : Int32)
      · rw [if_pos q19]; exact case_741 fu L xs hF hL _ hi hk T s P c0 kc K lf ls gv ap as af Z lc lo h ze zh zs hG
      rw [if_neg q19]
      by_cases q20 : (xs (nI i).toNatClampNeg &&& 31) = (20 : Int32)
      · rw [if_pos q20]; exact case_764 fu L xs hF hL _ hi hk T s P c0 kc K lf ls gv ap as af Z lc lo h ze zh zs hG
      rw [if_neg q20]
      by_cases q21 : (xs (nI i).toNatClampNeg &&& 31) = (21 : Int32)
      · rw [if_pos q21]; exact case_777 fu L xs hF hL _ hi hk T s P c0 kc K lf ls gv ap as af Z lc lo h ze zh zs hG
      rw [if_neg q21]
      by_cases q22 : (xs (nI i).toNatClampNeg &&& 31) = (22 : Int32)
      · rw [if_pos q22]; exact case_810 fu L xs hF hL _ hi hk T s P c0 kc K lf ls gv ap as af Z lc lo h ze zh zs hG
      rw [if_neg q22]
      by_cases q23 : (xs (nI i).toNatClampNeg &&& 31) = (23 : Int32)
      · rw [if_pos q23]; exact case_833 fu L xs hF hL _ hi hk T s P c0 kc K lf ls gv ap as af Z lc lo h ze zh zs hG
      rw [if_neg q23]
      rw [e5]
      exact ih (i + 5) (by omega) (by omega) T s P c0 kc K lf ls gv ap as af Z lc lo h ze zh zs hG
theorem law_good (L : Nat) (xs : Nat → Int32) (hL : L ≤ 2560) : ∃ fu : Nat, fr_L_law_18 fu L xs KEND fu (1 : Int32) (0 : Int32) (0 : Int32) (fun _ => 0) (fun _ => 0) (fun _ => 0) (fun _ => 0) (fun _ => 0) (0 : Int32) (0 : Int32) (0 : Int32) (3 : Int32) (0 : Int32) (0 : Int32) (0 : Int32) (fun _ => 0) (fun _ => 0) (fun _ => 0) (fun _ => 0) (fun _ => 0) (fun _ => 0) (fun _ => 0) (0 : Int32) (0 : Int32) (0 : Int32) (0 : Int32) (3 : Int32) (0 : Int32) (0 : Int32) (0 : Int32) (fun _ => 0) (fun _ => 0) (fun _ => 0) (fun _ => 0) (0 : Int32) (fun _ => 0) (fun _ => 0) (fun _ => 0) (0 : Int32) (0 : Int32) (0 : Int32) (0 : Int32) (0 : Int32) (0 : Int32) (0 : Int32) (0 : Int32) (0 : Int32) (0 : Int32) (0 : Int32) (0 : Int32) (0 : Int32) (0 : Int32) (0 : Int32) (0 : Int32) (0 : Int32) (0 : Int32) (0 : Int64) (fun _ => 0) (fun _ => 0) (fun _ => 0) (fun _ => 0) (fun _ => 0) (fun _ => 0) (fun _ => 0) (fun _ => 0) (fun _ => 0) (fun _ => 0) (fun _ => 0) (0 : Int32) = some () :=
  ⟨70001, law_loop 70001 L xs (by decide) hL 70001 0 (by omega) (by omega) (1, 0, 0, 0, 3, 0, 0, 0, fun _ => 0, fun _ => 0, fun _ => 0, fun _ => 0, fun _ => 0, fun _ => 0, fun _ => 0, 0) 0 (0, fun _ => 0, fun _ => 0, fun _ => 0) (fun _ => 0) (fun _ => 0) (0, 0, 0, 3, 0, 0, 0, fun _ => 0, fun _ => 0) (fun _ => 0) (fun _ => 0) 0 (fun _ => 0) (fun _ => 0) (fun _ => 0) (0, 0, 0, 0, 0, 0, 0, 0, 0, 0, 0, 0, 0, fun _ => 0, fun _ => 0, fun _ => 0) 0 0 0 (fun _ => 0) (fun _ => 0) (fun _ => 0)
    ⟨⟨Nat.zero_le _, fun j hj => absurd hj (Nat.not_lt_zero j)⟩, fun _ _ => (show (0 : Nat) < 256 by decide), fun _ _ => (show (0 : Nat) < 4 by decide), by decide, Or.inl rfl, ⟨fun _ => 0, fun _ _ => ⟨rfl, rfl, (show (0 : Nat) < 4 by decide)⟩⟩, fun _ _ _ => rfl, Or.inl rfl⟩⟩
