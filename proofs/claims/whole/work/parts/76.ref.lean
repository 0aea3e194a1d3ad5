/-! THE REFERENCE'S STEP -/
/-- a reading: what it does to (wasRead, isCaught, firstUse) -/
def RD (fc wd so st lc lf tk : Int32) (F : Int32 × Int32 × Int32) (a : Int32) : Int32 × Int32 × Int32 :=
  (if a = fc ∧ ¬ st = 0 then 1 else F.1, if a = fc ∧ ¬ st = 0 then (if F.2.1 = 0 then (if (so = 1 ∧ wd = 1) ∨ so = 2 then 1 else 0) else 1) else F.2.1, if a = lc ∧ ¬ tk < lf ∧ F.2.2 = 0 then 1 else F.2.2)
theorem l_rd (fu : Nat) (tk fc wd so st wr ca lc lf u a : Int32) : f_X7_read fu tk fc wd so st wr ca lc lf u a = some (RD fc wd so st lc lf tk (wr, ca, u) a) := by
  have key : ∀ u2 : Int32, fr_X7_read_31 fu fc wd so st wr ca u2 a = some (if a = fc ∧ ¬ st = 0 then 1 else wr, if a = fc ∧ ¬ st = 0 then (if ca = 0 then (if (so = 1 ∧ wd = 1) ∨ so = 2 then 1 else 0) else 1) else ca, u2) := by
    intro u2
    unfold fr_X7_read_31
    by_cases h1 : a = fc
    · by_cases h2 : st = 0
      · have hn : ¬ (a = fc ∧ ¬ st = 0) := fun q => q.2 h2
        rw [if_pos h1, if_pos h2, if_neg hn, if_neg hn]
      · have hh : a = fc ∧ ¬ st = 0 := ⟨h1, h2⟩
        rw [if_pos h1, if_neg h2, if_pos hh, if_pos hh]
        by_cases h3 : ca = 0
        · rw [if_pos h3, if_pos h3]
          by_cases h4 : so = 1
          · by_cases h5 : wd = 1
            · have hc : (so = 1 ∧ wd = 1) ∨ so = 2 := Or.inl ⟨h4, h5⟩
              rw [if_pos h4, if_pos h5, if_pos hc]
            · have h6 : ¬ so = 2 := fun q => by rw [h4] at q; exact absurd q (by decide)
              have hc : ¬ ((so = 1 ∧ wd = 1) ∨ so = 2) := fun q => q.elim (fun z => h5 z.2) h6
              rw [if_pos h4, if_neg h5, if_neg h6, if_neg hc]
          · by_cases h6 : so = 2
            · have hc : (so = 1 ∧ wd = 1) ∨ so = 2 := Or.inr h6
              rw [if_neg h4, if_pos h6, if_pos hc]
            · have hc : ¬ ((so = 1 ∧ wd = 1) ∨ so = 2) := fun q => q.elim (fun z => h4 z.1) h6
              rw [if_neg h4, if_neg h6, if_neg hc]
        · rw [if_neg h3, if_neg h3]
    · have hn : ¬ (a = fc ∧ ¬ st = 0) := fun q => h1 q.1
      rw [if_neg h1, if_neg hn, if_neg hn]
  unfold f_X7_read RD
  dsimp only
  by_cases h1 : a = lc
  · by_cases h2 : tk < lf
    · have hn : ¬ (a = lc ∧ ¬ tk < lf ∧ u = 0) := fun q => q.2.1 h2
      rw [if_pos h1, if_pos h2, key, if_neg hn]
    · by_cases h3 : u = 0
      · have hn : a = lc ∧ ¬ tk < lf ∧ u = 0 := ⟨h1, h2, h3⟩
        rw [if_pos h1, if_neg h2, if_pos h3, key, if_pos hn]
      · have hn : ¬ (a = lc ∧ ¬ tk < lf ∧ u = 0) := fun q => h3 q.2.2
        rw [if_pos h1, if_neg h2, if_neg h3, key, if_neg hn]
  · have hn : ¬ (a = lc ∧ ¬ tk < lf ∧ u = 0) := fun q => h1 q.1
    rw [if_neg h1, key, if_neg hn]
theorem l_rdAll (fu : Nat) (tk fc wd so st wr ca lc lf u : Int32) {o : Nat} (ho : o ≤ 11) (a b : Int32) : f_X7_readAll fu tk fc wd so st wr ca lc lf u (nI o) a b
    = some (if qB o then RD fc wd so st lc lf tk (if qA o then RD fc wd so st lc lf tk (wr, ca, u) a else (wr, ca, u)) b else (if qA o then RD fc wd so st lc lf tk (wr, ca, u) a else (wr, ca, u))) := by
  unfold f_X7_readAll fr_X7_readAll_27 f_X7_takesOther f_X7_in
  simp only [l_rd]
  rcases (show o = 0 ∨ o = 1 ∨ o = 2 ∨ o = 3 ∨ o = 4 ∨ o = 5 ∨ o = 6 ∨ o = 7 ∨ o = 8 ∨ o = 9 ∨ o = 10 ∨ o = 11 by omega) with rfl | rfl | rfl | rfl | rfl | rfl | rfl | rfl | rfl | rfl | rfl | rfl <;> rfl
/-- a writing -/
def WU (lc lf tk u a : Int32) : Int32 := if a = lc ∧ ¬ tk < lf ∧ u = 0 then 2 else u
theorem l_wr (fu : Nat) (tk fc st lc lf u : Int32) (g : Nat → Nat) {a : Nat} (v : Nat) (ha : a < 8) : f_X7_write fu tk fc st lc lf u (aN g) (nI a) (nI v) = some (if nI a = fc then 0 else st, WU lc lf tk u (nI a), aN (va_up g a (v % 256))) := by
  have key : ∀ u2 : Int32, fr_X7_write_31 fu fc st u2 (aN g) (nI a) (nI v) = some (if nI a = fc then 0 else st, u2, aN (va_up g a (v % 256))) := by
    intro u2
    unfold fr_X7_write_31 fr_X7_write_44
    rw [if_pos (in_i ha (by decide)), if_pos (in_i ha (by decide)), show (255 : Int32) = nI (2 ^ 8 - 1) from rfl, fa_mask, aN_up _ _ (by omega)]
    by_cases h : nI a = fc
    · rw [if_pos h, if_pos h]
    · rw [if_neg h, if_neg h]
  unfold f_X7_write WU
  by_cases h1 : nI a = lc
  · by_cases h2 : tk < lf
    · have hn : ¬ (nI a = lc ∧ ¬ tk < lf ∧ u = 0) := fun q => q.2.1 h2
      rw [if_pos h1, if_pos h2, key, if_neg hn]
    · by_cases h3 : u = 0
      · have hn : nI a = lc ∧ ¬ tk < lf ∧ u = 0 := ⟨h1, h2, h3⟩
        rw [if_pos h1, if_neg h2, if_pos h3, key, if_pos hn]
      · have hn : ¬ (nI a = lc ∧ ¬ tk < lf ∧ u = 0) := fun q => h3 q.2.2
        rw [if_pos h1, if_neg h2, if_neg h3, key, if_neg hn]
  · have hn : ¬ (nI a = lc ∧ ¬ tk < lf ∧ u = 0) := fun q => h1 q.1
    rw [if_neg h1, key, if_neg hn]
/-- all readings of an order -/
def R2 (fc wd so st lc lf tk : Int32) (o x y : Nat) (F : Int32 × Int32 × Int32) : Int32 × Int32 × Int32 := if qB o then RD fc wd so st lc lf tk (if qA o then RD fc wd so st lc lf tk F (nI x) else F) (nI y) else (if qA o then RD fc wd so st lc lf tk F (nI x) else F)
def R3 (fc wd so st lc lf tk : Int32) (o x y : Nat) (g : Nat → Nat) (F : Int32 × Int32 × Int32) : Int32 × Int32 × Int32 := if o = 9 ∧ g y < 8 then RD fc wd so st lc lf tk (R2 fc wd so st lc lf tk o x y F) (nI (g y)) else R2 fc wd so st lc lf tk o x y F
/-- the struck flag, and firstUse, behind an order -/
def W3 (fc st : Int32) (o x y : Nat) (g : Nat → Nat) : Int32 := if o ≤ 5 ∨ (o = 9 ∧ g y < 8) then (if nI x = fc then 0 else st) else if o = 10 ∧ g x < 8 then (if nI (g x) = fc then 0 else st) else st
def U3 (lc lf tk : Int32) (o x y : Nat) (g : Nat → Nat) (u : Int32) : Int32 := if o ≤ 5 ∨ (o = 9 ∧ g y < 8) then WU lc lf tk u (nI x) else if o = 10 ∧ g x < 8 then WU lc lf tk u (nI (g x)) else u
def N3 (o x y : Nat) (g : Nat → Nat) (k i : Nat) : Int32 := if qCr o x y g k then -1 else if o = 11 then 20 else nI (qN o x y g i)
theorem ca_mono (fc wd so st lc lf tk : Int32) (F : Int32 × Int32 × Int32) (a : Int32) (h : (RD fc wd so st lc lf tk F a).2.1 = 0) : F.2.1 = 0 := by
  have h : (if a = fc ∧ ¬ st = 0 then (if F.2.1 = 0 then (if (so = 1 ∧ wd = 1) ∨ so = 2 then (1 : Int32) else 0) else 1) else F.2.1) = 0 := h
  by_cases h1 : a = fc ∧ ¬ st = 0
  · rw [if_pos h1] at h
    by_cases h2 : F.2.1 = 0
    · exact h2
    · rw [if_neg h2] at h; exact absurd h (by decide)
  · rw [if_neg h1] at h; exact h
theorem l_rdAll2 (fu : Nat) (tk fc wd so st lc lf : Int32) (F : Int32 × Int32 × Int32) {o : Nat} (ho : o ≤ 11) (x y : Nat) : f_X7_readAll fu tk fc wd so st F.1 F.2.1 lc lf F.2.2 (nI o) (nI x) (nI y) = some (R2 fc wd so st lc lf tk o x y F) := by
  rw [l_rdAll fu tk fc wd so st F.1 F.2.1 lc lf F.2.2 ho]
  rfl
theorem l_made (fu : Nat) {o x y : Nat} {g : Nat → Nat} (ho : okO o x y) (h5 : o ≤ 5) (hg : ∀ j, j < 8 → g j < 256) :
    ∃ v, f_X7_made fu (aN g) (nI o) (nI x) (nI y) = some (nI v) ∧ va_up g x (v % 256) = qG o x y g := by
  obtain ⟨h1, h2, h3, h4, hB, h6, h7⟩ := ho
  have hx : x < 8 := h4 (by omega) (by omega)
  have gx := hg x hx
  unfold f_X7_made
  have hi : inR (nI x) 8 := in_i hx (by decide)
  rcases (show o = 0 ∨ o = 1 ∨ o = 2 ∨ o = 3 ∨ o = 4 ∨ o = 5 by omega) with rfl | rfl | rfl | rfl | rfl | rfl
  · refine ⟨y, if_pos (show nI 0 = (0 : Int32) from rfl), ?_⟩
    rw [Nat.mod_eq_of_lt h3]; rfl
  · have gy := hg y (hB (by decide))
    refine ⟨g y, ?_, by rw [Nat.mod_eq_of_lt gy]; rfl⟩
    rw [if_neg (by decide), if_pos (by decide), if_pos (in_i (hB (by decide)) (by decide)), aN_at _ (by omega)]
  · have gy := hg y (hB (by decide))
    refine ⟨g x + g y, ?_, rfl⟩
    rw [if_neg (by decide), if_neg (by decide), if_pos (by decide), if_pos hi, if_pos (in_i (hB (by decide)) (by decide)), aN_at _ (by omega), aN_at _ (by omega), nI_add]
  · refine ⟨g x &&& g y, ?_, by rw [Nat.mod_eq_of_lt (and_b gx)]; rfl⟩
    rw [if_neg (by decide), if_neg (by decide), if_neg (by decide), if_pos (by decide), if_pos hi, if_pos (in_i (hB (by decide)) (by decide)), aN_at _ (by omega), aN_at _ (by omega), fa_and]
  · have gy := hg y (hB (by decide))
    refine ⟨g x ^^^ g y, ?_, by rw [Nat.mod_eq_of_lt (xor_b gx gy)]; rfl⟩
    rw [if_neg (by decide), if_neg (by decide), if_neg (by decide), if_neg (by decide), if_pos (by decide), if_pos hi, if_pos (in_i (hB (by decide)) (by decide)), aN_at _ (by omega), aN_at _ (by omega), fb_xorI]
  · refine ⟨g x / 2, ?_, by rw [Nat.mod_eq_of_lt (by omega)]; rfl⟩
    rw [if_neg (by decide), if_neg (by decide), if_neg (by decide), if_neg (by decide), if_neg (by decide), if_pos hi, aN_at _ (by omega), show (2 : Int32) = nI 2 from rfl, pk_div (by omega) (by decide) (by decide)]
set_option maxHeartbeats 4000000 in
/-- an order done, nothing caught -/
theorem l_does (fu : Nat) {P : PG} {S : MS} (hP : okP P) (hS : okS P S) (he : S.e = 3) (tk fc wd so st lc lf : Int32) (F : Int32 × Int32 × Int32) (hn : (R3 fc wd so st lc lf tk (oA P S) (xA P S) (yA P S) S.g F).2.1 = 0) :
    f_X7_does fu tk (nI S.k) fc wd so st F.1 F.2.1 lc lf F.2.2 (aN P.2.1) (aN P.2.2.1) (aN P.2.2.2) (aN S.g) (aN S.r) (nI S.i)
      = some (N3 (oA P S) (xA P S) (yA P S) S.g S.k S.i, nI (qS P S).k, W3 fc st (oA P S) (xA P S) (yA P S) S.g, (R3 fc wd so st lc lf tk (oA P S) (xA P S) (yA P S) S.g F).1, 0, U3 lc lf tk (oA P S) (xA P S) (yA P S) S.g (R3 fc wd so st lc lf tk (oA P S) (xA P S) (yA P S) S.g F).2.2, aN (qS P S).g, aN (qS P S).r) := by
  obtain ⟨hg, hk, h3, h4, h5⟩ := hS
  have hi : S.i < P.1 := h4 he
  have ho := hP.2 _ hi
  have hP1 := hP.1
  have hin : inR (nI S.i) 20 := in_i (by omega) (by decide)
  show f_X7_does fu tk (nI S.k) fc wd so st F.1 F.2.1 lc lf F.2.2 (aN P.2.1) (aN P.2.2.1) (aN P.2.2.2) (aN S.g) (aN S.r) (nI S.i) = some (_, nI (qK (oA P S) S.k), _, _, _, _, aN (qG (oA P S) (xA P S) (yA P S) S.g), aN (qR (oA P S) (xA P S) S.g S.r S.k))
  unfold f_X7_does
  rw [if_pos hin, if_pos hin, if_pos hin, aN_at _ (by omega), aN_at _ (by omega), aN_at _ (by omega)]
  generalize hoe : P.2.1 S.i = o at ho hn ⊢
  generalize hxe : P.2.2.1 S.i = x at ho hn ⊢
  generalize hye : P.2.2.2 S.i = y at ho hn ⊢
  have eo : oA P S = o := hoe
  have ex : xA P S = x := hxe
  have ey : yA P S = y := hye
  rw [eo, ex, ey] at hn ⊢
  have ho' := ho
  obtain ⟨o1, o2, o3, o4, o5, o6, o7⟩ := ho'
  rw [l_rdAll2 fu tk fc wd so st lc lf F o1, Option.bind_some]
  have h2 : (R2 fc wd so st lc lf tk o x y F).2.1 = 0 := by
    unfold R3 at hn
    split at hn
    · exact ca_mono _ _ _ _ _ _ _ _ _ hn
    · exact hn
  show (if (R2 fc wd so st lc lf tk o x y F).2.1 = 0 then _ else _) = _
  rw [if_pos h2]
  generalize hG : R2 fc wd so st lc lf tk o x y F = G at hn h2
  have hR3 : R3 fc wd so st lc lf tk o x y S.g F = if o = 9 ∧ S.g y < 8 then RD fc wd so st lc lf tk G (nI (S.g y)) else G := by unfold R3; rw [hG]
  have hx8 : ¬ o = 6 → ¬ o = 11 → x < 8 := o4
  unfold W3 U3 N3
  rw [hR3]
  rw [hR3] at hn
  by_cases c5 : o ≤ 5
  · obtain ⟨v, hm, hv⟩ := l_made fu ho c5 hg
    rw [if_neg (show ¬ (5 : Int32) < nI o from nI_nlt (a := 5) (b := o) c5 (by decide)), hm, Option.bind_some, l_wr fu tk fc st lc lf _ S.g v (o4 (by omega) (by omega)), Option.bind_some, hv, nI_1,
      if_neg (show ¬ qCr o x y S.g S.k by omega), if_neg (show ¬ o = 11 by omega), if_pos (Or.inl c5), if_pos (Or.inl c5), if_neg (show ¬ (o = 9 ∧ S.g y < 8) by omega), h2]
    have e1 : qN o x y S.g S.i = S.i + 1 := by unfold qN; rw [if_neg (show ¬ o = 6 by omega), if_neg (show ¬ (o = 7 ∧ ¬ S.g x = 0) by omega)]
    have e2 : qK o S.k = S.k := by unfold qK; rw [if_neg (show ¬ (o = 8 ∧ ¬ S.k = 12) by omega)]
    have e3 : qR o x S.g S.r S.k = S.r := by unfold qR; rw [if_neg (show ¬ (o = 8 ∧ ¬ S.k = 12) by omega)]
    rw [e1, e2, e3]
  rw [if_pos (show (5 : Int32) < nI o from nI_lt (a := 5) (b := o) (by omega) (by omega))]
  rcases (show o = 6 ∨ o = 7 ∨ o = 8 ∨ o = 9 ∨ o = 10 ∨ o = 11 by omega) with rfl | rfl | rfl | rfl | rfl | rfl
  · rw [if_pos (by decide), if_neg (show ¬ qCr 6 x y S.g S.k by omega), h2]
    rfl
  · have hx := o4 (by decide) (by decide)
    rw [if_neg (by decide), if_pos (by decide), if_pos (in_i hx (by decide)), aN_at _ (by omega), nI_1, if_neg (show ¬ qCr 7 x y S.g S.k by omega), if_neg (show ¬ 7 = 11 by decide), h2]
    have gx := hg x hx
    unfold qN
    by_cases hz : S.g x = 0
    · rw [if_pos (show nI (S.g x) = (0 : Int32) by rw [hz]; rfl), if_neg (show ¬ 7 = 6 by decide), if_neg (fun q : 7 = 7 ∧ ¬ S.g x = 0 => q.2 hz)]
      rfl
    · rw [if_neg (show ¬ nI (S.g x) = (0 : Int32) from nI_ne0 (by omega) (by omega)), if_neg (show ¬ 7 = 6 by decide), if_pos (⟨rfl, hz⟩ : 7 = 7 ∧ ¬ S.g x = 0)]
      rfl
  · have hx := o4 (by decide) (by decide)
    rw [if_neg (by decide), if_neg (by decide), if_pos (by decide), h2]
    unfold qK qR
    by_cases hz : S.k = 12
    · rw [if_pos (show nI S.k = (12 : Int32) by rw [hz]; rfl), if_pos (show qCr 8 x y S.g S.k from Or.inr (Or.inr ⟨rfl, hz⟩)), if_neg (fun q : 8 = 8 ∧ ¬ S.k = 12 => q.2 hz), if_neg (fun q : 8 = 8 ∧ ¬ S.k = 12 => q.2 hz)]
      rfl
    · rw [if_neg (show ¬ nI S.k = (12 : Int32) from fun q => hz ((nI_eq (a := S.k) (b := 12) (by omega) (by decide)).mp q)), if_pos (in_i hx (by decide)), if_pos (in_i (by omega) (by decide)), aN_at _ (by omega), nI_1, nI_1, aN_up _ _ (by omega), if_neg (show ¬ qCr 8 x y S.g S.k by omega), if_neg (show ¬ 8 = 11 by decide), if_pos (⟨rfl, hz⟩ : 8 = 8 ∧ ¬ S.k = 12), if_pos (⟨rfl, hz⟩ : 8 = 8 ∧ ¬ S.k = 12)]
      rfl
  · have hx := o4 (by decide) (by decide)
    have hy := o5 (by decide)
    have gy := hg y hy
    rw [if_neg (by decide), if_neg (by decide), if_neg (by decide), if_pos (by decide), if_pos (in_i hy (by decide)), aN_at _ (by omega)]
    by_cases hz : S.g y < 8
    · rw [if_pos (⟨rfl, hz⟩ : 9 = 9 ∧ S.g y < 8)] at hn
      rw [if_pos (show nI (S.g y) < (8 : Int32) from nI_lt (a := S.g y) (b := 8) hz (by decide)), if_pos (in_i hy (by decide)), l_rd, Option.bind_some]
      show (if (RD fc wd so st lc lf tk G (nI (S.g y))).2.1 = 0 then _ else _) = _
      rw [if_pos hn, if_pos (in_i hy (by decide)), if_pos (in_i hz (by decide)), aN_at _ (by omega), l_wr fu tk fc st lc lf _ S.g _ hx, Option.bind_some, nI_1, if_neg (show ¬ qCr 9 x y S.g S.k by omega), if_neg (show ¬ 9 = 11 by decide), if_pos (Or.inr ⟨rfl, hz⟩ : 9 ≤ 5 ∨ (9 = 9 ∧ S.g y < 8)), if_pos (Or.inr ⟨rfl, hz⟩ : 9 ≤ 5 ∨ (9 = 9 ∧ S.g y < 8)), if_pos (⟨rfl, hz⟩ : 9 = 9 ∧ S.g y < 8), Nat.mod_eq_of_lt (hg _ hz)]
      have e : qG 9 x y S.g = va_up S.g x (S.g (S.g y)) := by simp [qG, hz]
      rw [e, show (RD fc wd so st lc lf tk (G.1, G.2.1, G.2.2) (nI (S.g y))) = RD fc wd so st lc lf tk G (nI (S.g y)) from rfl, hn]
      rfl
    · rw [if_neg (show ¬ nI (S.g y) < (8 : Int32) from nI_nlt (a := S.g y) (b := 8) (by omega) (by omega)), if_pos (show qCr 9 x y S.g S.k by omega), if_neg (show ¬ (9 ≤ 5 ∨ (9 = 9 ∧ S.g y < 8)) by omega), if_neg (show ¬ (9 ≤ 5 ∨ (9 = 9 ∧ S.g y < 8)) by omega), if_neg (show ¬ (9 = 9 ∧ S.g y < 8) by omega), h2]
      have e : qG 9 x y S.g = S.g := by simp [qG, hz]
      rw [e]
      rfl
  · have hx := o4 (by decide) (by decide)
    have hy := o5 (by decide)
    have gx := hg x hx
    have gy := hg y hy
    rw [if_neg (by decide), if_neg (by decide), if_neg (by decide), if_neg (by decide), if_pos (by decide), if_pos (in_i hx (by decide)), aN_at _ (by omega), if_neg (show ¬ (10 ≤ 5 ∨ (10 = 9 ∧ S.g y < 8)) by omega), if_neg (show ¬ (10 ≤ 5 ∨ (10 = 9 ∧ S.g y < 8)) by omega), if_neg (show ¬ (10 = 9 ∧ S.g y < 8) by omega)]
    by_cases hz : S.g x < 8
    · rw [if_pos (show nI (S.g x) < (8 : Int32) from nI_lt (a := S.g x) (b := 8) hz (by decide)), if_pos (in_i hx (by decide)), if_pos (in_i hy (by decide)), aN_at _ (by omega), l_wr fu tk fc st lc lf _ S.g _ hz, Option.bind_some, nI_1, if_neg (show ¬ qCr 10 x y S.g S.k by omega), if_neg (show ¬ 10 = 11 by decide), if_pos (⟨rfl, hz⟩ : 10 = 10 ∧ S.g x < 8), if_pos (⟨rfl, hz⟩ : 10 = 10 ∧ S.g x < 8), Nat.mod_eq_of_lt gy, h2]
      have e : qG 10 x y S.g = va_up S.g (S.g x) (S.g y) := by simp [qG, hz]
      rw [e]
      rfl
    · rw [if_neg (show ¬ nI (S.g x) < (8 : Int32) from nI_nlt (a := S.g x) (b := 8) (by omega) (by omega)), if_pos (show qCr 10 x y S.g S.k by omega), if_neg (show ¬ (10 = 10 ∧ S.g x < 8) by omega), if_neg (show ¬ (10 = 10 ∧ S.g x < 8) by omega), h2]
      have e : qG 10 x y S.g = S.g := by simp [qG, hz]
      rw [e]
      rfl
  · rw [if_neg (by decide), if_neg (by decide), if_neg (by decide), if_neg (by decide), if_neg (by decide), if_neg (show ¬ qCr 11 x y S.g S.k by omega), if_pos rfl, h2]
    rfl
/-- something is caught: the run is over then -/
theorem l_caught (fu : Nat) {P : PG} {S : MS} (hP : okP P) (hS : okS P S) (he : S.e = 3) (tk fc wd so st lc lf : Int32) (F : Int32 × Int32 × Int32) (hn : ¬ (R3 fc wd so st lc lf tk (oA P S) (xA P S) (yA P S) S.g F).2.1 = 0) :
    ∃ (nx u wr ca : Int32), (nx = nI S.i ∨ nx = nI (S.i + 1)) ∧ ¬ ca = 0 ∧ f_X7_does fu tk (nI S.k) fc wd so st F.1 F.2.1 lc lf F.2.2 (aN P.2.1) (aN P.2.2.1) (aN P.2.2.2) (aN S.g) (aN S.r) (nI S.i)
      = some (nx, nI S.k, st, wr, ca, u, aN S.g, aN S.r) := by
  obtain ⟨hg, hk, h3, h4, h5⟩ := hS
  have hi : S.i < P.1 := h4 he
  have ho := hP.2 _ hi
  have hP1 := hP.1
  have hin : inR (nI S.i) 20 := in_i (by omega) (by decide)
  unfold f_X7_does
  rw [if_pos hin, if_pos hin, if_pos hin, aN_at _ (by omega), aN_at _ (by omega), aN_at _ (by omega)]
  generalize hoe : P.2.1 S.i = o at ho hn ⊢
  generalize hxe : P.2.2.1 S.i = x at ho hn ⊢
  generalize hye : P.2.2.2 S.i = y at ho hn ⊢
  have eo : oA P S = o := hoe
  have ex : xA P S = x := hxe
  have ey : yA P S = y := hye
  rw [eo, ex, ey] at hn
  have ho' := ho
  obtain ⟨o1, o2, o3, o4, o5, o6, o7⟩ := ho'
  rw [l_rdAll2 fu tk fc wd so st lc lf F o1, Option.bind_some]
  show ∃ (nx u wr ca : Int32), _ ∧ _ ∧ (if (R2 fc wd so st lc lf tk o x y F).2.1 = 0 then _ else _) = _
  by_cases h2 : (R2 fc wd so st lc lf tk o x y F).2.1 = 0
  · have c9 : o = 9 ∧ S.g y < 8 := by
      by_cases q : o = 9 ∧ S.g y < 8
      · exact q
      · unfold R3 at hn; rw [if_neg q] at hn; exact absurd h2 hn
    have hR3 : R3 fc wd so st lc lf tk o x y S.g F = RD fc wd so st lc lf tk (R2 fc wd so st lc lf tk o x y F) (nI (S.g y)) := by unfold R3; rw [if_pos c9]
    rw [hR3] at hn
    obtain ⟨rfl, hz⟩ := c9
    have hy := o5 (by decide)
    rw [if_pos h2, if_pos (show (5 : Int32) < nI 9 by decide), if_neg (by decide), if_neg (by decide), if_neg (by decide), if_pos (by decide), if_pos (in_i hy (by decide)), aN_at _ (by omega), if_pos (show nI (S.g y) < (8 : Int32) from nI_lt (a := S.g y) (b := 8) hz (by decide)), if_pos (in_i hy (by decide)), l_rd, Option.bind_some]
    refine ⟨nI (S.i + 1), (RD fc wd so st lc lf tk (R2 fc wd so st lc lf tk 9 x y F) (nI (S.g y))).2.2, (RD fc wd so st lc lf tk (R2 fc wd so st lc lf tk 9 x y F) (nI (S.g y))).1, (RD fc wd so st lc lf tk (R2 fc wd so st lc lf tk 9 x y F) (nI (S.g y))).2.1, Or.inr rfl, hn, ?_⟩
    show (if (RD fc wd so st lc lf tk (R2 fc wd so st lc lf tk 9 x y F) (nI (S.g y))).2.1 = 0 then _ else _) = _
    rw [if_neg hn, nI_1]
  · rw [if_neg h2]
    exact ⟨nI S.i, (R2 fc wd so st lc lf tk o x y F).2.2, (R2 fc wd so st lc lf tk o x y F).1, (R2 fc wd so st lc lf tk o x y F).2.1, Or.inl rfl, h2, rfl⟩
