/-! FIRST USE, AS THE REFERENCE LOOKS FOR IT -/
theorem RD_u {c : Nat} (lf tk : Int32) (hl : ¬ tk < lf) (F : Int32 × Int32 × Int32) (a : Int32) (h : F.2.2 = F.1 ∧ (F.1 = 0 ∨ F.1 = 1)) : (RD (nI c) 0 0 1 (nI c) lf tk F a).2.2 = (RD (nI c) 0 0 1 (nI c) lf tk F a).1 ∧ ((RD (nI c) 0 0 1 (nI c) lf tk F a).1 = 0 ∨ (RD (nI c) 0 0 1 (nI c) lf tk F a).1 = 1) := by
  unfold RD
  dsimp only
  by_cases q : a = nI c
  · rw [if_pos (show a = nI c ∧ ¬ (1 : Int32) = 0 from ⟨q, by decide⟩)]
    rcases h.2 with w | w
    · rw [if_pos (show a = nI c ∧ ¬ tk < lf ∧ F.2.2 = 0 from ⟨q, hl, h.1.trans w⟩)]; exact ⟨rfl, Or.inr rfl⟩
    · rw [if_neg (show ¬ (a = nI c ∧ ¬ tk < lf ∧ F.2.2 = 0) from fun z => absurd ((h.1.trans w).symm.trans z.2.2) (by decide))]; exact ⟨h.1.trans w, Or.inr rfl⟩
  · rw [if_neg (show ¬ (a = nI c ∧ ¬ (1 : Int32) = 0) from fun z => q z.1), if_neg (show ¬ (a = nI c ∧ ¬ tk < lf ∧ F.2.2 = 0) from fun z => q z.1)]; exact h
theorem R3_ue {c : Nat} (lf tk : Int32) (hl : ¬ tk < lf) (o x y : Nat) (g : Nat → Nat) : (R3 (nI c) 0 0 1 (nI c) lf tk o x y g (0, 0, 0)).2.2 = (R3 (nI c) 0 0 1 (nI c) lf tk o x y g (0, 0, 0)).1 := by
  have h0 : ((0, 0, 0) : Int32 × Int32 × Int32).2.2 = ((0, 0, 0) : Int32 × Int32 × Int32).1 ∧ (((0, 0, 0) : Int32 × Int32 × Int32).1 = 0 ∨ ((0, 0, 0) : Int32 × Int32 × Int32).1 = 1) := ⟨rfl, Or.inl rfl⟩
  have h1 : (if qA o then RD (nI c) 0 0 1 (nI c) lf tk (0, 0, 0) (nI x) else (0, 0, 0)).2.2 = (if qA o then RD (nI c) 0 0 1 (nI c) lf tk (0, 0, 0) (nI x) else (0, 0, 0)).1 ∧ ((if qA o then RD (nI c) 0 0 1 (nI c) lf tk (0, 0, 0) (nI x) else (0, 0, 0)).1 = 0 ∨ (if qA o then RD (nI c) 0 0 1 (nI c) lf tk (0, 0, 0) (nI x) else (0, 0, 0)).1 = 1) := by
    split
    · exact RD_u lf tk hl _ _ h0
    · exact h0
  have h2 : (R2 (nI c) 0 0 1 (nI c) lf tk o x y (0, 0, 0)).2.2 = (R2 (nI c) 0 0 1 (nI c) lf tk o x y (0, 0, 0)).1 ∧ ((R2 (nI c) 0 0 1 (nI c) lf tk o x y (0, 0, 0)).1 = 0 ∨ (R2 (nI c) 0 0 1 (nI c) lf tk o x y (0, 0, 0)).1 = 1) := by
    unfold R2
    split
    · exact RD_u lf tk hl _ _ h1
    · exact h1
  unfold R3
  split
  · exact (RD_u lf tk hl _ _ h2).1
  · exact h2.1
theorem WU_n {lc lf tk u a : Int32} (h : tk < lf ∨ ¬ u = 0) : WU lc lf tk u a = u := if_neg (fun z => h.elim (fun w => z.2.1 w) (fun w => w z.2.2))
theorem RD_n {fc wd so st lc lf tk : Int32} {F : Int32 × Int32 × Int32} {a : Int32} (h : tk < lf ∨ ¬ F.2.2 = 0) : (RD fc wd so st lc lf tk F a).2.2 = F.2.2 := if_neg (fun z => h.elim (fun w => z.2.1 w) (fun w => w z.2.2))
theorem uS_n {P : PG} {S : MS} {lc lf tk u : Int32} (h : tk < lf ∨ ¬ u = 0) : uS P S lc lf tk u = u := by
  have h1 : (if qA (oA P S) then RD 0 0 0 0 lc lf tk (0, 0, u) (nI (xA P S)) else (0, 0, u)).2.2 = u := by
    split
    · exact RD_n h
    · rfl
  have h2 : (R2 0 0 0 0 lc lf tk (oA P S) (xA P S) (yA P S) (0, 0, u)).2.2 = u := by
    unfold R2
    split
    · rw [RD_n (by rw [h1]; exact h), h1]
    · exact h1
  have h3 : (R3 0 0 0 0 lc lf tk (oA P S) (xA P S) (yA P S) S.g (0, 0, u)).2.2 = u := by
    unfold R3
    split
    · rw [RD_n (by rw [h2]; exact h), h2]
    · exact h2
  unfold uS U3
  rw [h3, WU_n h, WU_n h]
  split
  · rfl
  · split <;> rfl
theorem uS_0 {P : PG} {S : MS} {c : Nat} {lf tk : Int32} (hcc : c < 8) (ho : okO (oA P S) (xA P S) (yA P S)) (hl : ¬ tk < lf) : uS P S (nI c) lf tk 0 = if rdS P S c then 1 else if wrS P S c then 2 else 0 := by
  have e : (R3 0 0 0 0 (nI c) lf tk (oA P S) (xA P S) (yA P S) S.g (0, 0, 0)).2.2 = if rdS P S c then 1 else 0 := by
    rw [R3_u 0 0 0 0 (nI c) 0 0 1 (nI c) lf tk _ _ _ _ (0, 0, 0) (0, 0, 0) rfl, R3_ue lf tk hl]
    have hs := R3_1 (g := S.g) hcc ho 0 0 (nI c) lf tk (0, 0, 0) rfl
    by_cases q : rdS P S c
    · rw [if_pos q]; exact (hs.1 q).1
    · rw [if_neg q]; exact (hs.2 q).1
  unfold uS
  rw [e]
  by_cases q : rdS P S c
  · rw [if_pos q, if_pos q]
    unfold U3
    rw [WU_n (Or.inr (by decide)), WU_n (Or.inr (by decide))]
    split
    · rfl
    · split <;> rfl
  · rw [if_neg q, if_neg q]
    have hw := W3_1 (g := S.g) hcc ho
    unfold W3 at hw
    unfold U3
    have k : ∀ a : Int32, WU (nI c) lf tk 0 a = if (if a = nI c then (0 : Int32) else 1) = 0 then 2 else 0 := by
      intro a
      unfold WU
      by_cases z : a = nI c
      · rw [if_pos z, if_pos (show a = nI c ∧ ¬ tk < lf ∧ (0 : Int32) = 0 from ⟨z, hl, rfl⟩), if_pos rfl]
      · rw [if_neg z, if_neg (show ¬ (a = nI c ∧ ¬ tk < lf ∧ (0 : Int32) = 0) from fun w => z w.1), if_neg (by decide)]
    have hh : (if wrS P S c then (2 : Int32) else 0) = if (if qWr (oA P S) (xA P S) (yA P S) S.g c then (0 : Int32) else 1) = 0 then 2 else 0 := by
      by_cases z : wrS P S c
      · rw [if_pos z, if_pos z, if_pos rfl]
      · rw [if_neg z, if_neg z, if_neg (by decide)]
    rw [hh, ← hw, k, k]
    split
    · rfl
    · split
      · rfl
      · rw [if_neg (by decide)]
theorem uN_n {P : PG} {lc lf u : Int32} (h : ¬ u = 0) : ∀ (m t : Nat) (S : MS), uN P lc lf S t u m = u
  | 0, _, _ => rfl
  | m + 1, t, S => by
    rw [uN]
    split
    · rw [uS_n (Or.inr h)]; exact uN_n h m _ _
    · rfl
theorem uN_R {P : PG} {c0 : Nat → Nat} (hP : okP P) {c t0 : Nat} (hcc : c < 8) (ht0 : t0 ≤ Tk P c0) : ∀ (m t : Nat) (S : MS), t + m = 100 → t ≤ Tk P c0 → sim S (Pl P c0 t) → okS P S → (uN P (nI c) (nI t0) S t 0 m = 1 ↔ isR P c0 c (if t < t0 then t0 else t)) := by
  have hT := Tk_le P c0
  have hend : ∀ t, t = Tk P c0 → ¬ isR P c0 c (if t < t0 then t0 else t) := by
    intro t ht
    rw [if_neg (show ¬ t < t0 by omega), ht, isR, nu_T]
    exact fun z => absurd z.1 (Nat.lt_irrefl _)
  intro m
  induction m with
  | zero =>
    intro t S ht hk hs hS
    exact ⟨fun z => absurd z (by show ¬ (0 : Int32) = 1; decide), fun z => absurd z (hend t (by omega))⟩
  | succ m ih =>
    intro t S ht hk hs hS
    rw [uN]
    by_cases he : S.e = 3
    · rw [if_pos he]
      have htT : t < Tk P c0 := by
        rcases Nat.lt_or_ge t (Tk P c0) with q | q
        · exact q
        · exfalso
          have e := qT_end P 100 (S0 P c0 (fun _ => 0))
          have q2 : t = Tk P c0 := by omega
          have hst := qT_stop P 100 (S0 P c0 (fun _ => 0)) (by show Tk P c0 < 100; omega)
          rw [← e] at hst
          apply hst
          show (Pl P c0 (Tk P c0)).e = 3
          rw [← q2, ← hs.2.2.2.2]; exact he
      have hp3 : (Pl P c0 t).e = 3 := by rw [← hs.2.2.2.2]; exact he
      have hn : sim (qS P S) (Pl P c0 (t + 1)) := by
        have := qS_sim hP hS he hs
        rw [show Pl P c0 (t + 1) = qS P (Pl P c0 t) from (qI_back P t (S0 P c0 (fun _ => 0))).trans (if_pos hp3)]
        exact this
      have hok := qS_ok hP hS he
      have hi := hS.2.2.2.1 he
      have ih2 := ih (t + 1) (qS P S) (by omega) (by omega) hn hok
      by_cases q : t < t0
      · rw [uS_n (Or.inl (nI_lt q (by omega))), ih2, if_pos q]
        by_cases q2 : t + 1 < t0
        · rw [if_pos q2]
        · rw [if_neg q2, show t + 1 = t0 by omega]
      · rw [if_neg q]
        have hR : isR P c0 c t ↔ (rdS P (Pl P c0 t) c ∨ (¬ wrS P (Pl P c0 t) c ∧ isR P c0 c (t + 1))) := by
          rw [isR, isR, nu_s htT]
          by_cases a1 : rdS P (Pl P c0 t) c
          · rw [if_pos (Or.inl a1)]; exact ⟨fun _ => Or.inl a1, fun _ => ⟨htT, a1⟩⟩
          · by_cases a2 : wrS P (Pl P c0 t) c
            · rw [if_pos (Or.inr a2)]; exact ⟨fun z => absurd z.2 a1, fun z => z.elim (fun z => absurd z a1) (fun z => absurd a2 z.1)⟩
            · rw [if_neg (fun z => z.elim a1 a2)]; exact ⟨fun z => Or.inr ⟨a2, z⟩, fun z => z.elim (fun z => absurd z a1) (fun z => z.2)⟩
        rw [uS_0 hcc (hP.2 _ hi) (nI_nlt (show t0 ≤ t by omega) (by omega)), hR]
        have r1 := rdS_e (c := c) hP hi hs
        have r2 := wrS_e (c := c) hP hi hs
        by_cases a1 : rdS P (Pl P c0 t) c
        · rw [if_pos (r1.mpr a1), uN_n (by decide)]; exact ⟨fun _ => Or.inl a1, fun _ => rfl⟩
        · rw [if_neg (fun z => a1 (r1.mp z))]
          by_cases a2 : wrS P (Pl P c0 t) c
          · rw [if_pos (r2.mpr a2), uN_n (by decide)]; exact ⟨fun z => absurd z (by decide), fun z => z.elim (fun z => absurd z a1) (fun z => absurd a2 z.1)⟩
          · rw [if_neg (fun z => a2 (r2.mp z)), ih2, if_neg (show ¬ t + 1 < t0 by omega)]
            exact ⟨fun z => Or.inr ⟨a2, z⟩, fun z => z.elim (fun z => absurd z a1) (fun z => z.2)⟩
    · rw [if_neg he]
      have htT : t = Tk P c0 := by
        rcases Nat.lt_or_ge t (Tk P c0) with q | q
        · exact absurd (by rw [hs.2.2.2.2]; exact qT_lt P 100 _ t q) he
        · omega
      exact ⟨fun z => absurd z (by decide), fun z => absurd z (hend t htT)⟩
/-! THE PLAIN RUN ON BOTH SIDES -/
abbrev M16 : Type := Int32 × Int32 × Int32 × Int32 × Int32 × Int32 × Int32 × Int32 × (Nat → Int32) × (Nat → Int32) × (Nat → Int32) × (Nat → Int32) × (Nat → Int32) × (Nat → Int32) × (Nat → Int32) × Int32
def PO (P : PG) (c0 : Nat → Nat) (lf : Nat → Int32) (T : M16) : Prop := ∃ (g r : Nat → Nat) (A : TA) (w0 : Nat), T.2.1 = nI (Pl P c0 100).k ∧ T.2.2.2.1 = nI (Tk P c0) ∧ T.2.2.2.2.1 = nI (qO (Pl P c0 100).e) ∧ T.2.2.2.2.2.2.2.2.1 = aN g ∧ T.2.2.2.2.2.2.2.2.2.1 = aN r ∧ T.2.2.2.2.2.2.2.2.2.2.1 = aN A.1 ∧ T.2.2.2.2.2.2.2.2.2.2.2.1 = aN A.2.1 ∧ T.2.2.2.2.2.2.2.2.2.2.2.2.1 = aN A.2.2.1 ∧ T.2.2.2.2.2.2.2.2.2.2.2.2.2.1 = aN A.2.2.2.1 ∧ T.2.2.2.2.2.2.2.2.2.2.2.2.2.2.1 = aN A.2.2.2.2 ∧ TrOK P c0 g r A ∧ T.2.2.2.2.2.2.2.2.2.2.2.2.2.2.2 = nI w0 ∧ w0 < 3 ∧ (w0 = 0 ∨ ∃ f, lf = aN f ∧ FO P c0 w0 f)
def SO (P : PG) (c0 : Nat → Nat) (lf : Nat → Int32) (T : M16) : Prop := T.1 = 1 ∨ (T.1 = 0 ∧ PO P c0 lf T)
theorem c_plain (fu : Nat) {P : PG} {c0 : Nat → Nat} (hP : okP P) (hc : ∀ j, j < 8 → c0 j < 256) (hf : 200 < fu) {lf : Nat → Int32} {T : M16} (h : SO P c0 lf T) :
    ∃ U : M16, f_X6_plainRun fu T.1 (nI P.1) (aN P.2.1) (aN P.2.2.1) (aN P.2.2.2) (aN c0) T.2.1 T.2.2.1 T.2.2.2.1 T.2.2.2.2.1 T.2.2.2.2.2.1 T.2.2.2.2.2.2.1 T.2.2.2.2.2.2.2.1 T.2.2.2.2.2.2.2.2.1 T.2.2.2.2.2.2.2.2.2.1 T.2.2.2.2.2.2.2.2.2.2.1 T.2.2.2.2.2.2.2.2.2.2.2.1 T.2.2.2.2.2.2.2.2.2.2.2.2.1 T.2.2.2.2.2.2.2.2.2.2.2.2.2.1 T.2.2.2.2.2.2.2.2.2.2.2.2.2.2.1 T.2.2.2.2.2.2.2.2.2.2.2.2.2.2.2 = some U ∧ U.1 = 0 ∧ PO P c0 lf U := by
  unfold f_X6_plainRun
  rcases h with h1 | ⟨h0, hp⟩
  · obtain ⟨gm, e1⟩ := aN_all T.2.2.2.2.2.2.2.2.1
    obtain ⟨rm, e2⟩ := aN_all T.2.2.2.2.2.2.2.2.2.1
    obtain ⟨A1, e3⟩ := aN_all T.2.2.2.2.2.2.2.2.2.2.1
    obtain ⟨A2, e4⟩ := aN_all T.2.2.2.2.2.2.2.2.2.2.2.1
    obtain ⟨A3, e5⟩ := aN_all T.2.2.2.2.2.2.2.2.2.2.2.2.1
    obtain ⟨A4, e6⟩ := aN_all T.2.2.2.2.2.2.2.2.2.2.2.2.2.1
    obtain ⟨A5, e7⟩ := aN_all T.2.2.2.2.2.2.2.2.2.2.2.2.2.2.1
    obtain ⟨nx2, rn2, wn2, ws2, g, r, B, hh, hB⟩ := l_followF fu hP hc (by omega) T.2.1 T.2.2.1 T.2.2.2.1 T.2.2.2.2.1 T.2.2.2.2.2.1 T.2.2.2.2.2.2.1 T.2.2.2.2.2.2.2.1 gm rm (A1, A2, A3, A4, A5)
    rw [if_neg (show ¬ T.1 = 0 by rw [h1]; decide), e1, e2, e3, e4, e5, e6, e7, hh, Option.bind_some]
    exact ⟨_, rfl, rfl, g, r, B, 0, rfl, rfl, rfl, rfl, rfl, rfl, rfl, rfl, rfl, rfl, hB, rfl, by decide, Or.inl rfl⟩
  · rw [if_pos h0]
    exact ⟨T, rfl, h0, hp⟩
abbrev Z16 : Type := Int32 × Int32 × Int32 × Int32 × Int32 × Int32 × Int32 × Int32 × Int32 × Int32 × Int32 × Int32 × Int32 × (Nat → Int32) × (Nat → Int32) × (Nat → Int32)
def ZP (P : PG) (c0 : Nat → Nat) (Z : Z16) : Prop := Z.2.2.2.2.2.2.2.2.2.2.1 = E4 (Pl P c0 100).e ∧ Z.2.2.2.2.2.2.2.2.2.2.2.1 = nI (Tk P c0) ∧ Z.2.2.2.2.2.2.2.2.2.2.2.2.1 = nI (Pl P c0 100).k ∧ (∃ g, Z.2.2.2.2.2.2.2.2.2.2.2.2.2.1 = aN g ∧ ∀ j, j < 8 → g j = (Pl P c0 100).g j) ∧ ∃ rp, Z.2.2.2.2.2.2.2.2.2.2.2.2.2.2.2 = aN rp ∧ ∀ j, j < (Pl P c0 100).k → rp j = (Pl P c0 100).r j
theorem l_rowCpy (fu : Nat) {K : Nat} (hK : K ≤ 12) (rt : Nat → Nat) (k61 : (Nat → Int32) → Option Z16) : ∀ (m n i : Nat) (zp : Nat → Nat), i + m = K → m < n →
    ∃ z2, fr_X7_goPlain_35 fu (nI K) (aN rt) k61 n (aN zp) (nI i) = k61 (aN z2) ∧ (∀ j, j < i → z2 j = zp j) ∧ (∀ j, i ≤ j → j < K → z2 j = rt j) := by
  intro m
  induction m with
  | zero =>
    intro n i zp hi hn
    obtain ⟨n, rfl⟩ : ∃ z, n = z + 1 := ⟨n - 1, by omega⟩
    refine ⟨zp, ?_, fun _ _ => rfl, fun j _ _ => by omega⟩
    rw [fr_X7_goPlain_35, if_pos (nI_le (by omega) (by omega))]
  | succ m ih =>
    intro n i zp hi hn
    obtain ⟨n, rfl⟩ : ∃ z, n = z + 1 := ⟨n - 1, by omega⟩
    obtain ⟨z2, h1, h2, h3⟩ := ih n (i + 1) (va_up zp i (rt i)) (by omega) (by omega)
    have hin : inR (nI i) 12 := in_i (by omega) (by decide)
    refine ⟨z2, ?_, fun j hj => ?_, fun j h4 h5 => ?_⟩
    · rw [fr_X7_goPlain_35, if_neg (nI_ge (by omega) (by omega)), if_pos hin, if_pos hin, aN_at _ (by omega), aN_up _ _ (by omega), nI_1]
      exact h1
    · rw [h2 j (by omega)]; exact up_n _ _ (by omega)
    · by_cases q : j = i
      · subst q; rw [h2 j (by omega)]; exact up_s _ _ _
      · exact h3 j (by omega) h5
theorem z_plain (fu : Nat) {P : PG} {c0 : Nat → Nat} (hP : okP P) (hc : ∀ j, j < 8 → c0 j < 256) (hf : 200 < fu) (lc lf : Int32) (Z : Z16) :
    ∃ U : Z16, f_X7_goPlain fu (nI P.1) Z.1 Z.2.1 Z.2.2.1 Z.2.2.2.1 Z.2.2.2.2.1 Z.2.2.2.2.2.1 Z.2.2.2.2.2.2.1 Z.2.2.2.2.2.2.2.1 Z.2.2.2.2.2.2.2.2.1 lc lf Z.2.2.2.2.2.2.2.2.2.1 Z.2.2.2.2.2.2.2.2.2.2.1 Z.2.2.2.2.2.2.2.2.2.2.2.1 Z.2.2.2.2.2.2.2.2.2.2.2.2.1 (aN P.2.1) (aN P.2.2.1) (aN P.2.2.2) (aN c0) Z.2.2.2.2.2.2.2.2.2.2.2.2.2.1 Z.2.2.2.2.2.2.2.2.2.2.2.2.2.2.1 Z.2.2.2.2.2.2.2.2.2.2.2.2.2.2.2 = some U ∧ ZP P c0 U ∧ (∀ c t, c < 8 → t < Tk P c0 → lc = nI c → lf = nI t → (U.2.2.2.2.2.2.2.2.2.1 = 1 ↔ isR P c0 c t)) := by
  obtain ⟨gm, e1⟩ := aN_all Z.2.2.2.2.2.2.2.2.2.2.2.2.2.1
  obtain ⟨rm, e2⟩ := aN_all Z.2.2.2.2.2.2.2.2.2.2.2.2.2.2.1
  obtain ⟨zp, e3⟩ := aN_all Z.2.2.2.2.2.2.2.2.2.2.2.2.2.2.2
  obtain ⟨S, hs, hS, h⟩ := l_goP fu hP hc hf lc lf Z.1 Z.2.1 Z.2.2.1 Z.2.2.2.1 Z.2.2.2.2.1 Z.2.2.2.2.2.1 Z.2.2.2.2.2.2.1 Z.2.2.2.2.2.2.2.1 Z.2.2.2.2.2.2.2.2.1 Z.2.2.2.2.2.2.2.2.2.1 0 0 0 gm rm
  have hE := qI_sim hP 100 _ _ hS hs
  have hk := (qI_ok hP 100 _ (S0_ok (P := P) (r := fun _ => 0) hc)).2.1
  unfold f_X7_goPlain
  rw [e1, e2, e3, h, Option.bind_some]
  obtain ⟨z2, h1, -, h3⟩ := l_rowCpy fu (K := (Pl P c0 100).k) hk (qI P S 100).r (fun e => some (nI (Tk P c0), E4 (Pl P c0 100).e, nI (Pl P c0 100).k, -1, 0, 0, 0, 0, 0, uN P lc lf S 0 0 100, E4 (Pl P c0 100).e, nI (Tk P c0), nI (Pl P c0 100).k, aN (qI P S 100).g, aN (qI P S 100).r, e)) (Pl P c0 100).k fu 0 zp (by omega) (Nat.lt_of_le_of_lt hk (by omega))
  refine ⟨_, h1, ⟨rfl, rfl, rfl, ⟨(qI P S 100).g, rfl, hE.1⟩, z2, rfl, fun j hj => ?_⟩, fun c t hcc ht e4 e5 => ?_⟩
  · rw [h3 j (Nat.zero_le _) hj]; exact hE.2.1 j (by rw [hE.2.2.1]; exact hj)
  · show uN P lc lf S 0 0 100 = 1 ↔ _
    rw [e4, e5, uN_R hP hcc (Nat.le_of_lt ht) 100 0 S rfl (Nat.zero_le _) hs hS]
    by_cases q : 0 < t
    · rw [if_pos q]
    · rw [if_neg q, show t = 0 by omega]
