/-! THE REFERENCE'S RUN -/
theorem RD_0 (fc wd so lc lf tk : Int32) (F : Int32 × Int32 × Int32) (a : Int32) : (RD fc wd so 0 lc lf tk F a).1 = F.1 ∧ (RD fc wd so 0 lc lf tk F a).2.1 = F.2.1 := by
  unfold RD
  rw [if_neg (fun q => q.2 rfl), if_neg (fun q => q.2 rfl)]
  exact ⟨rfl, rfl⟩
theorem R3_0 (fc wd so lc lf tk : Int32) (o x y : Nat) (g : Nat → Nat) (F : Int32 × Int32 × Int32) : (R3 fc wd so 0 lc lf tk o x y g F).1 = F.1 ∧ (R3 fc wd so 0 lc lf tk o x y g F).2.1 = F.2.1 := by
  have h2 : (R2 fc wd so 0 lc lf tk o x y F).1 = F.1 ∧ (R2 fc wd so 0 lc lf tk o x y F).2.1 = F.2.1 := by
    unfold R2
    have hA : (if qA o then RD fc wd so 0 lc lf tk F (nI x) else F).1 = F.1 ∧ (if qA o then RD fc wd so 0 lc lf tk F (nI x) else F).2.1 = F.2.1 := by
      split
      · exact RD_0 _ _ _ _ _ _ _ _
      · exact ⟨rfl, rfl⟩
    split
    · have := RD_0 fc wd so lc lf tk (if qA o then RD fc wd so 0 lc lf tk F (nI x) else F) (nI y)
      exact ⟨this.1.trans hA.1, this.2.trans hA.2⟩
    · exact hA
  unfold R3
  split
  · have := RD_0 fc wd so lc lf tk (R2 fc wd so 0 lc lf tk o x y F) (nI (g y))
    exact ⟨this.1.trans h2.1, this.2.trans h2.2⟩
  · exact h2
/-- struck, cell c: read or not -/
theorem RD_1 {c a : Nat} (hc : c < 8) (ha : a < 2 ^ 31) (wd so lc lf tk : Int32) (F : Int32 × Int32 × Int32) : (RD (nI c) wd so 1 lc lf tk F (nI a)).1 = (if c = a then 1 else F.1) ∧ (RD (nI c) wd so 1 lc lf tk F (nI a)).2.1 = (if c = a then (if F.2.1 = 0 then (if (so = 1 ∧ wd = 1) ∨ so = 2 then 1 else 0) else 1) else F.2.1) := by
  unfold RD
  by_cases h : c = a
  · subst h
    rw [if_pos ⟨rfl, by decide⟩, if_pos ⟨rfl, by decide⟩, if_pos rfl, if_pos rfl]
    exact ⟨rfl, rfl⟩
  · have h2 : ¬ (nI a = nI c ∧ ¬ (1 : Int32) = 0) := fun q => h ((nI_eq (by omega) (by omega)).mp q.1).symm
    rw [if_neg h2, if_neg h2, if_neg h, if_neg h]
    exact ⟨rfl, rfl⟩
abbrev ctc (wd so : Int32) : Prop := (so = 1 ∧ wd = 1) ∨ so = 2
def HS (wd so w0 : Int32) (hit : Prop) (F : Int32 × Int32 × Int32) : Prop := (hit → F.1 = 1 ∧ (F.2.1 = 0 ↔ ¬ ctc wd so)) ∧ (¬ hit → F.1 = w0 ∧ F.2.1 = 0)
theorem HS.rd {c a : Nat} {wd so w0 : Int32} {hit : Prop} {F : Int32 × Int32 × Int32} (hc : c < 8) (ha : a < 2 ^ 31) (lc lf tk : Int32) (h : HS wd so w0 hit F) : HS wd so w0 (hit ∨ c = a) (RD (nI c) wd so 1 lc lf tk F (nI a)) := by
  obtain ⟨e1, e2⟩ := RD_1 hc ha wd so lc lf tk F
  by_cases q : c = a
  · rw [if_pos q] at e1 e2
    refine ⟨fun _ => ⟨e1, ?_⟩, fun w => absurd (Or.inr q) w⟩
    rw [e2]
    by_cases z : F.2.1 = 0
    · rw [if_pos z]
      by_cases v : ctc wd so
      · rw [if_pos v]; exact ⟨fun r => absurd r (by decide), fun r => absurd v r⟩
      · rw [if_neg v]; exact ⟨fun _ => v, fun _ => rfl⟩
    · rw [if_neg z]
      have hh : hit := Classical.byContradiction fun w => z (h.2 w).2
      exact ⟨fun r => absurd r (by decide), fun r => absurd ((h.1 hh).2.mpr r) z⟩
  · rw [if_neg q] at e1 e2
    refine ⟨fun w => ?_, fun w => ?_⟩
    · rw [e1, e2]; exact h.1 (w.resolve_right q)
    · rw [e1, e2]; exact h.2 (fun r => w (Or.inl r))
theorem HS.iff {wd so w0 : Int32} {p q : Prop} {F : Int32 × Int32 × Int32} (h : HS wd so w0 p F) (e : p ↔ q) : HS wd so w0 q F := ⟨fun w => h.1 (e.mpr w), fun w => h.2 (fun r => w (e.mp r))⟩
/-- all readings of an order by a run with cell c struck -/
theorem R3_1 {c o x y : Nat} {g : Nat → Nat} (hc : c < 8) (ho : okO o x y) (wd so lc lf tk : Int32) (F : Int32 × Int32 × Int32) (h0 : F.2.1 = 0) : HS wd so F.1 (qRd o x y g c) (R3 (nI c) wd so 1 lc lf tk o x y g F) := by
  have hx := ho.2.1
  have hy := ho.2.2.1
  have hF : HS wd so F.1 False F := ⟨fun w => w.elim, fun _ => ⟨rfl, h0⟩⟩
  have h1 : HS wd so F.1 (qA o ∧ c = x) (if qA o then RD (nI c) wd so 1 lc lf tk F (nI x) else F) := by
    by_cases q : qA o
    · rw [if_pos q]; exact (hF.rd hc (a := x) (by omega) lc lf tk).iff ⟨fun w => ⟨q, w.resolve_left id⟩, fun w => Or.inr w.2⟩
    · rw [if_neg q]; exact hF.iff ⟨fun w => w.elim, fun w => q w.1⟩
  have h2 : HS wd so F.1 ((qA o ∧ c = x) ∨ (qB o ∧ c = y)) (R2 (nI c) wd so 1 lc lf tk o x y F) := by
    unfold R2
    by_cases q : qB o
    · rw [if_pos q]; exact (h1.rd hc (a := y) (by omega) lc lf tk).iff ⟨fun w => w.elim Or.inl (fun z => Or.inr ⟨q, z⟩), fun w => w.elim Or.inl (fun z => Or.inr z.2)⟩
    · rw [if_neg q]; exact h1.iff ⟨Or.inl, fun w => w.elim id (fun z => absurd z.1 q)⟩
  unfold R3
  by_cases q : o = 9 ∧ g y < 8
  · rw [if_pos q]
    exact (h2.rd hc (a := g y) (by omega) lc lf tk).iff ⟨fun w => w.elim (fun z => z.elim Or.inl (fun z => Or.inr (Or.inl z))) (fun z => Or.inr (Or.inr ⟨q.1, q.2, z⟩)), fun w => w.elim (fun z => Or.inl (Or.inl z)) (fun z => z.elim (fun z => Or.inl (Or.inr z)) (fun z => Or.inr z.2.2))⟩
  · rw [if_neg q]
    exact h2.iff ⟨fun z => z.elim Or.inl (fun z => Or.inr (Or.inl z)), fun w => w.elim Or.inl (fun z => z.elim Or.inr (fun z => absurd ⟨z.1, z.2.1⟩ q))⟩
theorem W3_0 (fc : Int32) (o x y : Nat) (g : Nat → Nat) : W3 fc 0 o x y g = 0 := by
  unfold W3
  split
  · split <;> rfl
  · split
    · split <;> rfl
    · rfl
theorem W3_1 {c o x y : Nat} {g : Nat → Nat} (hc : c < 8) (ho : okO o x y) : W3 (nI c) 1 o x y g = if qWr o x y g c then 0 else 1 := by
  have hx := ho.2.1
  unfold W3
  by_cases q1 : o ≤ 5 ∨ (o = 9 ∧ g y < 8)
  · rw [if_pos q1]
    by_cases q : x = c
    · rw [if_pos (by rw [q]), if_pos (q1.elim (fun z => Or.inl ⟨z, q.symm⟩) (fun z => Or.inr (Or.inl ⟨z.1, z.2, q.symm⟩)))]
    · rw [if_neg (fun w => q ((nI_eq (by omega) (by omega)).mp w)), if_neg (fun w => by
        rcases w with w | w | w
        · exact q w.2.symm
        · exact q w.2.2.symm
        · omega)]
  · rw [if_neg q1]
    by_cases q2 : o = 10 ∧ g x < 8
    · rw [if_pos q2]
      by_cases q : g x = c
      · rw [if_pos (by rw [q]), if_pos (Or.inr (Or.inr ⟨q2.1, q2.2, q.symm⟩))]
      · rw [if_neg (fun w => q ((nI_eq (by omega) (by omega)).mp w)), if_neg (fun w => by
          rcases w with w | w | w
          · exact q1 (Or.inl w.1)
          · exact q1 (Or.inr ⟨w.1, w.2.1⟩)
          · exact q w.2.2.symm)]
    · rw [if_neg q2, if_neg (fun w => by
        rcases w with w | w | w
        · exact q1 (Or.inl w.1)
        · exact q1 (Or.inr ⟨w.1, w.2.1⟩)
        · exact q2 ⟨w.1, w.2.1⟩)]
/-- where the reference's next order stands -/
abbrev okN (P : PG) (S : MS) (nx : Int32) : Prop := (S.e = 3 → nx = nI S.i) ∧ (S.e = 1 → nx = -1) ∧ (S.e = 0 → ¬ nx < 0 ∧ nI P.1 ≤ nx)
theorem N3_ok {P : PG} {S : MS} (hP : okP P) (hS : okS P S) (he : S.e = 3) : okN P (qS P S) (N3 (oA P S) (xA P S) (yA P S) S.g S.k S.i) := by
  have hP1 := hP.1
  have h20 := (qS_ok hP hS he).2.2.1
  change qN (oA P S) (xA P S) (yA P S) S.g S.i ≤ 20 at h20
  show (qE _ _ _ _ _ _ _ = 3 → _ = nI (qN _ _ _ _ _)) ∧ (qE _ _ _ _ _ _ _ = 1 → _) ∧ (qE _ _ _ _ _ _ _ = 0 → _)
  unfold N3 qE
  by_cases c1 : qCr (oA P S) (xA P S) (yA P S) S.g S.k
  · rw [if_pos c1, if_pos c1]
    exact ⟨fun q => absurd q (by decide), fun _ => rfl, fun q => absurd q (by decide)⟩
  · rw [if_neg c1, if_neg c1]
    by_cases c2 : oA P S = 11
    · rw [if_pos c2, if_pos c2]
      exact ⟨fun q => absurd q (by decide), fun q => absurd q (by decide), fun _ => ⟨by decide, nI_le (a := P.1) (b := 20) hP1 (by decide)⟩⟩
    · rw [if_neg c2, if_neg c2]
      by_cases c3 : qN (oA P S) (xA P S) (yA P S) S.g S.i < P.1
      · rw [if_pos c3]
        exact ⟨fun _ => rfl, fun q => absurd q (by decide), fun q => absurd q (by decide)⟩
      · rw [if_neg c3]
        exact ⟨fun q => absurd q (by decide), fun q => absurd q (by decide), fun _ => ⟨nI_pos (by omega), nI_le (by omega) (by omega)⟩⟩
theorem R3_u (fc wd so st fc2 wd2 so2 st2 lc lf tk : Int32) (o x y : Nat) (g : Nat → Nat) (F F2 : Int32 × Int32 × Int32) (h : F.2.2 = F2.2.2) : (R3 fc wd so st lc lf tk o x y g F).2.2 = (R3 fc2 wd2 so2 st2 lc lf tk o x y g F2).2.2 := by
  have hr : ∀ (G G2 : Int32 × Int32 × Int32) (a : Int32), G.2.2 = G2.2.2 → (RD fc wd so st lc lf tk G a).2.2 = (RD fc2 wd2 so2 st2 lc lf tk G2 a).2.2 := by
    intro G G2 a e
    show (if a = lc ∧ ¬ tk < lf ∧ G.2.2 = 0 then 1 else G.2.2) = (if a = lc ∧ ¬ tk < lf ∧ G2.2.2 = 0 then 1 else G2.2.2)
    rw [e]
  have h1 : (if qA o then RD fc wd so st lc lf tk F (nI x) else F).2.2 = (if qA o then RD fc2 wd2 so2 st2 lc lf tk F2 (nI x) else F2).2.2 := by
    split
    · exact hr _ _ _ h
    · exact h
  have h2 : (R2 fc wd so st lc lf tk o x y F).2.2 = (R2 fc2 wd2 so2 st2 lc lf tk o x y F2).2.2 := by
    unfold R2
    split
    · exact hr _ _ _ h1
    · exact h1
  unfold R3
  split
  · exact hr _ _ _ h2
  · exact h2
/-- firstUse behind an order, behind a run -/
def uS (P : PG) (S : MS) (lc lf tk u : Int32) : Int32 := U3 lc lf tk (oA P S) (xA P S) (yA P S) S.g (R3 0 0 0 0 lc lf tk (oA P S) (xA P S) (yA P S) S.g (0, 0, u)).2.2
def uN (P : PG) (lc lf : Int32) : MS → Nat → Int32 → Nat → Int32
  | _, _, u, 0 => u
  | S, t, u, m + 1 => if S.e = 3 then uN P lc lf (qS P S) (t + 1) (uS P S lc lf (nI t) u) m else u
abbrev RESg : Type := Int32 × Int32 × Int32 × Int32 × Int32 × Int32 × Int32 × Int32 × Int32 × Int32 × (Nat → Int32) × (Nat → Int32)
abbrev K197 : Type := Int32 → Int32 → Int32 → Int32 → Int32 → Int32 → Int32 → (Nat → Int32) → (Nat → Int32) → Option RESg
abbrev GL (fu : Nat) (P : PG) (lc lf fc wd so y2 y4 : Int32) (k : K197) (n : Nat) (tk en km st wr ca u : Int32) (g r : Nat → Int32) (nx : Int32) : Option RESg := fr_X7_go_84 fu (nI P.1) lc lf (aN P.2.1) (aN P.2.2.1) (aN P.2.2.2) fc wd so fc y2 y4 k n tk en km st wr ca u g r nx
def enI (e : Nat) : Int32 := if e = 1 then 3 else 1
def E4 (e : Nat) : Int32 := if e = 1 then 3 else if e = 3 then 4 else 1
section GO
variable (fu : Nat) {P : PG} (lc lf fc wd so y2 y4 : Int32) (k : K197)
theorem g_exit {S : MS} (hP1 : P.1 ≤ 20) (n : Nat) (tk en km st wr ca u : Int32) (g r : Nat → Int32) {nx : Int32} (he : ¬ S.e = 3) (h3 : S.e = 0 ∨ S.e = 1 ∨ S.e = 3) (hn : okN P S nx) : GL fu P lc lf fc wd so y2 y4 k (n + 1) tk en km st wr ca u g r nx = k tk en km st wr ca u g r := by
  show fr_X7_go_84 _ _ _ _ _ _ _ _ _ _ _ _ _ _ (n + 1) _ _ _ _ _ _ _ _ _ _ = _
  rw [fr_X7_go_84]
  rcases h3 with q | q | q
  · obtain ⟨a1, a2⟩ := hn.2.2 q
    rw [if_neg a1, if_pos a2]
  · rw [hn.2.1 q, if_pos (by decide)]
  · exact absurd q he
abbrev BL (fu : Nat) (P : PG) (lc lf fc wd so y2 y4 : Int32) (k : K197) (n : Nat) (tk en km st wr ca u : Int32) (g r : Nat → Int32) (nx : Int32) : Option RESg := fr_X7_go_159 fu lc lf (aN P.2.1) (aN P.2.2.1) (aN P.2.2.2) fc wd so fc y2 y4 (fun a1 a2 a3 a4 a5 a6 a7 a8 a9 a10 => fr_X7_go_84 fu (nI P.1) lc lf (aN P.2.1) (aN P.2.2.1) (aN P.2.2.2) fc wd so fc y2 y4 k n a1 a2 a3 a4 a5 a6 a7 a8 a9 a10) tk en km st wr ca u g r nx
/-- an order done, nothing caught -/
theorem b_step {S : MS} (hP : okP P) (hS : okS P S) (he : S.e = 3) (n t : Nat) (st wr u : Int32) (hn : (R3 fc wd so st lc lf (nI t) (oA P S) (xA P S) (yA P S) S.g (wr, 0, u)).2.1 = 0) :
    BL fu P lc lf fc wd so y2 y4 k n (nI t) 1 (nI S.k) st wr 0 u (aN S.g) (aN S.r) (nI S.i)
      = GL fu P lc lf fc wd so y2 y4 k n (nI (t + 1)) (enI (qS P S).e) (nI (qS P S).k) (W3 fc st (oA P S) (xA P S) (yA P S) S.g) (R3 fc wd so st lc lf (nI t) (oA P S) (xA P S) (yA P S) S.g (wr, 0, u)).1 0 (uS P S lc lf (nI t) u) (aN (qS P S).g) (aN (qS P S).r) (N3 (oA P S) (xA P S) (yA P S) S.g S.k S.i) := by
  have hi : S.i < P.1 := hS.2.2.2.1 he
  have hP1 := hP.1
  have hd := l_does fu hP hS he (nI t) fc wd so st lc lf (wr, 0, u) hn
  have hU : U3 lc lf (nI t) (oA P S) (xA P S) (yA P S) S.g (R3 fc wd so st lc lf (nI t) (oA P S) (xA P S) (yA P S) S.g (wr, 0, u)).2.2 = uS P S lc lf (nI t) u := by
    unfold uS
    rw [R3_u fc wd so st 0 0 0 0 lc lf (nI t) (oA P S) (xA P S) (yA P S) S.g (wr, 0, u) (0, 0, u) rfl]
  have hN := N3_ok hP hS he
  have hE : (if (0 : Int32) ≤ N3 (oA P S) (xA P S) (yA P S) S.g S.k S.i then (1 : Int32) else 3) = enI (qS P S).e := by
    unfold enI
    rcases (qS_ok hP hS he).2.2.2.2 with q | q | q
    · have h1 := (hN.2.2 q).1
      rw [if_pos (Int32.not_lt.mp h1), if_neg (by omega)]
    · rw [hN.2.1 q, if_neg (by decide), if_pos q]
    · have h2 : (qS P S).i < P.1 := (qS_ok hP hS he).2.2.2.1 q
      rw [hN.1 q, if_pos (nI_pos' (by omega)), if_neg (by omega)]
  show fr_X7_go_159 _ _ _ _ _ _ _ _ _ _ _ _ _ _ _ _ _ _ _ _ _ _ _ = _
  unfold fr_X7_go_159
  rw [show f_X7_does fu (nI t) (nI S.k) fc wd so st wr 0 lc lf u (aN P.2.1) (aN P.2.2.1) (aN P.2.2.2) (aN S.g) (aN S.r) (nI S.i) = _ from hd, Option.bind_some, hU, nI_1]
  rw [← hE]
  by_cases q : (0 : Int32) ≤ N3 (oA P S) (xA P S) (yA P S) S.g S.k S.i
  · rw [if_pos q, if_pos q]
  · rw [if_neg q, if_neg q]
/-- the loop's head, no flip here -/
theorem g_head {S : MS} (hP1 : P.1 ≤ 20) (hi : S.i < P.1) (n t : Nat) (ht : t < 100) (km st wr u : Int32) (g r : Nat → Int32) (hf : fc = -1 ∨ ¬ nI t = y4) :
    GL fu P lc lf fc wd so y2 y4 k (n + 1) (nI t) 1 km st wr 0 u g r (nI S.i) = BL fu P lc lf fc wd so y2 y4 k n (nI t) 1 km st wr 0 u g r (nI S.i) := by
  show fr_X7_go_84 _ _ _ _ _ _ _ _ _ _ _ _ _ _ (n + 1) _ _ _ _ _ _ _ _ _ _ = _
  rw [fr_X7_go_84, if_neg (nI_pos (by omega)), if_neg (nI_ge hi (by omega)), if_pos rfl, if_pos rfl, if_neg (show ¬ nI t = (100 : Int32) from fun q => by have := (nI_eq (a := t) (b := 100) (by omega) (by decide)).mp q; omega)]
  by_cases q : fc = -1
  · rw [if_pos q]
  · rw [if_neg q, if_neg (hf.resolve_left q)]
theorem g_step {S : MS} (hP : okP P) (hS : okS P S) (he : S.e = 3) (n t : Nat) (ht : t < 100) (st wr u : Int32) (hf : fc = -1 ∨ ¬ nI t = y4) (hn : (R3 fc wd so st lc lf (nI t) (oA P S) (xA P S) (yA P S) S.g (wr, 0, u)).2.1 = 0) :
    GL fu P lc lf fc wd so y2 y4 k (n + 1) (nI t) 1 (nI S.k) st wr 0 u (aN S.g) (aN S.r) (nI S.i)
      = GL fu P lc lf fc wd so y2 y4 k n (nI (t + 1)) (enI (qS P S).e) (nI (qS P S).k) (W3 fc st (oA P S) (xA P S) (yA P S) S.g) (R3 fc wd so st lc lf (nI t) (oA P S) (xA P S) (yA P S) S.g (wr, 0, u)).1 0 (uS P S lc lf (nI t) u) (aN (qS P S).g) (aN (qS P S).r) (N3 (oA P S) (xA P S) (yA P S) S.g S.k S.i) := by
  rw [g_head fu lc lf fc wd so y2 y4 k hP.1 (hS.2.2.2.1 he) n t ht _ _ _ _ _ _ hf]
  exact b_step fu lc lf fc wd so y2 y4 k hP hS he n t st wr u hn
/-- the 100 ticks are over -/
theorem g_over {S : MS} (hP1 : P.1 ≤ 20) (hi : S.i < P.1) (n : Nat) (km st wr u : Int32) (g r : Nat → Int32) : GL fu P lc lf fc wd so y2 y4 k (n + 2) (nI 100) 1 km st wr 0 u g r (nI S.i) = k (nI 100) 4 km st wr 0 u g r := by
  show fr_X7_go_84 _ _ _ _ _ _ _ _ _ _ _ _ _ _ (n + 1 + 1) _ _ _ _ _ _ _ _ _ _ = _
  rw [fr_X7_go_84, if_neg (nI_pos (by omega)), if_neg (nI_ge hi (by omega)), if_pos rfl, if_pos rfl, if_pos (by decide), fr_X7_go_84, if_neg (nI_pos (by omega)), if_neg (nI_ge hi (by omega)), if_pos rfl, if_neg (by decide)]
theorem E4_no {e : Nat} (h : ¬ e = 3) : E4 e = enI e := by
  unfold E4 enI
  rw [if_neg h]
/-- a run that is not struck (any more) -/
theorem g_un (hP : okP P) : ∀ (m n t : Nat) (S : MS) (nx wr u : Int32), t + m = 100 → m + 1 < n → okS P S → okN P S nx → (∀ t2 : Nat, t ≤ t2 → t2 < 100 → fc = -1 ∨ ¬ nI t2 = y4) →
    GL fu P lc lf fc wd so y2 y4 k n (nI t) (enI S.e) (nI S.k) 0 wr 0 u (aN S.g) (aN S.r) nx = k (nI (t + qT P S m)) (E4 (qI P S m).e) (nI (qI P S m).k) 0 wr 0 (uN P lc lf S t u m) (aN (qI P S m).g) (aN (qI P S m).r) := by
  intro m
  induction m with
  | zero =>
    intro n t S nx wr u ht hn hS hN hfu
    obtain ⟨n, rfl⟩ : ∃ z, n = z + 2 := ⟨n - 2, by omega⟩
    by_cases he : S.e = 3
    · rw [hN.1 he, show t = 100 by omega]
      have hen : enI S.e = 1 := by unfold enI; rw [if_neg (by omega)]
      rw [hen, g_over fu lc lf fc wd so y2 y4 k hP.1 (hS.2.2.2.1 he)]
      show k (nI 100) 4 _ _ _ _ _ _ _ = k (nI (100 + 0)) (E4 S.e) _ _ _ _ _ _ _
      rw [show E4 S.e = 4 by unfold E4; rw [if_neg (by omega), if_pos he]]
      rfl
    · rw [g_exit fu lc lf fc wd so y2 y4 k hP.1 _ _ _ _ _ _ _ _ _ _ he hS.2.2.2.2 hN]
      show k (nI t) _ _ _ _ _ _ _ _ = k (nI (t + 0)) (E4 S.e) _ _ _ _ _ _ _
      rw [E4_no he]
      rfl
  | succ m ih =>
    intro n t S nx wr u ht hn hS hN hfu
    obtain ⟨n, rfl⟩ : ∃ z, n = z + 1 := ⟨n - 1, by omega⟩
    by_cases he : S.e = 3
    · have h0 := R3_0 fc wd so lc lf (nI t) (oA P S) (xA P S) (yA P S) S.g (wr, 0, u)
      have hen : enI S.e = 1 := by unfold enI; rw [if_neg (by omega)]
      rw [hN.1 he, hen, g_step fu lc lf fc wd so y2 y4 k hP hS he n t (by omega) 0 wr u (hfu t (Nat.le_refl t) (by omega)) h0.2, W3_0, h0.1, ih n (t + 1) (qS P S) _ wr _ (by omega) (by omega) (qS_ok hP hS he) (N3_ok hP hS he) (fun t2 h1 h2 => hfu t2 (by omega) h2), qT_go he, qI_go he, uN, if_pos he, show t + (qT P (qS P S) m + 1) = t + 1 + qT P (qS P S) m by omega]
    · rw [g_exit fu lc lf fc wd so y2 y4 k hP.1 _ _ _ _ _ _ _ _ _ _ he hS.2.2.2.2 hN, qT_no he, qI_no he, uN, if_neg he, E4_no he]
      rfl
end GO
