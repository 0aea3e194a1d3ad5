/-! ORDERS: what fits, and how it is laid -/
theorem x_targ (fu : Nat) (a : Int32) : (∃ t, t < 20 ∧ a = nI t ∧ f_X4_isTarget fu a = some 1 ∧ f_X7_in fu a 0 19 = some 1) ∨ (f_X4_isTarget fu a = some 0 ∧ f_X7_in fu a 0 19 = some 0) := by
  unfold f_X4_isTarget
  rcases x_le fu a (m := 19) (by decide) with ⟨j, h1, rfl, h3, h4, h5⟩ | ⟨h1, h2⟩
  · rw [if_neg h3, if_neg (show ¬ (20 : Int32) ≤ nI j from nI_ge (a := j) (b := 20) (by omega) (by decide))]
    exact Or.inl ⟨j, by omega, rfl, rfl, h5⟩
  · refine Or.inr ⟨?_, h2⟩
    rcases h1 with h | ⟨h, q⟩
    · rw [if_pos h]
    · obtain ⟨j, hj, rfl⟩ := nI_e h
      rw [if_neg h, if_pos (show (20 : Int32) ≤ nI j from nI_le (a := 20) (b := j) (by
        rcases Nat.lt_or_ge j 20 with w | w
        · exact absurd (nI_le (show j ≤ 19 by omega) (by omega)) q
        · exact w) hj)]
theorem x_byte (fu : Nat) (a : Int32) : (∃ v, v < 256 ∧ a = nI v ∧ ¬ a < 0 ∧ ¬ 255 < a ∧ a ≤ 255 ∧ f_X7_in fu a 0 255 = some 1) ∨ ((a < 0 ∨ (¬ a < 0 ∧ 255 < a ∧ ¬ a ≤ 255)) ∧ f_X7_in fu a 0 255 = some 0) := by
  rcases x_le fu a (m := 255) (by decide) with ⟨j, h1, rfl, h3, h4, h5⟩ | ⟨h1, h2⟩
  · exact Or.inl ⟨j, by omega, rfl, h3, nI_nlt (a := 255) (b := j) h1 (by decide), h4, h5⟩
  · refine Or.inr ⟨h1.imp id (fun z => ⟨z.1, ?_, z.2⟩), h2⟩
    obtain ⟨j, hj, rfl⟩ := nI_e z.1
    refine nI_lt (a := 255) (b := j) ?_ hj
    rcases Nat.lt_or_ge 255 j with u | u
    · exact u
    · exact absurd (nI_le u (by decide)) z.2
def PUT (fu : Nat) (a0 a1 a2 : Int32) : Prop := ∃ o x y, okO o x y ∧ ∀ (i : Nat) (po pf ps : Nat → Nat), i < 20 → f_X4_put fu (aN po) (aN pf) (aN ps) (nI i) a0 a1 a2 = some (aN (va_up po i o), aN (va_up pf i x), aN (va_up ps i y)) ∧ f_X7_set fu (aN po) (aN pf) (aN ps) (nI i) a0 a1 a2 = some (aN (va_up po i o), aN (va_up pf i x), aN (va_up ps i y))
def FIT (fu : Nat) (a0 a1 a2 : Int32) : Prop := (f_X4_fits fu a0 a1 a2 = some 0 ∧ f_X7_isOrder fu a0 a1 a2 = some 0) ∨ (f_X4_fits fu a0 a1 a2 = some 1 ∧ f_X7_isOrder fu a0 a1 a2 = some 1 ∧ PUT fu a0 a1 a2)
theorem fit_0 (fu : Nat) (a1 a2 : Int32) : FIT fu 0 a1 a2 := by
  have f1 : f_X4_fits fu 0 a1 a2 = (f_X6_isCell fu a1).bind (fun t => if t = 0 then some 0 else if a2 < 0 then some 0 else if 255 < a2 then some 0 else some 1) := rfl
  have f2 : f_X7_isOrder fu 0 a1 a2 = (f_X7_isCell fu a1).bind (fun t => if t = 0 then some 0 else (f_X7_in fu a2 0 255).bind (fun u => if u = 0 then some 0 else some 1)) := rfl
  unfold FIT
  rw [f1, f2]
  rcases x_cell fu a1 with ⟨x, hx, rfl, q1, q2⟩ | ⟨q1, q2⟩
  · rw [q1, q2, Option.bind_some, Option.bind_some, if_neg (show ¬ (1 : Int32) = 0 by decide), if_neg (show ¬ (1 : Int32) = 0 by decide)]
    rcases x_byte fu a2 with ⟨y, hy, rfl, p1, p2, -, p3⟩ | ⟨p1, p2⟩
    · rw [if_neg p1, if_neg p2, p3, Option.bind_some, if_neg (show ¬ (1 : Int32) = 0 by decide)]
      refine Or.inr ⟨rfl, rfl, ?_⟩
      refine ⟨0, x, y, by refine ⟨?_, ?_, ?_, ?_, ?_, ?_, ?_⟩ <;> omega, fun i po pf ps hi => ?_⟩
      have hin : inR (nI i) 20 := in_i hi (by decide)
      have e1 : f_X4_put fu (aN po) (aN pf) (aN ps) (nI i) 0 (nI x) (nI y) = (if inR (nI i) 20 then (if inR (nI i) 20 then (if inR (nI i) 20 then some (upd (aN po) (nI i).toNatClampNeg (0 : Int32), upd (aN pf) (nI i).toNatClampNeg (nI x), upd (aN ps) (nI i).toNatClampNeg (nI y)) else none) else none) else none) := rfl
      have e2 : f_X7_set fu (aN po) (aN pf) (aN ps) (nI i) 0 (nI x) (nI y) = (if inR (nI i) 20 then (if inR (nI i) 20 then (if inR (nI i) 20 then some (upd (aN po) (nI i).toNatClampNeg (0 : Int32), upd (aN pf) (nI i).toNatClampNeg (nI x), upd (aN ps) (nI i).toNatClampNeg (nI y)) else none) else none) else none) := rfl
      rw [e1, e2, if_pos hin, if_pos hin, if_pos hin, show (0 : Int32) = nI 0 from rfl, aN_up _ _ (by omega), aN_up _ _ (by omega), aN_up _ _ (by omega)]
      exact ⟨rfl, rfl⟩
    · rw [p2, Option.bind_some, if_pos rfl]
      refine Or.inl ⟨?_, rfl⟩
      rcases p1 with p | ⟨p, p3, -⟩
      · rw [if_pos p]
      · rw [if_neg p, if_pos p3]
  · rw [q1, q2, Option.bind_some, Option.bind_some, if_pos rfl, if_pos rfl]
    exact Or.inl ⟨rfl, rfl⟩
theorem fit_1 (fu : Nat) (a1 a2 : Int32) : FIT fu 1 a1 a2 := by
  have f1 : f_X4_fits fu 1 a1 a2 = (f_X6_isCell fu a1).bind (fun t => if t = 0 then some 0 else (f_X6_isCell fu a2).bind (fun u => if u = 0 then some 0 else some 1)) := rfl
  have f2 : f_X7_isOrder fu 1 a1 a2 = (f_X7_isCell fu a1).bind (fun t => if t = 0 then some 0 else (f_X7_isCell fu a2).bind (fun u => if u = 0 then some 0 else some 1)) := rfl
  unfold FIT
  rw [f1, f2]
  rcases x_cell fu a1 with ⟨x, hx, rfl, q1, q2⟩ | ⟨q1, q2⟩
  · rw [q1, q2, Option.bind_some, Option.bind_some, if_neg (show ¬ (1 : Int32) = 0 by decide), if_neg (show ¬ (1 : Int32) = 0 by decide)]
    rcases x_cell fu a2 with ⟨y, hy, rfl, p1, p2⟩ | ⟨p1, p2⟩
    · rw [p1, p2, Option.bind_some, if_neg (show ¬ (1 : Int32) = 0 by decide)]
      refine Or.inr ⟨rfl, rfl, ?_⟩
      refine ⟨1, x, y, by refine ⟨?_, ?_, ?_, ?_, ?_, ?_, ?_⟩ <;> omega, fun i po pf ps hi => ?_⟩
      have hin : inR (nI i) 20 := in_i hi (by decide)
      have e1 : f_X4_put fu (aN po) (aN pf) (aN ps) (nI i) 1 (nI x) (nI y) = (if inR (nI i) 20 then (if inR (nI i) 20 then (if inR (nI i) 20 then some (upd (aN po) (nI i).toNatClampNeg (1 : Int32), upd (aN pf) (nI i).toNatClampNeg (nI x), upd (aN ps) (nI i).toNatClampNeg (nI y)) else none) else none) else none) := rfl
      have e2 : f_X7_set fu (aN po) (aN pf) (aN ps) (nI i) 1 (nI x) (nI y) = (if inR (nI i) 20 then (if inR (nI i) 20 then (if inR (nI i) 20 then some (upd (aN po) (nI i).toNatClampNeg (1 : Int32), upd (aN pf) (nI i).toNatClampNeg (nI x), upd (aN ps) (nI i).toNatClampNeg (nI y)) else none) else none) else none) := rfl
      rw [e1, e2, if_pos hin, if_pos hin, if_pos hin, show (1 : Int32) = nI 1 from rfl, aN_up _ _ (by omega), aN_up _ _ (by omega), aN_up _ _ (by omega)]
      exact ⟨rfl, rfl⟩
    · rw [p1, p2, Option.bind_some, if_pos rfl]
      exact Or.inl ⟨rfl, rfl⟩
  · rw [q1, q2, Option.bind_some, Option.bind_some, if_pos rfl, if_pos rfl]
    exact Or.inl ⟨rfl, rfl⟩
theorem fit_2 (fu : Nat) (a1 a2 : Int32) : FIT fu 2 a1 a2 := by
  have f1 : f_X4_fits fu 2 a1 a2 = (f_X6_isCell fu a1).bind (fun t => if t = 0 then some 0 else (f_X6_isCell fu a2).bind (fun u => if u = 0 then some 0 else some 1)) := rfl
  have f2 : f_X7_isOrder fu 2 a1 a2 = (f_X7_isCell fu a1).bind (fun t => if t = 0 then some 0 else (f_X7_isCell fu a2).bind (fun u => if u = 0 then some 0 else some 1)) := rfl
  unfold FIT
  rw [f1, f2]
  rcases x_cell fu a1 with ⟨x, hx, rfl, q1, q2⟩ | ⟨q1, q2⟩
  · rw [q1, q2, Option.bind_some, Option.bind_some, if_neg (show ¬ (1 : Int32) = 0 by decide), if_neg (show ¬ (1 : Int32) = 0 by decide)]
    rcases x_cell fu a2 with ⟨y, hy, rfl, p1, p2⟩ | ⟨p1, p2⟩
    · rw [p1, p2, Option.bind_some, if_neg (show ¬ (1 : Int32) = 0 by decide)]
      refine Or.inr ⟨rfl, rfl, ?_⟩
      refine ⟨2, x, y, by refine ⟨?_, ?_, ?_, ?_, ?_, ?_, ?_⟩ <;> omega, fun i po pf ps hi => ?_⟩
      have hin : inR (nI i) 20 := in_i hi (by decide)
      have e1 : f_X4_put fu (aN po) (aN pf) (aN ps) (nI i) 2 (nI x) (nI y) = (if inR (nI i) 20 then (if inR (nI i) 20 then (if inR (nI i) 20 then some (upd (aN po) (nI i).toNatClampNeg (2 : Int32), upd (aN pf) (nI i).toNatClampNeg (nI x), upd (aN ps) (nI i).toNatClampNeg (nI y)) else none) else none) else none) := rfl
      have e2 : f_X7_set fu (aN po) (aN pf) (aN ps) (nI i) 2 (nI x) (nI y) = (if inR (nI i) 20 then (if inR (nI i) 20 then (if inR (nI i) 20 then some (upd (aN po) (nI i).toNatClampNeg (2 : Int32), upd (aN pf) (nI i).toNatClampNeg (nI x), upd (aN ps) (nI i).toNatClampNeg (nI y)) else none) else none) else none) := rfl
      rw [e1, e2, if_pos hin, if_pos hin, if_pos hin, show (2 : Int32) = nI 2 from rfl, aN_up _ _ (by omega), aN_up _ _ (by omega), aN_up _ _ (by omega)]
      exact ⟨rfl, rfl⟩
    · rw [p1, p2, Option.bind_some, if_pos rfl]
      exact Or.inl ⟨rfl, rfl⟩
  · rw [q1, q2, Option.bind_some, Option.bind_some, if_pos rfl, if_pos rfl]
    exact Or.inl ⟨rfl, rfl⟩
theorem fit_3 (fu : Nat) (a1 a2 : Int32) : FIT fu 3 a1 a2 := by
  have f1 : f_X4_fits fu 3 a1 a2 = (f_X6_isCell fu a1).bind (fun t => if t = 0 then some 0 else (f_X6_isCell fu a2).bind (fun u => if u = 0 then some 0 else some 1)) := rfl
  have f2 : f_X7_isOrder fu 3 a1 a2 = (f_X7_isCell fu a1).bind (fun t => if t = 0 then some 0 else (f_X7_isCell fu a2).bind (fun u => if u = 0 then some 0 else some 1)) := rfl
  unfold FIT
  rw [f1, f2]
  rcases x_cell fu a1 with ⟨x, hx, rfl, q1, q2⟩ | ⟨q1, q2⟩
  · rw [q1, q2, Option.bind_some, Option.bind_some, if_neg (show ¬ (1 : Int32) = 0 by decide), if_neg (show ¬ (1 : Int32) = 0 by decide)]
    rcases x_cell fu a2 with ⟨y, hy, rfl, p1, p2⟩ | ⟨p1, p2⟩
    · rw [p1, p2, Option.bind_some, if_neg (show ¬ (1 : Int32) = 0 by decide)]
      refine Or.inr ⟨rfl, rfl, ?_⟩
      refine ⟨3, x, y, by refine ⟨?_, ?_, ?_, ?_, ?_, ?_, ?_⟩ <;> omega, fun i po pf ps hi => ?_⟩
      have hin : inR (nI i) 20 := in_i hi (by decide)
      have e1 : f_X4_put fu (aN po) (aN pf) (aN ps) (nI i) 3 (nI x) (nI y) = (if inR (nI i) 20 then (if inR (nI i) 20 then (if inR (nI i) 20 then some (upd (aN po) (nI i).toNatClampNeg (3 : Int32), upd (aN pf) (nI i).toNatClampNeg (nI x), upd (aN ps) (nI i).toNatClampNeg (nI y)) else none) else none) else none) := rfl
      have e2 : f_X7_set fu (aN po) (aN pf) (aN ps) (nI i) 3 (nI x) (nI y) = (if inR (nI i) 20 then (if inR (nI i) 20 then (if inR (nI i) 20 then some (upd (aN po) (nI i).toNatClampNeg (3 : Int32), upd (aN pf) (nI i).toNatClampNeg (nI x), upd (aN ps) (nI i).toNatClampNeg (nI y)) else none) else none) else none) := rfl
      rw [e1, e2, if_pos hin, if_pos hin, if_pos hin, show (3 : Int32) = nI 3 from rfl, aN_up _ _ (by omega), aN_up _ _ (by omega), aN_up _ _ (by omega)]
      exact ⟨rfl, rfl⟩
    · rw [p1, p2, Option.bind_some, if_pos rfl]
      exact Or.inl ⟨rfl, rfl⟩
  · rw [q1, q2, Option.bind_some, Option.bind_some, if_pos rfl, if_pos rfl]
    exact Or.inl ⟨rfl, rfl⟩
theorem fit_4 (fu : Nat) (a1 a2 : Int32) : FIT fu 4 a1 a2 := by
  have f1 : f_X4_fits fu 4 a1 a2 = (f_X6_isCell fu a1).bind (fun t => if t = 0 then some 0 else (f_X6_isCell fu a2).bind (fun u => if u = 0 then some 0 else some 1)) := rfl
  have f2 : f_X7_isOrder fu 4 a1 a2 = (f_X7_isCell fu a1).bind (fun t => if t = 0 then some 0 else (f_X7_isCell fu a2).bind (fun u => if u = 0 then some 0 else some 1)) := rfl
  unfold FIT
  rw [f1, f2]
  rcases x_cell fu a1 with ⟨x, hx, rfl, q1, q2⟩ | ⟨q1, q2⟩
  · rw [q1, q2, Option.bind_some, Option.bind_some, if_neg (show ¬ (1 : Int32) = 0 by decide), if_neg (show ¬ (1 : Int32) = 0 by decide)]
    rcases x_cell fu a2 with ⟨y, hy, rfl, p1, p2⟩ | ⟨p1, p2⟩
    · rw [p1, p2, Option.bind_some, if_neg (show ¬ (1 : Int32) = 0 by decide)]
      refine Or.inr ⟨rfl, rfl, ?_⟩
      refine ⟨4, x, y, by refine ⟨?_, ?_, ?_, ?_, ?_, ?_, ?_⟩ <;> omega, fun i po pf ps hi => ?_⟩
      have hin : inR (nI i) 20 := in_i hi (by decide)
      have e1 : f_X4_put fu (aN po) (aN pf) (aN ps) (nI i) 4 (nI x) (nI y) = (if inR (nI i) 20 then (if inR (nI i) 20 then (if inR (nI i) 20 then some (upd (aN po) (nI i).toNatClampNeg (4 : Int32), upd (aN pf) (nI i).toNatClampNeg (nI x), upd (aN ps) (nI i).toNatClampNeg (nI y)) else none) else none) else none) := rfl
      have e2 : f_X7_set fu (aN po) (aN pf) (aN ps) (nI i) 4 (nI x) (nI y) = (if inR (nI i) 20 then (if inR (nI i) 20 then (if inR (nI i) 20 then some (upd (aN po) (nI i).toNatClampNeg (4 : Int32), upd (aN pf) (nI i).toNatClampNeg (nI x), upd (aN ps) (nI i).toNatClampNeg (nI y)) else none) else none) else none) := rfl
      rw [e1, e2, if_pos hin, if_pos hin, if_pos hin, show (4 : Int32) = nI 4 from rfl, aN_up _ _ (by omega), aN_up _ _ (by omega), aN_up _ _ (by omega)]
      exact ⟨rfl, rfl⟩
    · rw [p1, p2, Option.bind_some, if_pos rfl]
      exact Or.inl ⟨rfl, rfl⟩
  · rw [q1, q2, Option.bind_some, Option.bind_some, if_pos rfl, if_pos rfl]
    exact Or.inl ⟨rfl, rfl⟩
theorem fit_5 (fu : Nat) (a1 a2 : Int32) : FIT fu 5 a1 a2 := by
  have f1 : f_X4_fits fu 5 a1 a2 = (f_X6_isCell fu a1).bind (fun t => if isB t then some t else none) := rfl
  have f2 : f_X7_isOrder fu 5 a1 a2 = (f_X7_isCell fu a1).bind (fun t => if t = 0 then some 0 else some 1) := rfl
  unfold FIT
  rw [f1, f2]
  rcases x_cell fu a1 with ⟨x, hx, rfl, q1, q2⟩ | ⟨q1, q2⟩
  · rw [q1, q2, Option.bind_some, Option.bind_some, if_pos (Or.inr rfl), if_neg (show ¬ (1 : Int32) = 0 by decide)]
    refine Or.inr ⟨rfl, rfl, ?_⟩
    refine ⟨5, x, 0, by refine ⟨?_, ?_, ?_, ?_, ?_, ?_, ?_⟩ <;> omega, fun i po pf ps hi => ?_⟩
    have hin : inR (nI i) 20 := in_i hi (by decide)
    have e1 : f_X4_put fu (aN po) (aN pf) (aN ps) (nI i) 5 (nI x) a2 = (if inR (nI i) 20 then (if inR (nI i) 20 then (if inR (nI i) 20 then some (upd (aN po) (nI i).toNatClampNeg (5 : Int32), upd (aN pf) (nI i).toNatClampNeg (nI x), upd (aN ps) (nI i).toNatClampNeg (0 : Int32)) else none) else none) else none) := rfl
    have e2 : f_X7_set fu (aN po) (aN pf) (aN ps) (nI i) 5 (nI x) a2 = (if inR (nI i) 20 then (if inR (nI i) 20 then (if inR (nI i) 20 then some (upd (aN po) (nI i).toNatClampNeg (5 : Int32), upd (aN pf) (nI i).toNatClampNeg (nI x), upd (aN ps) (nI i).toNatClampNeg (0 : Int32)) else none) else none) else none) := rfl
    rw [e1, e2, if_pos hin, if_pos hin, if_pos hin, show (5 : Int32) = nI 5 from rfl, show (0 : Int32) = nI 0 from rfl, aN_up _ _ (by omega), aN_up _ _ (by omega), aN_up _ _ (by omega)]
    exact ⟨rfl, rfl⟩
  · rw [q1, q2, Option.bind_some, Option.bind_some, if_pos (Or.inl rfl), if_pos rfl]
    exact Or.inl ⟨rfl, rfl⟩
theorem fit_6 (fu : Nat) (a1 a2 : Int32) : FIT fu 6 a1 a2 := by
  have f1 : f_X4_fits fu 6 a1 a2 = (f_X4_isTarget fu a1).bind (fun t => if isB t then some t else none) := rfl
  have f2 : f_X7_isOrder fu 6 a1 a2 = (f_X7_in fu a1 0 19).bind (fun t => if t = 0 then some 0 else some 1) := rfl
  unfold FIT
  rw [f1, f2]
  rcases x_targ fu a1 with ⟨x, hx, rfl, q1, q2⟩ | ⟨q1, q2⟩
  · rw [q1, q2, Option.bind_some, Option.bind_some, if_pos (Or.inr rfl), if_neg (show ¬ (1 : Int32) = 0 by decide)]
    refine Or.inr ⟨rfl, rfl, ?_⟩
    refine ⟨6, x, 0, by refine ⟨?_, ?_, ?_, ?_, ?_, ?_, ?_⟩ <;> omega, fun i po pf ps hi => ?_⟩
    have hin : inR (nI i) 20 := in_i hi (by decide)
    have e1 : f_X4_put fu (aN po) (aN pf) (aN ps) (nI i) 6 (nI x) a2 = (if inR (nI i) 20 then (if inR (nI i) 20 then (if inR (nI i) 20 then some (upd (aN po) (nI i).toNatClampNeg (6 : Int32), upd (aN pf) (nI i).toNatClampNeg (nI x), upd (aN ps) (nI i).toNatClampNeg (0 : Int32)) else none) else none) else none) := rfl
    have e2 : f_X7_set fu (aN po) (aN pf) (aN ps) (nI i) 6 (nI x) a2 = (if inR (nI i) 20 then (if inR (nI i) 20 then (if inR (nI i) 20 then some (upd (aN po) (nI i).toNatClampNeg (6 : Int32), upd (aN pf) (nI i).toNatClampNeg (nI x), upd (aN ps) (nI i).toNatClampNeg (0 : Int32)) else none) else none) else none) := rfl
    rw [e1, e2, if_pos hin, if_pos hin, if_pos hin, show (6 : Int32) = nI 6 from rfl, show (0 : Int32) = nI 0 from rfl, aN_up _ _ (by omega), aN_up _ _ (by omega), aN_up _ _ (by omega)]
    exact ⟨rfl, rfl⟩
  · rw [q1, q2, Option.bind_some, Option.bind_some, if_pos (Or.inl rfl), if_pos rfl]
    exact Or.inl ⟨rfl, rfl⟩
theorem fit_7 (fu : Nat) (a1 a2 : Int32) : FIT fu 7 a1 a2 := by
  have f1 : f_X4_fits fu 7 a1 a2 = (f_X6_isCell fu a1).bind (fun t => if t = 0 then some 0 else (f_X4_isTarget fu a2).bind (fun u => if u = 0 then some 0 else some 1)) := rfl
  have f2 : f_X7_isOrder fu 7 a1 a2 = (f_X7_isCell fu a1).bind (fun t => if t = 0 then some 0 else (f_X7_in fu a2 0 19).bind (fun u => if u = 0 then some 0 else some 1)) := rfl
  unfold FIT
  rw [f1, f2]
  rcases x_cell fu a1 with ⟨x, hx, rfl, q1, q2⟩ | ⟨q1, q2⟩
  · rw [q1, q2, Option.bind_some, Option.bind_some, if_neg (show ¬ (1 : Int32) = 0 by decide), if_neg (show ¬ (1 : Int32) = 0 by decide)]
    rcases x_targ fu a2 with ⟨y, hy, rfl, p1, p2⟩ | ⟨p1, p2⟩
    · rw [p1, p2, Option.bind_some, if_neg (show ¬ (1 : Int32) = 0 by decide)]
      refine Or.inr ⟨rfl, rfl, ?_⟩
      refine ⟨7, x, y, by refine ⟨?_, ?_, ?_, ?_, ?_, ?_, ?_⟩ <;> omega, fun i po pf ps hi => ?_⟩
      have hin : inR (nI i) 20 := in_i hi (by decide)
      have e1 : f_X4_put fu (aN po) (aN pf) (aN ps) (nI i) 7 (nI x) (nI y) = (if inR (nI i) 20 then (if inR (nI i) 20 then (if inR (nI i) 20 then some (upd (aN po) (nI i).toNatClampNeg (7 : Int32), upd (aN pf) (nI i).toNatClampNeg (nI x), upd (aN ps) (nI i).toNatClampNeg (nI y)) else none) else none) else none) := rfl
      have e2 : f_X7_set fu (aN po) (aN pf) (aN ps) (nI i) 7 (nI x) (nI y) = (if inR (nI i) 20 then (if inR (nI i) 20 then (if inR (nI i) 20 then some (upd (aN po) (nI i).toNatClampNeg (7 : Int32), upd (aN pf) (nI i).toNatClampNeg (nI x), upd (aN ps) (nI i).toNatClampNeg (nI y)) else none) else none) else none) := rfl
      rw [e1, e2, if_pos hin, if_pos hin, if_pos hin, show (7 : Int32) = nI 7 from rfl, aN_up _ _ (by omega), aN_up _ _ (by omega), aN_up _ _ (by omega)]
      exact ⟨rfl, rfl⟩
    · rw [p1, p2, Option.bind_some, if_pos rfl]
      exact Or.inl ⟨rfl, rfl⟩
  · rw [q1, q2, Option.bind_some, Option.bind_some, if_pos rfl, if_pos rfl]
    exact Or.inl ⟨rfl, rfl⟩
theorem fit_8 (fu : Nat) (a1 a2 : Int32) : FIT fu 8 a1 a2 := by
  have f1 : f_X4_fits fu 8 a1 a2 = (f_X6_isCell fu a1).bind (fun t => if isB t then some t else none) := rfl
  have f2 : f_X7_isOrder fu 8 a1 a2 = (f_X7_isCell fu a1).bind (fun t => if t = 0 then some 0 else some 1) := rfl
  unfold FIT
  rw [f1, f2]
  rcases x_cell fu a1 with ⟨x, hx, rfl, q1, q2⟩ | ⟨q1, q2⟩
  · rw [q1, q2, Option.bind_some, Option.bind_some, if_pos (Or.inr rfl), if_neg (show ¬ (1 : Int32) = 0 by decide)]
    refine Or.inr ⟨rfl, rfl, ?_⟩
    refine ⟨8, x, 0, by refine ⟨?_, ?_, ?_, ?_, ?_, ?_, ?_⟩ <;> omega, fun i po pf ps hi => ?_⟩
    have hin : inR (nI i) 20 := in_i hi (by decide)
    have e1 : f_X4_put fu (aN po) (aN pf) (aN ps) (nI i) 8 (nI x) a2 = (if inR (nI i) 20 then (if inR (nI i) 20 then (if inR (nI i) 20 then some (upd (aN po) (nI i).toNatClampNeg (8 : Int32), upd (aN pf) (nI i).toNatClampNeg (nI x), upd (aN ps) (nI i).toNatClampNeg (0 : Int32)) else none) else none) else none) := rfl
    have e2 : f_X7_set fu (aN po) (aN pf) (aN ps) (nI i) 8 (nI x) a2 = (if inR (nI i) 20 then (if inR (nI i) 20 then (if inR (nI i) 20 then some (upd (aN po) (nI i).toNatClampNeg (8 : Int32), upd (aN pf) (nI i).toNatClampNeg (nI x), upd (aN ps) (nI i).toNatClampNeg (0 : Int32)) else none) else none) else none) := rfl
    rw [e1, e2, if_pos hin, if_pos hin, if_pos hin, show (8 : Int32) = nI 8 from rfl, show (0 : Int32) = nI 0 from rfl, aN_up _ _ (by omega), aN_up _ _ (by omega), aN_up _ _ (by omega)]
    exact ⟨rfl, rfl⟩
  · rw [q1, q2, Option.bind_some, Option.bind_some, if_pos (Or.inl rfl), if_pos rfl]
    exact Or.inl ⟨rfl, rfl⟩
theorem fit_9 (fu : Nat) (a1 a2 : Int32) : FIT fu 9 a1 a2 := by
  have f1 : f_X4_fits fu 9 a1 a2 = (f_X6_isCell fu a1).bind (fun t => if t = 0 then some 0 else (f_X6_isCell fu a2).bind (fun u => if u = 0 then some 0 else some 1)) := rfl
  have f2 : f_X7_isOrder fu 9 a1 a2 = (f_X7_isCell fu a1).bind (fun t => if t = 0 then some 0 else (f_X7_isCell fu a2).bind (fun u => if u = 0 then some 0 else some 1)) := rfl
  unfold FIT
  rw [f1, f2]
  rcases x_cell fu a1 with ⟨x, hx, rfl, q1, q2⟩ | ⟨q1, q2⟩
  · rw [q1, q2, Option.bind_some, Option.bind_some, if_neg (show ¬ (1 : Int32) = 0 by decide), if_neg (show ¬ (1 : Int32) = 0 by decide)]
    rcases x_cell fu a2 with ⟨y, hy, rfl, p1, p2⟩ | ⟨p1, p2⟩
    · rw [p1, p2, Option.bind_some, if_neg (show ¬ (1 : Int32) = 0 by decide)]
      refine Or.inr ⟨rfl, rfl, ?_⟩
      refine ⟨9, x, y, by refine ⟨?_, ?_, ?_, ?_, ?_, ?_, ?_⟩ <;> omega, fun i po pf ps hi => ?_⟩
      have hin : inR (nI i) 20 := in_i hi (by decide)
      have e1 : f_X4_put fu (aN po) (aN pf) (aN ps) (nI i) 9 (nI x) (nI y) = (if inR (nI i) 20 then (if inR (nI i) 20 then (if inR (nI i) 20 then some (upd (aN po) (nI i).toNatClampNeg (9 : Int32), upd (aN pf) (nI i).toNatClampNeg (nI x), upd (aN ps) (nI i).toNatClampNeg (nI y)) else none) else none) else none) := rfl
      have e2 : f_X7_set fu (aN po) (aN pf) (aN ps) (nI i) 9 (nI x) (nI y) = (if inR (nI i) 20 then (if inR (nI i) 20 then (if inR (nI i) 20 then some (upd (aN po) (nI i).toNatClampNeg (9 : Int32), upd (aN pf) (nI i).toNatClampNeg (nI x), upd (aN ps) (nI i).toNatClampNeg (nI y)) else none) else none) else none) := rfl
      rw [e1, e2, if_pos hin, if_pos hin, if_pos hin, show (9 : Int32) = nI 9 from rfl, aN_up _ _ (by omega), aN_up _ _ (by omega), aN_up _ _ (by omega)]
      exact ⟨rfl, rfl⟩
    · rw [p1, p2, Option.bind_some, if_pos rfl]
      exact Or.inl ⟨rfl, rfl⟩
  · rw [q1, q2, Option.bind_some, Option.bind_some, if_pos rfl, if_pos rfl]
    exact Or.inl ⟨rfl, rfl⟩
theorem fit_10 (fu : Nat) (a1 a2 : Int32) : FIT fu 10 a1 a2 := by
  have f1 : f_X4_fits fu 10 a1 a2 = (f_X6_isCell fu a1).bind (fun t => if t = 0 then some 0 else (f_X6_isCell fu a2).bind (fun u => if u = 0 then some 0 else some 1)) := rfl
  have f2 : f_X7_isOrder fu 10 a1 a2 = (f_X7_isCell fu a1).bind (fun t => if t = 0 then some 0 else (f_X7_isCell fu a2).bind (fun u => if u = 0 then some 0 else some 1)) := rfl
  unfold FIT
  rw [f1, f2]
  rcases x_cell fu a1 with ⟨x, hx, rfl, q1, q2⟩ | ⟨q1, q2⟩
  · rw [q1, q2, Option.bind_some, Option.bind_some, if_neg (show ¬ (1 : Int32) = 0 by decide), if_neg (show ¬ (1 : Int32) = 0 by decide)]
    rcases x_cell fu a2 with ⟨y, hy, rfl, p1, p2⟩ | ⟨p1, p2⟩
    · rw [p1, p2, Option.bind_some, if_neg (show ¬ (1 : Int32) = 0 by decide)]
      refine Or.inr ⟨rfl, rfl, ?_⟩
      refine ⟨10, x, y, by refine ⟨?_, ?_, ?_, ?_, ?_, ?_, ?_⟩ <;> omega, fun i po pf ps hi => ?_⟩
      have hin : inR (nI i) 20 := in_i hi (by decide)
      have e1 : f_X4_put fu (aN po) (aN pf) (aN ps) (nI i) 10 (nI x) (nI y) = (if inR (nI i) 20 then (if inR (nI i) 20 then (if inR (nI i) 20 then some (upd (aN po) (nI i).toNatClampNeg (10 : Int32), upd (aN pf) (nI i).toNatClampNeg (nI x), upd (aN ps) (nI i).toNatClampNeg (nI y)) else none) else none) else none) := rfl
      have e2 : f_X7_set fu (aN po) (aN pf) (aN ps) (nI i) 10 (nI x) (nI y) = (if inR (nI i) 20 then (if inR (nI i) 20 then (if inR (nI i) 20 then some (upd (aN po) (nI i).toNatClampNeg (10 : Int32), upd (aN pf) (nI i).toNatClampNeg (nI x), upd (aN ps) (nI i).toNatClampNeg (nI y)) else none) else none) else none) := rfl
      rw [e1, e2, if_pos hin, if_pos hin, if_pos hin, show (10 : Int32) = nI 10 from rfl, aN_up _ _ (by omega), aN_up _ _ (by omega), aN_up _ _ (by omega)]
      exact ⟨rfl, rfl⟩
    · rw [p1, p2, Option.bind_some, if_pos rfl]
      exact Or.inl ⟨rfl, rfl⟩
  · rw [q1, q2, Option.bind_some, Option.bind_some, if_pos rfl, if_pos rfl]
    exact Or.inl ⟨rfl, rfl⟩
theorem fit_11 (fu : Nat) (a1 a2 : Int32) : FIT fu 11 a1 a2 := by
  refine Or.inr ⟨rfl, rfl, ?_⟩
  refine ⟨11, 0, 0, by refine ⟨?_, ?_, ?_, ?_, ?_, ?_, ?_⟩ <;> omega, fun i po pf ps hi => ?_⟩
  have hin : inR (nI i) 20 := in_i hi (by decide)
  have e1 : f_X4_put fu (aN po) (aN pf) (aN ps) (nI i) 11 a1 a2 = (if inR (nI i) 20 then (if inR (nI i) 20 then (if inR (nI i) 20 then some (upd (aN po) (nI i).toNatClampNeg (11 : Int32), upd (aN pf) (nI i).toNatClampNeg (0 : Int32), upd (aN ps) (nI i).toNatClampNeg (0 : Int32)) else none) else none) else none) := rfl
  have e2 : f_X7_set fu (aN po) (aN pf) (aN ps) (nI i) 11 a1 a2 = (if inR (nI i) 20 then (if inR (nI i) 20 then (if inR (nI i) 20 then some (upd (aN po) (nI i).toNatClampNeg (11 : Int32), upd (aN pf) (nI i).toNatClampNeg (0 : Int32), upd (aN ps) (nI i).toNatClampNeg (0 : Int32)) else none) else none) else none) := rfl
  rw [e1, e2, if_pos hin, if_pos hin, if_pos hin, show (11 : Int32) = nI 11 from rfl, show (0 : Int32) = nI 0 from rfl, aN_up _ _ (by omega), aN_up _ _ (by omega), aN_up _ _ (by omega)]
  exact ⟨rfl, rfl⟩
theorem x_fit (fu : Nat) (a0 a1 a2 : Int32) : FIT fu a0 a1 a2 := by
  rcases x_le fu a0 (m := 11) (by decide) with ⟨j, h1, rfl, h3, h4, h5⟩ | ⟨h1, h2⟩
  · rcases (show j = 0 ∨ j = 1 ∨ j = 2 ∨ j = 3 ∨ j = 4 ∨ j = 5 ∨ j = 6 ∨ j = 7 ∨ j = 8 ∨ j = 9 ∨ j = 10 ∨ j = 11 by omega) with rfl | rfl | rfl | rfl | rfl | rfl | rfl | rfl | rfl | rfl | rfl | rfl
    · exact fit_0 fu a1 a2
    · exact fit_1 fu a1 a2
    · exact fit_2 fu a1 a2
    · exact fit_3 fu a1 a2
    · exact fit_4 fu a1 a2
    · exact fit_5 fu a1 a2
    · exact fit_6 fu a1 a2
    · exact fit_7 fu a1 a2
    · exact fit_8 fu a1 a2
    · exact fit_9 fu a1 a2
    · exact fit_10 fu a1 a2
    · exact fit_11 fu a1 a2
  · have hno : ∀ o, o ≤ 11 → ¬ a0 = nI o := by
      intro o ho e
      subst e
      rcases h1 with q | ⟨-, q⟩
      · exact nI_pos (by omega) q
      · exact q (nI_le ho (by decide))
    refine Or.inl ⟨?_, ?_⟩
    · unfold f_X4_fits
      rw [if_neg (show ¬ a0 = (0 : Int32) from hno 0 (by decide)), if_neg (show ¬ a0 = (1 : Int32) from hno 1 (by decide)), if_neg (show ¬ a0 = (2 : Int32) from hno 2 (by decide)), if_neg (show ¬ a0 = (3 : Int32) from hno 3 (by decide)), if_neg (show ¬ a0 = (4 : Int32) from hno 4 (by decide)), if_neg (show ¬ a0 = (5 : Int32) from hno 5 (by decide)), if_neg (show ¬ a0 = (6 : Int32) from hno 6 (by decide)), if_neg (show ¬ a0 = (7 : Int32) from hno 7 (by decide)), if_neg (show ¬ a0 = (8 : Int32) from hno 8 (by decide)), if_neg (show ¬ a0 = (9 : Int32) from hno 9 (by decide)), if_neg (show ¬ a0 = (10 : Int32) from hno 10 (by decide)), if_neg (show ¬ a0 = (11 : Int32) from hno 11 (by decide))]
    · unfold f_X7_isOrder
      rw [show (11 : Int32) = nI 11 from rfl, h2, Option.bind_some, if_pos rfl]
