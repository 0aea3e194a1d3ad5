/-! THE REFERENCE'S RUN WITH A FLIP, BY THE PLAIN RUN'S FIRST USE OF THE CELL -/
theorem rdS_e {P : PG} {S S2 : MS} {c : Nat} (hP : okP P) (hi : S.i < P.1) (h : sim S S2) : rdS P S c ↔ rdS P S2 c := by
  have e : rM (oA P S) (xA P S) (yA P S) S.g = rM (oA P S2) (xA P S2) (yA P S2) S2.g := rMs_e hP hi h
  refine ⟨fun z => (rM_bit _ _ _ _ _).mp ?_, fun z => (rM_bit _ _ _ _ _).mp ?_⟩
  · rw [← e]; exact (rM_bit _ _ _ _ _).mpr z
  · rw [e]; exact (rM_bit _ _ _ _ _).mpr z
theorem wrS_e {P : PG} {S S2 : MS} {c : Nat} (hP : okP P) (hi : S.i < P.1) (h : sim S S2) : wrS P S c ↔ wrS P S2 c := by
  have e : wM (oA P S) (xA P S) (yA P S) S.g = wM (oA P S2) (xA P S2) (yA P S2) S2.g := wMs_e hP hi h
  refine ⟨fun z => (wM_bit _ _ _ _ _).mp ?_, fun z => (wM_bit _ _ _ _ _).mp ?_⟩
  · rw [← e]; exact (wM_bit _ _ _ _ _).mpr z
  · rw [e]; exact (wM_bit _ _ _ _ _).mpr z
theorem sSt_v {P : PG} {c : Nat} (m : Nat) (S : MS) : sSt P c S m = !((qV P S 0 m).testBit c) := by
  rw [qV_bit]; simp
/-- the first use of a cell from tick t on -/
def nu (P : PG) (c0 : Nat → Nat) (c t : Nat) : Nat := qU (fun j => decide (rdS P (Pl P c0 j) c ∨ wrS P (Pl P c0 j) c)) t (Tk P c0 - t)
theorem nu_in (P : PG) (c0 : Nat → Nat) {c t : Nat} (ht : t ≤ Tk P c0) : t ≤ nu P c0 c t ∧ nu P c0 c t ≤ Tk P c0 := by
  have := qU_in (fun j => decide (rdS P (Pl P c0 j) c ∨ wrS P (Pl P c0 j) c)) (Tk P c0 - t) t
  unfold nu
  omega
theorem nu_no {P : PG} {c0 : Nat → Nat} {c t j : Nat} (h1 : t ≤ j) (h2 : j < nu P c0 c t) : ¬ rdS P (Pl P c0 j) c ∧ ¬ wrS P (Pl P c0 j) c := by
  have := qU_no (fun j => decide (rdS P (Pl P c0 j) c ∨ wrS P (Pl P c0 j) c)) (Tk P c0 - t) t j h1 h2
  have h := of_decide_eq_false this
  exact ⟨fun z => h (Or.inl z), fun z => h (Or.inr z)⟩
theorem nu_yes {P : PG} {c0 : Nat → Nat} {c t : Nat} (ht : t ≤ Tk P c0) (h : nu P c0 c t < Tk P c0) : rdS P (Pl P c0 (nu P c0 c t)) c ∨ wrS P (Pl P c0 (nu P c0 c t)) c := by
  have := qU_yes (fun j => decide (rdS P (Pl P c0 j) c ∨ wrS P (Pl P c0 j) c)) (Tk P c0 - t) t (by unfold nu at h; omega)
  exact of_decide_eq_true this
/-- the flipped machine from tick t, by what stands at the first use -/
theorem X_run {P : PG} {c0 : Nat → Nat} (hP : okP P) {S : MS} (hS : okS P S) (hs : sim S (S0 P c0 (fun _ => 0))) {c t w m : Nat} (ht : t ≤ Tk P c0) :
    qI P (upS (qI P S t) c w) (nu P c0 c t - t + m) = qI P (upS (qI P S (nu P c0 c t)) c w) m ∧ qT P (upS (qI P S t) c w) (nu P c0 c t - t + m) = nu P c0 c t - t + qT P (upS (qI P S (nu P c0 c t)) c w) m ∧ sRd P c (upS (qI P S t) c w) (nu P c0 c t - t + m) = sRd P c (upS (qI P S (nu P c0 c t)) c w) m ∧ sAt P c (upS (qI P S t) c w) (nu P c0 c t - t + m) = nu P c0 c t - t + sAt P c (upS (qI P S (nu P c0 c t)) c w) m ∧ sSt P c (upS (qI P S t) c w) (nu P c0 c t - t + m) = sSt P c (upS (qI P S (nu P c0 c t)) c w) m ∧ (qI P S (nu P c0 c t)).g c = (qI P S t).g c := by
  have hn := nu_in P c0 (c := c) ht
  have h := run_up (P := P) (c := c) (w := w) m (nu P c0 c t - t) (qI P S t) (fun j hj => by
    rw [qI_add]
    have hsj := qI_sim hP (t + j) _ _ hS hs
    have hgo : (Pl P c0 (t + j)).e = 3 := qT_lt P 100 _ (t + j) (by have : t + j < Tk P c0 := by omega
                                                                    exact this)
    have he : (qI P S (t + j)).e = 3 := by rw [hsj.2.2.2.2]; exact hgo
    have hi := (qI_ok hP (t + j) S hS).2.2.2.1 he
    have hno := nu_no (P := P) (c0 := c0) (c := c) (t := t) (j := t + j) (by omega) (by omega)
    exact ⟨he, fun z => hno.1 ((rdS_e hP hi hsj).mp z), fun z => hno.2 ((wrS_e hP hi hsj).mp z)⟩)
  rw [qI_add, show t + (nu P c0 c t - t) = nu P c0 c t by omega] at h
  exact h
