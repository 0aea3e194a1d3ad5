/-! A FLIP UNTIL ITS FIRST USE -/
def upS (S : MS) (c w : Nat) : MS := (va_up S.g c w, S.r, S.k, S.i, S.e)
theorem rd_up (o x y : Nat) (g : Nat → Nat) (c w : Nat) : qRd o x y (va_up g c w) c ↔ qRd o x y g c := by
  by_cases q : c = y
  · subst q
    by_cases b : qB o
    · exact ⟨fun _ => Or.inr (Or.inl ⟨b, rfl⟩), fun _ => Or.inr (Or.inl ⟨b, rfl⟩)⟩
    · have n9 : ¬ o = 9 := fun z => b (Or.inr (Or.inl z))
      constructor
      · rintro (h | h | h)
        · exact Or.inl h
        · exact absurd h.1 b
        · exact absurd h.1 n9
      · rintro (h | h | h)
        · exact Or.inl h
        · exact absurd h.1 b
        · exact absurd h.1 n9
  · have e : va_up g c w y = g y := up_n _ _ (fun z => q z.symm)
    show (_ ∨ _ ∨ (o = 9 ∧ va_up g c w y < 8 ∧ c = va_up g c w y)) ↔ _
    rw [e]
theorem wr_up {o x y : Nat} {g : Nat → Nat} {c : Nat} (h : ¬ qRd o x y g c) (w : Nat) : qWr o x y (va_up g c w) c ↔ qWr o x y g c := by
  have e9 : o = 9 → va_up g c w y = g y := fun z => un_y h w (Or.inr (Or.inl z))
  have e10 : o = 10 → va_up g c w x = g x := fun z => un_x h w (Or.inr (Or.inr (Or.inr z)))
  constructor
  · rintro (q | ⟨a, b, d⟩ | ⟨a, b, d⟩)
    · exact Or.inl q
    · rw [e9 a] at b; exact Or.inr (Or.inl ⟨a, b, d⟩)
    · rw [e10 a] at b d; exact Or.inr (Or.inr ⟨a, b, d⟩)
  · rintro (q | ⟨a, b, d⟩ | ⟨a, b, d⟩)
    · exact Or.inl q
    · exact Or.inr (Or.inl ⟨a, by rw [e9 a]; exact b, d⟩)
    · exact Or.inr (Or.inr ⟨a, by rw [e10 a]; exact b, by rw [e10 a]; exact d⟩)
theorem st_up {P : PG} {S : MS} {c : Nat} (h : ¬ rdS P S c) (hw : ¬ wrS P S c) (w : Nat) : qS P (upS S c w) = upS (qS P S) c w := by
  show (qG (oA P S) (xA P S) (yA P S) (va_up S.g c w), qR (oA P S) (xA P S) (va_up S.g c w) S.r S.k, qK (oA P S) S.k, qN (oA P S) (xA P S) (yA P S) (va_up S.g c w) S.i, qE P.1 (oA P S) (xA P S) (yA P S) (va_up S.g c w) S.k S.i) = (va_up (qG (oA P S) (xA P S) (yA P S) S.g) c w, qR (oA P S) (xA P S) S.g S.r S.k, qK (oA P S) S.k, qN (oA P S) (xA P S) (yA P S) S.g S.i, qE P.1 (oA P S) (xA P S) (yA P S) S.g S.k S.i)
  rw [un_G h hw, un_N h, un_E h, un_R h]
theorem st_wr {P : PG} {S : MS} {c : Nat} (h : ¬ rdS P S c) (hw : wrS P S c) (w : Nat) : qS P (upS S c w) = qS P S := by
  show (qG (oA P S) (xA P S) (yA P S) (va_up S.g c w), qR (oA P S) (xA P S) (va_up S.g c w) S.r S.k, qK (oA P S) S.k, qN (oA P S) (xA P S) (yA P S) (va_up S.g c w) S.i, qE P.1 (oA P S) (xA P S) (yA P S) (va_up S.g c w) S.k S.i) = (qG (oA P S) (xA P S) (yA P S) S.g, qR (oA P S) (xA P S) S.g S.r S.k, qK (oA P S) S.k, qN (oA P S) (xA P S) (yA P S) S.g S.i, qE P.1 (oA P S) (xA P S) (yA P S) S.g S.k S.i)
  rw [un_W h hw, un_N h, un_E h, un_R h]
theorem rdS_up {P : PG} {S : MS} {c w : Nat} : rdS P (upS S c w) c ↔ rdS P S c := rd_up _ _ _ _ _ _
theorem wrS_up {P : PG} {S : MS} {c : Nat} (h : ¬ rdS P S c) (w : Nat) : wrS P (upS S c w) c ↔ wrS P S c := wr_up h w
theorem upS_e (S : MS) (c w : Nat) : (upS S c w).e = S.e := rfl
/-- ticks that leave the cell alone -/
theorem run_up {P : PG} {c w : Nat} (m : Nat) : ∀ (d : Nat) (S : MS), (∀ j, j < d → (qI P S j).e = 3 ∧ ¬ rdS P (qI P S j) c ∧ ¬ wrS P (qI P S j) c) →
    qI P (upS S c w) (d + m) = qI P (upS (qI P S d) c w) m ∧ qT P (upS S c w) (d + m) = d + qT P (upS (qI P S d) c w) m ∧ sRd P c (upS S c w) (d + m) = sRd P c (upS (qI P S d) c w) m ∧ sAt P c (upS S c w) (d + m) = d + sAt P c (upS (qI P S d) c w) m ∧ sSt P c (upS S c w) (d + m) = sSt P c (upS (qI P S d) c w) m ∧ (qI P S d).g c = S.g c := by
  intro d
  induction d with
  | zero => intro S _; rw [Nat.zero_add]; exact ⟨rfl, (Nat.zero_add _).symm, rfl, (Nat.zero_add _).symm, rfl, rfl⟩
  | succ d ih =>
    intro S h
    obtain ⟨he, h1, h2⟩ := h 0 (by omega)
    have he : S.e = 3 := he
    have h1 : ¬ rdS P S c := h1
    have h2 : ¬ wrS P S c := h2
    obtain ⟨i1, i2, i3, i4, i5, i6⟩ := ih (qS P S) (fun j hj => by have := h (j + 1) (by omega); rw [qI_go he] at this; exact this)
    have he2 : (upS S c w).e = 3 := he
    have n1 : ¬ rdS P (upS S c w) c := fun z => h1 (rdS_up.mp z)
    have n2 : ¬ wrS P (upS S c w) c := fun z => h2 ((wrS_up h1 w).mp z)
    rw [show d + 1 + m = d + m + 1 by omega, qI_go he2, qT_go he2, sRd, if_pos he2, if_neg n1, if_neg n2, sAt, if_pos ⟨he2, n1⟩, sSt, if_pos he2, if_neg n2, st_up h1 h2, qI_go he]
    refine ⟨i1, by rw [i2]; omega, i3, by rw [i4]; omega, i5, i6.trans ?_⟩
    exact qG_o h2
/-- the first use is a reading -/
theorem use_rd {P : PG} {S : MS} {c w : Nat} (he : S.e = 3) (h : rdS P S c) (m : Nat) : sRd P c (upS S c w) (m + 1) = true ∧ sAt P c (upS S c w) (m + 1) = 0 := by
  have he2 : (upS S c w).e = 3 := he
  have h2 : rdS P (upS S c w) c := rdS_up.mpr h
  rw [sRd, if_pos he2, if_pos h2, sAt, if_neg (fun z => z.2 h2)]
  exact ⟨rfl, rfl⟩
/-- .. a writing -/
theorem use_wr {P : PG} {S : MS} {c w : Nat} (he : S.e = 3) (h1 : ¬ rdS P S c) (h : wrS P S c) (m : Nat) : sRd P c (upS S c w) (m + 1) = false ∧ sSt P c (upS S c w) (m + 1) = false ∧ qI P (upS S c w) (m + 1) = qI P S (m + 1) ∧ qT P (upS S c w) (m + 1) = qT P S (m + 1) := by
  have he2 : (upS S c w).e = 3 := he
  have n1 : ¬ rdS P (upS S c w) c := fun z => h1 (rdS_up.mp z)
  have n2 : wrS P (upS S c w) c := (wrS_up h1 w).mpr h
  rw [sRd, if_pos he2, if_neg n1, if_pos n2, sSt, if_pos he2, if_pos n2, qI_go he2, qI_go he, qT_go he2, qT_go he, st_wr h1 h]
  exact ⟨rfl, rfl, rfl, rfl⟩
/-- .. there is none -/
theorem use_no {P : PG} {S : MS} {c w : Nat} (he : ¬ S.e = 3) (m : Nat) : sRd P c (upS S c w) m = false ∧ sSt P c (upS S c w) m = true ∧ qI P (upS S c w) m = upS S c w ∧ qT P (upS S c w) m = 0 := by
  have he2 : ¬ (upS S c w).e = 3 := he
  refine ⟨?_, ?_, qI_no he2 m, qT_no he2 m⟩
  · cases m with
    | zero => rfl
    | succ m => rw [sRd, if_neg he2]
  · cases m with
    | zero => rfl
    | succ m => rw [sSt, if_neg he2]
/-- written since, by the mask and by the flag -/
theorem qV_bit {P : PG} {c : Nat} : ∀ (m w : Nat) (S : MS), (qV P S w m).testBit c = (w.testBit c || !(sSt P c S m))
  | 0, w, S => by show w.testBit c = (w.testBit c || !true); simp
  | m + 1, w, S => by
    by_cases he : S.e = 3
    · rw [qV, if_pos he, sSt, if_pos he, qV_bit m, Nat.testBit_or]
      by_cases q : wrS P S c
      · rw [if_pos q, (wM_bit _ _ _ _ _).mpr q]; simp
      · rw [if_neg q, Bool.eq_false_iff.mpr (fun z => q ((wM_bit _ _ _ _ _).mp z))]; simp
    · rw [qV, if_neg he, sSt, if_neg he]; simp
