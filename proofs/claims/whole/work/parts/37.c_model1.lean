set_option maxHeartbeats 4000000 in
set_option maxRecDepth 100000 in
theorem m_X7_in (l : Launch) (D : va_G) (cI : ClassId) (pt : Nat)   (a0 : Int32) (a1 : Int32) (a2 : Int32) (fu : Nat) (res : Int32) (h : f_X7_in fu  a0 a1 a2 = some res) :
    MT l D cI pt yX7_in wsX7_in ({ frames := 0, cells := 0, slots := 0, locals := 0 } : Room) [.int a0, .int a1, .int a2] [] (some (.int res)) [] := by
  refine MT.mk (cc := cX7_in) (maxL := 3) (ret := (some .boolean)) (own := RX7) (by decide) rfl rfl (Nat.le_of_ble_eq_true rfl) rfl ?_
  intro p e s m args below meth c A ls X hP hD hS hl
  obtain ⟨hx, hb, hml, hown, hts, hr, hlk, hE, hH, hA⟩ := id X
  have hl : lv_has ls 3 [(0, .int a0), (1, .int a1), (2, .int a2)] := hl
  unfold f_X7_in at h
  refine lv_iload_n hx hb dX7_in_0 rfl (lv_at hl 0 rfl) ?_
  refine lv_iload_n hx hb dX7_in_1 rfl (lv_at hl 1 rfl) ?_
  refine lv_icmp_lt (tgt := 14) hx hb dX7_in_2 (by decide) (fun c_1 => ?_) (fun c_1 => ?_)
  · have h := x_p c_1 h
    refine lv_iconst (v := (0 : Int32)) hx hb dX7_in_14 (by decide) ?_
    cases h
    exact r_z X hP hD hS rfl (Or.inl rfl) dX7_in_15
  · have h := x_n c_1 h
    refine lv_iload_n hx hb dX7_in_5 rfl (lv_at hl 0 rfl) ?_
    refine lv_iload_n hx hb dX7_in_6 rfl (lv_at hl 2 rfl) ?_
    refine lv_icmp_gt (tgt := 14) hx hb dX7_in_7 (by decide) (fun c_2 => ?_) (fun c_2 => ?_)
    · have h := x_p c_2 h
      refine lv_iconst (v := (0 : Int32)) hx hb dX7_in_14 (by decide) ?_
      cases h
      exact r_z X hP hD hS rfl (Or.inl rfl) dX7_in_15
    · have h := x_n c_2 h
      refine lv_iconst (v := (1 : Int32)) hx hb dX7_in_10 (by decide) ?_
      refine lv_goto (tgt := 15) hx hb dX7_in_11 (by decide) ?_
      cases h
      exact r_z X hP hD hS rfl (Or.inr rfl) dX7_in_15

set_option maxHeartbeats 4000000 in
set_option maxRecDepth 100000 in
theorem m_X7_isCell (l : Launch) (D : va_G) (cI : ClassId) (pt : Nat)   (a0 : Int32) (fu : Nat) (res : Int32) (h : f_X7_isCell fu  a0 = some res) :
    MT l D cI pt yX7_isCell wsX7_isCell ({ frames := 1, cells := 0, slots := 0, locals := 22 } : Room) [.int a0] [] (some (.int res)) [] := by
  refine MT.mk (cc := cX7_isCell) (maxL := 1) (ret := (some .boolean)) (own := RX7) (by decide) rfl rfl (Nat.le_of_ble_eq_true rfl) rfl ?_
  intro p e s m args below meth c A ls X hP hD hS hl
  obtain ⟨hx, hb, hml, hown, hts, hr, hlk, hE, hH, hA⟩ := id X
  have hl : lv_has ls 1 [(0, .int a0)] := hl
  unfold f_X7_isCell at h
  refine lv_iload_n hx hb dX7_isCell_0 rfl (lv_at hl 0 rfl) ?_
  refine lv_iconst (v := (0 : Int32)) hx hb dX7_isCell_1 (by decide) ?_
  refine lv_bipush (v := (7 : Int32)) hx hb dX7_isCell_2 (by decide) ?_
  obtain ⟨t_1, hc, h⟩ := x_b h
  refine c_S (na := 3) (rest := []) (st1 := [.int t_1]) (Wr := []) (Wn := []) X hP hD hS hl.1 (m_X7_in l D cI pt   a0 (0 : Int32) (7 : Int32) fu _ hc) gX7_isCell_X7_in rfl ⟨rfl, rfl⟩ rfl (by decide +kernel) ⟨Nat.le_of_ble_eq_true rfl, Nat.le_of_ble_eq_true rfl⟩ [] [] [] rfl rfl rfl rfl (by decide) rfl rfl (Nat.le_of_ble_eq_true rfl) dX7_isCell_4 ⟨Nat.zero_le _, Nat.zero_le _⟩ rfl rfl (fun H locs hP hD hS => ?_)
  obtain ⟨g_2, h⟩ := x_gd h
  cases h
  exact r_z X hP hD hS rfl g_2 dX7_isCell_7

set_option maxHeartbeats 4000000 in
set_option maxRecDepth 100000 in
theorem m_X7_takesCell (l : Launch) (D : va_G) (cI : ClassId) (pt : Nat)   (a0 : Int32) (fu : Nat) (res : Int32) (h : f_X7_takesCell fu  a0 = some res) :
    MT l D cI pt yX7_takesCell wsX7_takesCell ({ frames := 0, cells := 0, slots := 0, locals := 0 } : Room) [.int a0] [] (some (.int res)) [] := by
  refine MT.mk (cc := cX7_takesCell) (maxL := 1) (ret := (some .boolean)) (own := RX7) (by decide) rfl rfl (Nat.le_of_ble_eq_true rfl) rfl ?_
  intro p e s m args below meth c A ls X hP hD hS hl
  obtain ⟨hx, hb, hml, hown, hts, hr, hlk, hE, hH, hA⟩ := id X
  have hl : lv_has ls 1 [(0, .int a0)] := hl
  unfold f_X7_takesCell at h
  refine lv_iload_n hx hb dX7_takesCell_0 rfl (lv_at hl 0 rfl) ?_
  refine lv_bipush (v := (6 : Int32)) hx hb dX7_takesCell_1 (by decide) ?_
  refine lv_icmp_eq (tgt := 16) hx hb dX7_takesCell_3 (by decide) (fun c_1 => ?_) (fun c_1 => ?_)
  · have h := x_p c_1 h
    refine lv_iconst (v := (0 : Int32)) hx hb dX7_takesCell_16 (by decide) ?_
    cases h
    exact r_z X hP hD hS rfl (Or.inl rfl) dX7_takesCell_17
  · have h := x_n c_1 h
    refine lv_iload_n hx hb dX7_takesCell_6 rfl (lv_at hl 0 rfl) ?_
    refine lv_bipush (v := (11 : Int32)) hx hb dX7_takesCell_7 (by decide) ?_
    refine lv_icmp_eq (tgt := 16) hx hb dX7_takesCell_9 (by decide) (fun c_2 => ?_) (fun c_2 => ?_)
    · have h := x_p c_2 h
      refine lv_iconst (v := (0 : Int32)) hx hb dX7_takesCell_16 (by decide) ?_
      cases h
      exact r_z X hP hD hS rfl (Or.inl rfl) dX7_takesCell_17
    · have h := x_n c_2 h
      refine lv_iconst (v := (1 : Int32)) hx hb dX7_takesCell_12 (by decide) ?_
      refine lv_goto (tgt := 17) hx hb dX7_takesCell_13 (by decide) ?_
      cases h
      exact r_z X hP hD hS rfl (Or.inr rfl) dX7_takesCell_17

set_option maxHeartbeats 4000000 in
set_option maxRecDepth 100000 in
theorem m_X7_takesOther (l : Launch) (D : va_G) (cI : ClassId) (pt : Nat)   (a0 : Int32) (fu : Nat) (res : Int32) (h : f_X7_takesOther fu  a0 = some res) :
    MT l D cI pt yX7_takesOther wsX7_takesOther ({ frames := 1, cells := 0, slots := 0, locals := 22 } : Room) [.int a0] [] (some (.int res)) [] := by
  refine MT.mk (cc := cX7_takesOther) (maxL := 1) (ret := (some .boolean)) (own := RX7) (by decide) rfl rfl (Nat.le_of_ble_eq_true rfl) rfl ?_
  intro p e s m args below meth c A ls X hP hD hS hl
  obtain ⟨hx, hb, hml, hown, hts, hr, hlk, hE, hH, hA⟩ := id X
  have hl : lv_has ls 1 [(0, .int a0)] := hl
  unfold f_X7_takesOther at h
  refine lv_iload_n hx hb dX7_takesOther_0 rfl (lv_at hl 0 rfl) ?_
  refine lv_iconst (v := (1 : Int32)) hx hb dX7_takesOther_1 (by decide) ?_
  refine lv_iconst (v := (4 : Int32)) hx hb dX7_takesOther_2 (by decide) ?_
  obtain ⟨t_1, hc, h⟩ := x_b h
  refine c_S (na := 3) (rest := []) (st1 := [.int t_1]) (Wr := []) (Wn := []) X hP hD hS hl.1 (m_X7_in l D cI pt   a0 (1 : Int32) (4 : Int32) fu _ hc) gX7_takesOther_X7_in rfl ⟨rfl, rfl⟩ rfl (by decide +kernel) ⟨Nat.le_of_ble_eq_true rfl, Nat.le_of_ble_eq_true rfl⟩ [] [] [] rfl rfl rfl rfl (by decide) rfl rfl (Nat.le_of_ble_eq_true rfl) dX7_takesOther_3 ⟨Nat.zero_le _, Nat.zero_le _⟩ rfl rfl (fun H locs hP hD hS => ?_)
  refine lv_if_ne (tgt := 21) hx hb dX7_takesOther_6 (by decide) (fun c_2 => ?_) (fun c_2 => ?_)
  · have h := x_n c_2 h
    refine lv_iconst (v := (1 : Int32)) hx hb dX7_takesOther_21 (by decide) ?_
    refine lv_goto (tgt := 26) hx hb dX7_takesOther_22 (by decide) ?_
    cases h
    exact r_z X hP hD hS rfl (Or.inr rfl) dX7_takesOther_26
  · have h := x_p c_2 h
    refine lv_iload_n hx hb dX7_takesOther_9 rfl (lv_at hl 0 rfl) ?_
    refine lv_bipush (v := (9 : Int32)) hx hb dX7_takesOther_10 (by decide) ?_
    refine lv_icmp_eq (tgt := 21) hx hb dX7_takesOther_12 (by decide) (fun c_3 => ?_) (fun c_3 => ?_)
    · have h := x_p c_3 h
      refine lv_iconst (v := (1 : Int32)) hx hb dX7_takesOther_21 (by decide) ?_
      refine lv_goto (tgt := 26) hx hb dX7_takesOther_22 (by decide) ?_
      cases h
      exact r_z X hP hD hS rfl (Or.inr rfl) dX7_takesOther_26
    · have h := x_n c_3 h
      refine lv_iload_n hx hb dX7_takesOther_15 rfl (lv_at hl 0 rfl) ?_
      refine lv_bipush (v := (10 : Int32)) hx hb dX7_takesOther_16 (by decide) ?_
      refine lv_icmp_ne (tgt := 25) hx hb dX7_takesOther_18 (by decide) (fun c_4 => ?_) (fun c_4 => ?_)
      · have h := x_n c_4 h
        refine lv_iconst (v := (0 : Int32)) hx hb dX7_takesOther_25 (by decide) ?_
        cases h
        exact r_z X hP hD hS rfl (Or.inl rfl) dX7_takesOther_26
      · have h := x_p c_4 h
        refine lv_iconst (v := (1 : Int32)) hx hb dX7_takesOther_21 (by decide) ?_
        refine lv_goto (tgt := 26) hx hb dX7_takesOther_22 (by decide) ?_
        cases h
        exact r_z X hP hD hS rfl (Or.inr rfl) dX7_takesOther_26

set_option maxHeartbeats 4000000 in
set_option maxRecDepth 100000 in
theorem tr_X7_isOrder_71 {p : Program} {l : Launch} {e : Env} {s : State} {m : MethodId} {args : Array Value} {below : List Frame} {meth : Method} {c : Code} {D : va_G} {cI : ClassId} {pt : Nat} {A : Nat → Prop} (X : CX p s m args meth c D cI pt A cX7_isOrder 3 (some .boolean) wsX7_isOrder RX7)     (fu : Nat)  (res : Int32)  :
    ∀ (y71_0 : Int32) (y71_2 : Int32), fr_X7_isOrder_71 fu    y71_0 y71_2 = some res → ∀ (H : Heap) (locs : List Loc) (ls : Array Slot), va_P D vwCl [] H → va_D A [] → va_S A s.heap H locs → lv_has ls 3 [(0, .int y71_0), (2, .int y71_2)] → W p l e ({ frames := 2, cells := 0, slots := 0, locals := 42 } : Room) s m args below meth c H locs 0 0 (MQ below (Qg D A (some (.int res)) []) args s 0 0 A) (F0 m 71 ls []) := by
  obtain ⟨hx, hb, hml, hown, hts, hr, hlk, hE, hH, hA⟩ := id X
  intro y71_0 y71_2 h H locs ls hP hD hS hl
  unfold fr_X7_isOrder_71 at h
  refine lv_iload_n hx hb dX7_isOrder_71 rfl (lv_at hl 0 rfl) ?_
  refine lv_bipush (v := (7 : Int32)) hx hb dX7_isOrder_72 (by decide) ?_
  refine lv_icmp_ne (tgt := 87) hx hb dX7_isOrder_74 (by decide) (fun c_9 => ?_) (fun c_9 => ?_)
  · have h := x_n c_9 h
    refine lv_iconst (v := (1 : Int32)) hx hb dX7_isOrder_87 (by decide) ?_
    refine lv_goto (tgt := 92) hx hb dX7_isOrder_88 (by decide) ?_
    cases h
    exact r_z X hP hD hS rfl (Or.inr rfl) dX7_isOrder_92
  · have h := x_p c_9 h
    refine lv_iload_n hx hb dX7_isOrder_77 rfl (lv_at hl 1 rfl) ?_
    refine lv_iconst (v := (0 : Int32)) hx hb dX7_isOrder_78 (by decide) ?_
    refine lv_bipush (v := (19 : Int32)) hx hb dX7_isOrder_79 (by decide) ?_
    obtain ⟨t_10, hc, h⟩ := x_b h
    refine c_S (na := 3) (rest := []) (st1 := [.int t_10]) (Wr := []) (Wn := []) X hP hD hS hl.1 (m_X7_in l D cI pt   y71_2 (0 : Int32) (19 : Int32) fu _ hc) gX7_isOrder_X7_in rfl ⟨rfl, rfl⟩ rfl (by decide +kernel) ⟨Nat.le_of_ble_eq_true rfl, Nat.le_of_ble_eq_true rfl⟩ [] [] [] rfl rfl rfl rfl (by decide) rfl rfl (Nat.le_of_ble_eq_true rfl) dX7_isOrder_81 ⟨Nat.zero_le _, Nat.zero_le _⟩ rfl rfl (fun H locs hP hD hS => ?_)
    refine lv_if_eq (tgt := 91) hx hb dX7_isOrder_84 (by decide) (fun c_11 => ?_) (fun c_11 => ?_)
    · have h := x_p c_11 h
      refine lv_iconst (v := (0 : Int32)) hx hb dX7_isOrder_91 (by decide) ?_
      cases h
      exact r_z X hP hD hS rfl (Or.inl rfl) dX7_isOrder_92
    · have h := x_n c_11 h
      refine lv_iconst (v := (1 : Int32)) hx hb dX7_isOrder_87 (by decide) ?_
      refine lv_goto (tgt := 92) hx hb dX7_isOrder_88 (by decide) ?_
      cases h
      exact r_z X hP hD hS rfl (Or.inr rfl) dX7_isOrder_92
set_option maxHeartbeats 4000000 in
set_option maxRecDepth 100000 in
theorem tr_X7_isOrder_55 {p : Program} {l : Launch} {e : Env} {s : State} {m : MethodId} {args : Array Value} {below : List Frame} {meth : Method} {c : Code} {D : va_G} {cI : ClassId} {pt : Nat} {A : Nat → Prop} (X : CX p s m args meth c D cI pt A cX7_isOrder 3 (some .boolean) wsX7_isOrder RX7)     (fu : Nat)  (res : Int32)  :
    ∀ (y55_0 : Int32) (y55_1 : Int32) (y55_2 : Int32), fr_X7_isOrder_55 fu    y55_0 y55_1 y55_2 = some res → ∀ (H : Heap) (locs : List Loc) (ls : Array Slot), va_P D vwCl [] H → va_D A [] → va_S A s.heap H locs → lv_has ls 3 [(0, .int y55_0), (1, .int y55_1), (2, .int y55_2)] → W p l e ({ frames := 2, cells := 0, slots := 0, locals := 42 } : Room) s m args below meth c H locs 0 0 (MQ below (Qg D A (some (.int res)) []) args s 0 0 A) (F0 m 55 ls []) := by
  obtain ⟨hx, hb, hml, hown, hts, hr, hlk, hE, hH, hA⟩ := id X
  intro y55_0 y55_1 y55_2 h H locs ls hP hD hS hl
  unfold fr_X7_isOrder_55 at h
  refine lv_iload_n hx hb dX7_isOrder_55 rfl (lv_at hl 0 rfl) ?_
  refine lv_bipush (v := (6 : Int32)) hx hb dX7_isOrder_56 (by decide) ?_
  refine lv_icmp_ne (tgt := 71) hx hb dX7_isOrder_58 (by decide) (fun c_8 => ?_) (fun c_8 => ?_)
  · have h := x_n c_8 h
    refine tr_X7_isOrder_71 X    fu  res   y55_0 y55_2 h _ _ _ hP hD hS (lv_sub hl [0, 2] rfl)
  · have h := x_p c_8 h
    refine lv_iload_n hx hb dX7_isOrder_61 rfl (lv_at hl 1 rfl) ?_
    refine lv_iconst (v := (0 : Int32)) hx hb dX7_isOrder_62 (by decide) ?_
    refine lv_bipush (v := (19 : Int32)) hx hb dX7_isOrder_63 (by decide) ?_
    obtain ⟨t_12, hc, h⟩ := x_b h
    refine c_S (na := 3) (rest := []) (st1 := [.int t_12]) (Wr := []) (Wn := []) X hP hD hS hl.1 (m_X7_in l D cI pt   y55_1 (0 : Int32) (19 : Int32) fu _ hc) gX7_isOrder_X7_in rfl ⟨rfl, rfl⟩ rfl (by decide +kernel) ⟨Nat.le_of_ble_eq_true rfl, Nat.le_of_ble_eq_true rfl⟩ [] [] [] rfl rfl rfl rfl (by decide) rfl rfl (Nat.le_of_ble_eq_true rfl) dX7_isOrder_65 ⟨Nat.zero_le _, Nat.zero_le _⟩ rfl rfl (fun H locs hP hD hS => ?_)
    refine lv_if_eq (tgt := 91) hx hb dX7_isOrder_68 (by decide) (fun c_13 => ?_) (fun c_13 => ?_)
    · have h := x_p c_13 h
      refine lv_iconst (v := (0 : Int32)) hx hb dX7_isOrder_91 (by decide) ?_
      cases h
      exact r_z X hP hD hS rfl (Or.inl rfl) dX7_isOrder_92
    · have h := x_n c_13 h
      refine tr_X7_isOrder_71 X    fu  res   y55_0 y55_2 h _ _ _ hP hD hS (lv_sub hl [0, 2] rfl)
set_option maxHeartbeats 4000000 in
set_option maxRecDepth 100000 in
theorem tr_X7_isOrder_40 {p : Program} {l : Launch} {e : Env} {s : State} {m : MethodId} {args : Array Value} {below : List Frame} {meth : Method} {c : Code} {D : va_G} {cI : ClassId} {pt : Nat} {A : Nat → Prop} (X : CX p s m args meth c D cI pt A cX7_isOrder 3 (some .boolean) wsX7_isOrder RX7)     (fu : Nat)  (res : Int32)  :
    ∀ (y40_0 : Int32) (y40_1 : Int32) (y40_2 : Int32), fr_X7_isOrder_40 fu    y40_0 y40_1 y40_2 = some res → ∀ (H : Heap) (locs : List Loc) (ls : Array Slot), va_P D vwCl [] H → va_D A [] → va_S A s.heap H locs → lv_has ls 3 [(0, .int y40_0), (1, .int y40_1), (2, .int y40_2)] → W p l e ({ frames := 2, cells := 0, slots := 0, locals := 42 } : Room) s m args below meth c H locs 0 0 (MQ below (Qg D A (some (.int res)) []) args s 0 0 A) (F0 m 40 ls []) := by
  obtain ⟨hx, hb, hml, hown, hts, hr, hlk, hE, hH, hA⟩ := id X
  intro y40_0 y40_1 y40_2 h H locs ls hP hD hS hl
  unfold fr_X7_isOrder_40 at h
  refine lv_iload_n hx hb dX7_isOrder_40 rfl (lv_at hl 0 rfl) ?_
  refine lv_if_ne (tgt := 55) hx hb dX7_isOrder_41 (by decide) (fun c_7 => ?_) (fun c_7 => ?_)
  · have h := x_n c_7 h
    refine tr_X7_isOrder_55 X    fu  res   y40_0 y40_1 y40_2 h _ _ _ hP hD hS (lv_sub hl [0, 1, 2] rfl)
  · have h := x_p c_7 h
    refine lv_iload_n hx hb dX7_isOrder_44 rfl (lv_at hl 2 rfl) ?_
    refine lv_iconst (v := (0 : Int32)) hx hb dX7_isOrder_45 (by decide) ?_
    refine lv_sipush (v := (255 : Int32)) hx hb dX7_isOrder_46 (by decide) ?_
    obtain ⟨t_14, hc, h⟩ := x_b h
    refine c_S (na := 3) (rest := []) (st1 := [.int t_14]) (Wr := []) (Wn := []) X hP hD hS hl.1 (m_X7_in l D cI pt   y40_2 (0 : Int32) (255 : Int32) fu _ hc) gX7_isOrder_X7_in rfl ⟨rfl, rfl⟩ rfl (by decide +kernel) ⟨Nat.le_of_ble_eq_true rfl, Nat.le_of_ble_eq_true rfl⟩ [] [] [] rfl rfl rfl rfl (by decide) rfl rfl (Nat.le_of_ble_eq_true rfl) dX7_isOrder_49 ⟨Nat.zero_le _, Nat.zero_le _⟩ rfl rfl (fun H locs hP hD hS => ?_)
    refine lv_if_eq (tgt := 91) hx hb dX7_isOrder_52 (by decide) (fun c_15 => ?_) (fun c_15 => ?_)
    · have h := x_p c_15 h
      refine lv_iconst (v := (0 : Int32)) hx hb dX7_isOrder_91 (by decide) ?_
      cases h
      exact r_z X hP hD hS rfl (Or.inl rfl) dX7_isOrder_92
    · have h := x_n c_15 h
      refine tr_X7_isOrder_55 X    fu  res   y40_0 y40_1 y40_2 h _ _ _ hP hD hS (lv_sub hl [0, 1, 2] rfl)
set_option maxHeartbeats 4000000 in
set_option maxRecDepth 100000 in
theorem tr_X7_isOrder_24 {p : Program} {l : Launch} {e : Env} {s : State} {m : MethodId} {args : Array Value} {below : List Frame} {meth : Method} {c : Code} {D : va_G} {cI : ClassId} {pt : Nat} {A : Nat → Prop} (X : CX p s m args meth c D cI pt A cX7_isOrder 3 (some .boolean) wsX7_isOrder RX7)     (fu : Nat)  (res : Int32)  :
    ∀ (y24_0 : Int32) (y24_1 : Int32) (y24_2 : Int32), fr_X7_isOrder_24 fu    y24_0 y24_1 y24_2 = some res → ∀ (H : Heap) (locs : List Loc) (ls : Array Slot), va_P D vwCl [] H → va_D A [] → va_S A s.heap H locs → lv_has ls 3 [(0, .int y24_0), (1, .int y24_1), (2, .int y24_2)] → W p l e ({ frames := 2, cells := 0, slots := 0, locals := 42 } : Room) s m args below meth c H locs 0 0 (MQ below (Qg D A (some (.int res)) []) args s 0 0 A) (F0 m 24 ls []) := by
  obtain ⟨hx, hb, hml, hown, hts, hr, hlk, hE, hH, hA⟩ := id X
  intro y24_0 y24_1 y24_2 h H locs ls hP hD hS hl
  unfold fr_X7_isOrder_24 at h
  refine lv_iload_n hx hb dX7_isOrder_24 rfl (lv_at hl 0 rfl) ?_
  obtain ⟨t_5, hc, h⟩ := x_b h
  refine c_S (na := 1) (rest := []) (st1 := [.int t_5]) (Wr := []) (Wn := []) X hP hD hS hl.1 (m_X7_takesOther l D cI pt   y24_0 fu _ hc) gX7_isOrder_X7_takesOther rfl ⟨rfl, rfl⟩ rfl (by decide +kernel) ⟨Nat.le_of_ble_eq_true rfl, Nat.le_of_ble_eq_true rfl⟩ [] [] [] rfl rfl rfl rfl (by decide) rfl rfl (Nat.le_of_ble_eq_true rfl) dX7_isOrder_25 ⟨Nat.zero_le _, Nat.zero_le _⟩ rfl rfl (fun H locs hP hD hS => ?_)
  refine lv_if_eq (tgt := 40) hx hb dX7_isOrder_28 (by decide) (fun c_6 => ?_) (fun c_6 => ?_)
  · have h := x_p c_6 h
    refine tr_X7_isOrder_40 X    fu  res   y24_0 y24_1 y24_2 h _ _ _ hP hD hS (lv_sub hl [0, 1, 2] rfl)
  · have h := x_n c_6 h
    refine lv_iload_n hx hb dX7_isOrder_31 rfl (lv_at hl 2 rfl) ?_
    obtain ⟨t_16, hc, h⟩ := x_b h
    refine c_S (na := 1) (rest := []) (st1 := [.int t_16]) (Wr := []) (Wn := []) X hP hD hS hl.1 (m_X7_isCell l D cI pt   y24_2 fu _ hc) gX7_isOrder_X7_isCell rfl ⟨rfl, rfl⟩ rfl (by decide +kernel) ⟨Nat.le_of_ble_eq_true rfl, Nat.le_of_ble_eq_true rfl⟩ [] [] [] rfl rfl rfl rfl (by decide) rfl rfl (Nat.le_of_ble_eq_true rfl) dX7_isOrder_32 ⟨Nat.zero_le _, Nat.zero_le _⟩ rfl rfl (fun H locs hP hD hS => ?_)
    refine lv_if_ne (tgt := 40) hx hb dX7_isOrder_35 (by decide) (fun c_17 => ?_) (fun c_17 => ?_)
    · have h := x_n c_17 h
      refine tr_X7_isOrder_40 X    fu  res   y24_0 y24_1 y24_2 h _ _ _ hP hD hS (lv_sub hl [0, 1, 2] rfl)
    · have h := x_p c_17 h
      refine lv_iconst (v := (0 : Int32)) hx hb dX7_isOrder_38 (by decide) ?_
      cases h
      exact r_z X hP hD hS rfl (Or.inl rfl) dX7_isOrder_39
set_option maxHeartbeats 4000000 in
set_option maxRecDepth 100000 in
theorem m_X7_isOrder (l : Launch) (D : va_G) (cI : ClassId) (pt : Nat)   (a0 : Int32) (a1 : Int32) (a2 : Int32) (fu : Nat) (res : Int32) (h : f_X7_isOrder fu  a0 a1 a2 = some res) :
    MT l D cI pt yX7_isOrder wsX7_isOrder ({ frames := 2, cells := 0, slots := 0, locals := 42 } : Room) [.int a0, .int a1, .int a2] [] (some (.int res)) [] := by
  refine MT.mk (cc := cX7_isOrder) (maxL := 3) (ret := (some .boolean)) (own := RX7) (by decide) rfl rfl (Nat.le_of_ble_eq_true rfl) rfl ?_
  intro p e s m args below meth c A ls X hP hD hS hl
  obtain ⟨hx, hb, hml, hown, hts, hr, hlk, hE, hH, hA⟩ := id X
  have hl : lv_has ls 3 [(0, .int a0), (1, .int a1), (2, .int a2)] := hl
  unfold f_X7_isOrder at h
  refine lv_iload_n hx hb dX7_isOrder_0 rfl (lv_at hl 0 rfl) ?_
  refine lv_iconst (v := (0 : Int32)) hx hb dX7_isOrder_1 (by decide) ?_
  refine lv_bipush (v := (11 : Int32)) hx hb dX7_isOrder_2 (by decide) ?_
  obtain ⟨t_1, hc, h⟩ := x_b h
  refine c_S (na := 3) (rest := []) (st1 := [.int t_1]) (Wr := []) (Wn := []) X hP hD hS hl.1 (m_X7_in l D cI pt   a0 (0 : Int32) (11 : Int32) fu _ hc) gX7_isOrder_X7_in rfl ⟨rfl, rfl⟩ rfl (by decide +kernel) ⟨Nat.le_of_ble_eq_true rfl, Nat.le_of_ble_eq_true rfl⟩ [] [] [] rfl rfl rfl rfl (by decide) rfl rfl (Nat.le_of_ble_eq_true rfl) dX7_isOrder_4 ⟨Nat.zero_le _, Nat.zero_le _⟩ rfl rfl (fun H locs hP hD hS => ?_)
  refine lv_if_eq (tgt := 38) hx hb dX7_isOrder_7 (by decide) (fun c_2 => ?_) (fun c_2 => ?_)
  · have h := x_p c_2 h
    refine lv_iconst (v := (0 : Int32)) hx hb dX7_isOrder_38 (by decide) ?_
    cases h
    exact r_z X hP hD hS rfl (Or.inl rfl) dX7_isOrder_39
  · have h := x_n c_2 h
    refine lv_iload_n hx hb dX7_isOrder_10 rfl (lv_at hl 0 rfl) ?_
    obtain ⟨t_3, hc, h⟩ := x_b h
    refine c_S (na := 1) (rest := []) (st1 := [.int t_3]) (Wr := []) (Wn := []) X hP hD hS hl.1 (m_X7_takesCell l D cI pt   a0 fu _ hc) gX7_isOrder_X7_takesCell rfl ⟨rfl, rfl⟩ rfl (by decide +kernel) ⟨Nat.le_of_ble_eq_true rfl, Nat.le_of_ble_eq_true rfl⟩ [] [] [] rfl rfl rfl rfl (by decide) rfl rfl (Nat.le_of_ble_eq_true rfl) dX7_isOrder_11 ⟨Nat.zero_le _, Nat.zero_le _⟩ rfl rfl (fun H locs hP hD hS => ?_)
    refine lv_if_eq (tgt := 24) hx hb dX7_isOrder_14 (by decide) (fun c_4 => ?_) (fun c_4 => ?_)
    · have h := x_p c_4 h
      refine tr_X7_isOrder_24 X    fu  res   a0 a1 a2 h _ _ _ hP hD hS (lv_sub hl [0, 1, 2] rfl)
    · have h := x_n c_4 h
      refine lv_iload_n hx hb dX7_isOrder_17 rfl (lv_at hl 1 rfl) ?_
      obtain ⟨t_18, hc, h⟩ := x_b h
      refine c_S (na := 1) (rest := []) (st1 := [.int t_18]) (Wr := []) (Wn := []) X hP hD hS hl.1 (m_X7_isCell l D cI pt   a1 fu _ hc) gX7_isOrder_X7_isCell rfl ⟨rfl, rfl⟩ rfl (by decide +kernel) ⟨Nat.le_of_ble_eq_true rfl, Nat.le_of_ble_eq_true rfl⟩ [] [] [] rfl rfl rfl rfl (by decide) rfl rfl (Nat.le_of_ble_eq_true rfl) dX7_isOrder_18 ⟨Nat.zero_le _, Nat.zero_le _⟩ rfl rfl (fun H locs hP hD hS => ?_)
      refine lv_if_eq (tgt := 38) hx hb dX7_isOrder_21 (by decide) (fun c_19 => ?_) (fun c_19 => ?_)
      · have h := x_p c_19 h
        refine lv_iconst (v := (0 : Int32)) hx hb dX7_isOrder_38 (by decide) ?_
        cases h
        exact r_z X hP hD hS rfl (Or.inl rfl) dX7_isOrder_39
      · have h := x_n c_19 h
        refine tr_X7_isOrder_24 X    fu  res   a0 a1 a2 h _ _ _ hP hD hS (lv_sub hl [0, 1, 2] rfl)

theorem q_X7_set_0 : (.fieldLink RX7 7 "StruckBitsModel" "ops" "[I" : Cond) ∈ wsX7_set := by decide +kernel
theorem i_X7_set_X7 : ∀ w ∈ u_ws RX7 TX7 30, w ∈ wsX7_set := by decide +kernel
theorem q_X7_set_2 : (.fieldLink RX7 13 "StruckBitsModel" "as" "[I" : Cond) ∈ wsX7_set := by decide +kernel
theorem q_X7_set_3 : (.fieldLink RX7 16 "StruckBitsModel" "bs" "[I" : Cond) ∈ wsX7_set := by decide +kernel
set_option maxHeartbeats 4000000 in
set_option maxRecDepth 100000 in
theorem m_X7_set (l : Launch) (D : va_G) (cI : ClassId) (pt : Nat) (h_z h_zo h_za h_zb h_zc h_zk h_ze h_zn h_zt h_zp h_zh h_zs : Nat) (v_z_orders : Int32) (v_z_hasBest : Int32) (v_z_asked : Int32) (v_z_tick : Int32) (v_z_end : Int32) (v_z_tellMany : Int32) (v_z_flipCell : Int32) (v_z_flipWide : Int32) (v_z_sortOf : Int32) (v_z_isStruck : Int32) (v_z_wasRead : Int32) (v_z_isCaught : Int32) (v_z_lookCell : Int32) (v_z_lookFrom : Int32) (v_z_firstUse : Int32) (v_z_plainEnd : Int32) (v_z_plainTicks : Int32) (v_z_plainMany : Int32) (v_z_h : Int64) (v_zo : Nat → Int32) (v_za : Nat → Int32) (v_zb : Nat → Int32) (a0 : Int32) (a1 : Int32) (a2 : Int32) (a3 : Int32) (fu : Nat) (res : (Nat → Int32) × (Nat → Int32) × (Nat → Int32)) (h : f_X7_set fu v_zo v_za v_zb a0 a1 a2 a3 = some res) :
    MT l D cI pt yX7_set wsX7_set ({ frames := 2, cells := 0, slots := 0, locals := 42 } : Room) [.ref h_z, .int a0, .int a1, .int a2, .int a3] [(h_z, .inr (6, [.int v_z_orders, .ref h_zo, .ref h_za, .ref h_zb, .ref h_zc, .ref h_zk, .int v_z_hasBest, .ref h_ze, .int v_z_asked, .ref h_zn, .int v_z_tick, .int v_z_end, .int v_z_tellMany, .ref h_zt, .int v_z_flipCell, .int v_z_flipWide, .int v_z_sortOf, .int v_z_isStruck, .int v_z_wasRead, .int v_z_isCaught, .int v_z_lookCell, .int v_z_lookFrom, .int v_z_firstUse, .int v_z_plainEnd, .int v_z_plainTicks, .int v_z_plainMany, .ref h_zp, .ref h_zh, .ref h_zs, .long v_z_h])), (h_zo, .inl (cI, 20, .inl v_zo)), (h_za, .inl (cI, 20, .inl v_za)), (h_zb, .inl (cI, 20, .inl v_zb))] none [(h_z, .inr (6, [.int v_z_orders, .ref h_zo, .ref h_za, .ref h_zb, .ref h_zc, .ref h_zk, .int v_z_hasBest, .ref h_ze, .int v_z_asked, .ref h_zn, .int v_z_tick, .int v_z_end, .int v_z_tellMany, .ref h_zt, .int v_z_flipCell, .int v_z_flipWide, .int v_z_sortOf, .int v_z_isStruck, .int v_z_wasRead, .int v_z_isCaught, .int v_z_lookCell, .int v_z_lookFrom, .int v_z_firstUse, .int v_z_plainEnd, .int v_z_plainTicks, .int v_z_plainMany, .ref h_zp, .ref h_zh, .ref h_zs, .long v_z_h])), (h_zo, .inl (cI, 20, .inl res.1)), (h_za, .inl (cI, 20, .inl res.2.1)), (h_zb, .inl (cI, 20, .inl res.2.2))] := by
  refine MT.mk (cc := cX7_set) (maxL := 5) (ret := none) (own := RX7) (by decide) rfl rfl (Nat.le_of_ble_eq_true rfl) rfl ?_
  intro p e s m args below meth c A ls X hP hD hS hl
  obtain ⟨hx, hb, hml, hown, hts, hr, hlk, hE, hH, hA⟩ := id X
  have hl : lv_has ls 5 [(0, .ref h_z), (1, .int a0), (2, .int a1), (3, .int a2), (4, .int a3)] := hl
  unfold f_X7_set at h
  refine lv_aload_n hx hb dX7_set_0 rfl (lv_at hl 0 rfl) ?_
  refine va_get (D := D) (ci := 6) (v := .ref h_zo) (C := RX7) (T := TX7) (N := 30) hx hb hts i_X7_set_X7 hown hE.1 hP 0 rfl rfl 1 (by decide) (hts _ q_X7_set_0) (fun _ h9 => h9) rfl dX7_set_1 ?_
  refine lv_iload_n hx hb dX7_set_4 rfl (lv_at hl 1 rfl) ?_
  refine lv_iload_n hx hb dX7_set_5 rfl (lv_at hl 2 rfl) ?_
  obtain ⟨g_1, h⟩ := x_gd h
  refine va_iast hx hb hE.1 hP hD hS 1 0 rfl rfl g_1 dX7_set_6 (fun H locs hP hD hS => ?_)
  have hP : va_P D vwCl [(h_z, .inr (6, [.int v_z_orders, .ref h_zo, .ref h_za, .ref h_zb, .ref h_zc, .ref h_zk, .int v_z_hasBest, .ref h_ze, .int v_z_asked, .ref h_zn, .int v_z_tick, .int v_z_end, .int v_z_tellMany, .ref h_zt, .int v_z_flipCell, .int v_z_flipWide, .int v_z_sortOf, .int v_z_isStruck, .int v_z_wasRead, .int v_z_isCaught, .int v_z_lookCell, .int v_z_lookFrom, .int v_z_firstUse, .int v_z_plainEnd, .int v_z_plainTicks, .int v_z_plainMany, .ref h_zp, .ref h_zh, .ref h_zs, .long v_z_h])), (h_zo, .inl (cI, 20, .inl (upd v_zo a0.toNatClampNeg a1))), (h_za, .inl (cI, 20, .inl v_za)), (h_zb, .inl (cI, 20, .inl v_zb))] H := hP
  have hD : va_D A [(h_z, .inr (6, [.int v_z_orders, .ref h_zo, .ref h_za, .ref h_zb, .ref h_zc, .ref h_zk, .int v_z_hasBest, .ref h_ze, .int v_z_asked, .ref h_zn, .int v_z_tick, .int v_z_end, .int v_z_tellMany, .ref h_zt, .int v_z_flipCell, .int v_z_flipWide, .int v_z_sortOf, .int v_z_isStruck, .int v_z_wasRead, .int v_z_isCaught, .int v_z_lookCell, .int v_z_lookFrom, .int v_z_firstUse, .int v_z_plainEnd, .int v_z_plainTicks, .int v_z_plainMany, .ref h_zp, .ref h_zh, .ref h_zs, .long v_z_h])), (h_zo, .inl (cI, 20, .inl (upd v_zo a0.toNatClampNeg a1))), (h_za, .inl (cI, 20, .inl v_za)), (h_zb, .inl (cI, 20, .inl v_zb))] := hD
  refine lv_aload_n hx hb dX7_set_7 rfl (lv_at hl 0 rfl) ?_
  refine va_get (D := D) (ci := 6) (v := .ref h_za) (C := RX7) (T := TX7) (N := 30) hx hb hts i_X7_set_X7 hown hE.1 hP 0 rfl rfl 2 (by decide) (hts _ q_X7_set_2) (fun _ h9 => h9) rfl dX7_set_8 ?_
  refine lv_iload_n hx hb dX7_set_11 rfl (lv_at hl 1 rfl) ?_
  refine lv_iload_n hx hb dX7_set_12 rfl (lv_at hl 2 rfl) ?_
  refine lv_bipush (v := (11 : Int32)) hx hb dX7_set_13 (by decide) ?_
  refine lv_icmp_ne (tgt := 22) hx hb dX7_set_15 (by decide) (fun c_2 => ?_) (fun c_2 => ?_)
  · have h := x_n c_2 h
    refine lv_iload_n hx hb dX7_set_22 rfl (lv_at hl 3 rfl) ?_
    obtain ⟨g_3, h⟩ := x_gd h
    refine va_iast hx hb hE.1 hP hD hS 2 0 rfl rfl g_3 dX7_set_23 (fun H locs hP hD hS => ?_)
    have hP : va_P D vwCl [(h_z, .inr (6, [.int v_z_orders, .ref h_zo, .ref h_za, .ref h_zb, .ref h_zc, .ref h_zk, .int v_z_hasBest, .ref h_ze, .int v_z_asked, .ref h_zn, .int v_z_tick, .int v_z_end, .int v_z_tellMany, .ref h_zt, .int v_z_flipCell, .int v_z_flipWide, .int v_z_sortOf, .int v_z_isStruck, .int v_z_wasRead, .int v_z_isCaught, .int v_z_lookCell, .int v_z_lookFrom, .int v_z_firstUse, .int v_z_plainEnd, .int v_z_plainTicks, .int v_z_plainMany, .ref h_zp, .ref h_zh, .ref h_zs, .long v_z_h])), (h_zo, .inl (cI, 20, .inl (upd v_zo a0.toNatClampNeg a1))), (h_za, .inl (cI, 20, .inl (upd v_za a0.toNatClampNeg a2))), (h_zb, .inl (cI, 20, .inl v_zb))] H := hP
    have hD : va_D A [(h_z, .inr (6, [.int v_z_orders, .ref h_zo, .ref h_za, .ref h_zb, .ref h_zc, .ref h_zk, .int v_z_hasBest, .ref h_ze, .int v_z_asked, .ref h_zn, .int v_z_tick, .int v_z_end, .int v_z_tellMany, .ref h_zt, .int v_z_flipCell, .int v_z_flipWide, .int v_z_sortOf, .int v_z_isStruck, .int v_z_wasRead, .int v_z_isCaught, .int v_z_lookCell, .int v_z_lookFrom, .int v_z_firstUse, .int v_z_plainEnd, .int v_z_plainTicks, .int v_z_plainMany, .ref h_zp, .ref h_zh, .ref h_zs, .long v_z_h])), (h_zo, .inl (cI, 20, .inl (upd v_zo a0.toNatClampNeg a1))), (h_za, .inl (cI, 20, .inl (upd v_za a0.toNatClampNeg a2))), (h_zb, .inl (cI, 20, .inl v_zb))] := hD
    refine lv_aload_n hx hb dX7_set_24 rfl (lv_at hl 0 rfl) ?_
    refine va_get (D := D) (ci := 6) (v := .ref h_zb) (C := RX7) (T := TX7) (N := 30) hx hb hts i_X7_set_X7 hown hE.1 hP 0 rfl rfl 3 (by decide) (hts _ q_X7_set_3) (fun _ h9 => h9) rfl dX7_set_25 ?_
    refine lv_iload_n hx hb dX7_set_28 rfl (lv_at hl 1 rfl) ?_
    refine lv_iload_n hx hb dX7_set_29 rfl (lv_at hl 2 rfl) ?_
    refine lv_if_eq (tgt := 46) hx hb dX7_set_30 (by decide) (fun c_4 => ?_) (fun c_4 => ?_)
    · have h := x_p c_4 h
      refine lv_iload hx hb dX7_set_46 (lv_at hl 4 rfl) ?_
      refine lv_goto (tgt := 52) hx hb dX7_set_48 (by decide) ?_
      obtain ⟨g_5, h⟩ := x_gd h
      refine va_iast hx hb hE.1 hP hD hS 3 0 rfl rfl g_5 dX7_set_52 (fun H locs hP hD hS => ?_)
      have hP : va_P D vwCl [(h_z, .inr (6, [.int v_z_orders, .ref h_zo, .ref h_za, .ref h_zb, .ref h_zc, .ref h_zk, .int v_z_hasBest, .ref h_ze, .int v_z_asked, .ref h_zn, .int v_z_tick, .int v_z_end, .int v_z_tellMany, .ref h_zt, .int v_z_flipCell, .int v_z_flipWide, .int v_z_sortOf, .int v_z_isStruck, .int v_z_wasRead, .int v_z_isCaught, .int v_z_lookCell, .int v_z_lookFrom, .int v_z_firstUse, .int v_z_plainEnd, .int v_z_plainTicks, .int v_z_plainMany, .ref h_zp, .ref h_zh, .ref h_zs, .long v_z_h])), (h_zo, .inl (cI, 20, .inl (upd v_zo a0.toNatClampNeg a1))), (h_za, .inl (cI, 20, .inl (upd v_za a0.toNatClampNeg a2))), (h_zb, .inl (cI, 20, .inl (upd v_zb a0.toNatClampNeg a3)))] H := hP
      have hD : va_D A [(h_z, .inr (6, [.int v_z_orders, .ref h_zo, .ref h_za, .ref h_zb, .ref h_zc, .ref h_zk, .int v_z_hasBest, .ref h_ze, .int v_z_asked, .ref h_zn, .int v_z_tick, .int v_z_end, .int v_z_tellMany, .ref h_zt, .int v_z_flipCell, .int v_z_flipWide, .int v_z_sortOf, .int v_z_isStruck, .int v_z_wasRead, .int v_z_isCaught, .int v_z_lookCell, .int v_z_lookFrom, .int v_z_firstUse, .int v_z_plainEnd, .int v_z_plainTicks, .int v_z_plainMany, .ref h_zp, .ref h_zh, .ref h_zs, .long v_z_h])), (h_zo, .inl (cI, 20, .inl (upd v_zo a0.toNatClampNeg a1))), (h_za, .inl (cI, 20, .inl (upd v_za a0.toNatClampNeg a2))), (h_zb, .inl (cI, 20, .inl (upd v_zb a0.toNatClampNeg a3)))] := hD
      cases h
      exact r_v X hP hD hS rfl dX7_set_53
    · have h := x_n c_4 h
      refine lv_iload_n hx hb dX7_set_33 rfl (lv_at hl 2 rfl) ?_
      refine lv_bipush (v := (7 : Int32)) hx hb dX7_set_34 (by decide) ?_
      refine lv_icmp_eq (tgt := 46) hx hb dX7_set_36 (by decide) (fun c_6 => ?_) (fun c_6 => ?_)
      · have h := x_p c_6 h
        refine lv_iload hx hb dX7_set_46 (lv_at hl 4 rfl) ?_
        refine lv_goto (tgt := 52) hx hb dX7_set_48 (by decide) ?_
        obtain ⟨g_7, h⟩ := x_gd h
        refine va_iast hx hb hE.1 hP hD hS 3 0 rfl rfl g_7 dX7_set_52 (fun H locs hP hD hS => ?_)
        have hP : va_P D vwCl [(h_z, .inr (6, [.int v_z_orders, .ref h_zo, .ref h_za, .ref h_zb, .ref h_zc, .ref h_zk, .int v_z_hasBest, .ref h_ze, .int v_z_asked, .ref h_zn, .int v_z_tick, .int v_z_end, .int v_z_tellMany, .ref h_zt, .int v_z_flipCell, .int v_z_flipWide, .int v_z_sortOf, .int v_z_isStruck, .int v_z_wasRead, .int v_z_isCaught, .int v_z_lookCell, .int v_z_lookFrom, .int v_z_firstUse, .int v_z_plainEnd, .int v_z_plainTicks, .int v_z_plainMany, .ref h_zp, .ref h_zh, .ref h_zs, .long v_z_h])), (h_zo, .inl (cI, 20, .inl (upd v_zo a0.toNatClampNeg a1))), (h_za, .inl (cI, 20, .inl (upd v_za a0.toNatClampNeg a2))), (h_zb, .inl (cI, 20, .inl (upd v_zb a0.toNatClampNeg a3)))] H := hP
        have hD : va_D A [(h_z, .inr (6, [.int v_z_orders, .ref h_zo, .ref h_za, .ref h_zb, .ref h_zc, .ref h_zk, .int v_z_hasBest, .ref h_ze, .int v_z_asked, .ref h_zn, .int v_z_tick, .int v_z_end, .int v_z_tellMany, .ref h_zt, .int v_z_flipCell, .int v_z_flipWide, .int v_z_sortOf, .int v_z_isStruck, .int v_z_wasRead, .int v_z_isCaught, .int v_z_lookCell, .int v_z_lookFrom, .int v_z_firstUse, .int v_z_plainEnd, .int v_z_plainTicks, .int v_z_plainMany, .ref h_zp, .ref h_zh, .ref h_zs, .long v_z_h])), (h_zo, .inl (cI, 20, .inl (upd v_zo a0.toNatClampNeg a1))), (h_za, .inl (cI, 20, .inl (upd v_za a0.toNatClampNeg a2))), (h_zb, .inl (cI, 20, .inl (upd v_zb a0.toNatClampNeg a3)))] := hD
        cases h
        exact r_v X hP hD hS rfl dX7_set_53
      · have h := x_n c_6 h
        refine lv_iload_n hx hb dX7_set_39 rfl (lv_at hl 2 rfl) ?_
        obtain ⟨t_8, hc, h⟩ := x_b h
        refine c_S (na := 1) (rest := [.int a0, .ref h_zb]) (st1 := [.int t_8, .int a0, .ref h_zb]) (Wr := [(h_z, .inr (6, [.int v_z_orders, .ref h_zo, .ref h_za, .ref h_zb, .ref h_zc, .ref h_zk, .int v_z_hasBest, .ref h_ze, .int v_z_asked, .ref h_zn, .int v_z_tick, .int v_z_end, .int v_z_tellMany, .ref h_zt, .int v_z_flipCell, .int v_z_flipWide, .int v_z_sortOf, .int v_z_isStruck, .int v_z_wasRead, .int v_z_isCaught, .int v_z_lookCell, .int v_z_lookFrom, .int v_z_firstUse, .int v_z_plainEnd, .int v_z_plainTicks, .int v_z_plainMany, .ref h_zp, .ref h_zh, .ref h_zs, .long v_z_h])), (h_zo, .inl (cI, 20, .inl (upd v_zo a0.toNatClampNeg a1))), (h_za, .inl (cI, 20, .inl (upd v_za a0.toNatClampNeg a2))), (h_zb, .inl (cI, 20, .inl v_zb))]) (Wn := [(h_z, .inr (6, [.int v_z_orders, .ref h_zo, .ref h_za, .ref h_zb, .ref h_zc, .ref h_zk, .int v_z_hasBest, .ref h_ze, .int v_z_asked, .ref h_zn, .int v_z_tick, .int v_z_end, .int v_z_tellMany, .ref h_zt, .int v_z_flipCell, .int v_z_flipWide, .int v_z_sortOf, .int v_z_isStruck, .int v_z_wasRead, .int v_z_isCaught, .int v_z_lookCell, .int v_z_lookFrom, .int v_z_firstUse, .int v_z_plainEnd, .int v_z_plainTicks, .int v_z_plainMany, .ref h_zp, .ref h_zh, .ref h_zs, .long v_z_h])), (h_zo, .inl (cI, 20, .inl (upd v_zo a0.toNatClampNeg a1))), (h_za, .inl (cI, 20, .inl (upd v_za a0.toNatClampNeg a2))), (h_zb, .inl (cI, 20, .inl v_zb))]) X hP hD hS hl.1 (m_X7_takesOther l D cI pt   a1 fu _ hc) gX7_set_X7_takesOther rfl ⟨rfl, rfl⟩ rfl (by decide +kernel) ⟨Nat.le_of_ble_eq_true rfl, Nat.le_of_ble_eq_true rfl⟩ [] [0, 1, 2, 3] [0, 1, 2, 3] rfl rfl rfl rfl (by decide) rfl rfl (Nat.le_of_ble_eq_true rfl) dX7_set_40 ⟨Nat.zero_le _, Nat.zero_le _⟩ rfl rfl (fun H locs hP hD hS => ?_)
        refine lv_if_eq (tgt := 51) hx hb dX7_set_43 (by decide) (fun c_9 => ?_) (fun c_9 => ?_)
        · have h := x_p c_9 h
          refine lv_iconst (v := (0 : Int32)) hx hb dX7_set_51 (by decide) ?_
          obtain ⟨g_10, h⟩ := x_gd h
          refine va_iast hx hb hE.1 hP hD hS 3 0 rfl rfl g_10 dX7_set_52 (fun H locs hP hD hS => ?_)
          have hP : va_P D vwCl [(h_z, .inr (6, [.int v_z_orders, .ref h_zo, .ref h_za, .ref h_zb, .ref h_zc, .ref h_zk, .int v_z_hasBest, .ref h_ze, .int v_z_asked, .ref h_zn, .int v_z_tick, .int v_z_end, .int v_z_tellMany, .ref h_zt, .int v_z_flipCell, .int v_z_flipWide, .int v_z_sortOf, .int v_z_isStruck, .int v_z_wasRead, .int v_z_isCaught, .int v_z_lookCell, .int v_z_lookFrom, .int v_z_firstUse, .int v_z_plainEnd, .int v_z_plainTicks, .int v_z_plainMany, .ref h_zp, .ref h_zh, .ref h_zs, .long v_z_h])), (h_zo, .inl (cI, 20, .inl (upd v_zo a0.toNatClampNeg a1))), (h_za, .inl (cI, 20, .inl (upd v_za a0.toNatClampNeg a2))), (h_zb, .inl (cI, 20, .inl (upd v_zb a0.toNatClampNeg (0 : Int32))))] H := hP
          have hD : va_D A [(h_z, .inr (6, [.int v_z_orders, .ref h_zo, .ref h_za, .ref h_zb, .ref h_zc, .ref h_zk, .int v_z_hasBest, .ref h_ze, .int v_z_asked, .ref h_zn, .int v_z_tick, .int v_z_end, .int v_z_tellMany, .ref h_zt, .int v_z_flipCell, .int v_z_flipWide, .int v_z_sortOf, .int v_z_isStruck, .int v_z_wasRead, .int v_z_isCaught, .int v_z_lookCell, .int v_z_lookFrom, .int v_z_firstUse, .int v_z_plainEnd, .int v_z_plainTicks, .int v_z_plainMany, .ref h_zp, .ref h_zh, .ref h_zs, .long v_z_h])), (h_zo, .inl (cI, 20, .inl (upd v_zo a0.toNatClampNeg a1))), (h_za, .inl (cI, 20, .inl (upd v_za a0.toNatClampNeg a2))), (h_zb, .inl (cI, 20, .inl (upd v_zb a0.toNatClampNeg (0 : Int32))))] := hD
          cases h
          exact r_v X hP hD hS rfl dX7_set_53
        · have h := x_n c_9 h
          refine lv_iload hx hb dX7_set_46 (lv_at hl 4 rfl) ?_
          refine lv_goto (tgt := 52) hx hb dX7_set_48 (by decide) ?_
          obtain ⟨g_11, h⟩ := x_gd h
          refine va_iast hx hb hE.1 hP hD hS 3 0 rfl rfl g_11 dX7_set_52 (fun H locs hP hD hS => ?_)
          have hP : va_P D vwCl [(h_z, .inr (6, [.int v_z_orders, .ref h_zo, .ref h_za, .ref h_zb, .ref h_zc, .ref h_zk, .int v_z_hasBest, .ref h_ze, .int v_z_asked, .ref h_zn, .int v_z_tick, .int v_z_end, .int v_z_tellMany, .ref h_zt, .int v_z_flipCell, .int v_z_flipWide, .int v_z_sortOf, .int v_z_isStruck, .int v_z_wasRead, .int v_z_isCaught, .int v_z_lookCell, .int v_z_lookFrom, .int v_z_firstUse, .int v_z_plainEnd, .int v_z_plainTicks, .int v_z_plainMany, .ref h_zp, .ref h_zh, .ref h_zs, .long v_z_h])), (h_zo, .inl (cI, 20, .inl (upd v_zo a0.toNatClampNeg a1))), (h_za, .inl (cI, 20, .inl (upd v_za a0.toNatClampNeg a2))), (h_zb, .inl (cI, 20, .inl (upd v_zb a0.toNatClampNeg a3)))] H := hP
          have hD : va_D A [(h_z, .inr (6, [.int v_z_orders, .ref h_zo, .ref h_za, .ref h_zb, .ref h_zc, .ref h_zk, .int v_z_hasBest, .ref h_ze, .int v_z_asked, .ref h_zn, .int v_z_tick, .int v_z_end, .int v_z_tellMany, .ref h_zt, .int v_z_flipCell, .int v_z_flipWide, .int v_z_sortOf, .int v_z_isStruck, .int v_z_wasRead, .int v_z_isCaught, .int v_z_lookCell, .int v_z_lookFrom, .int v_z_firstUse, .int v_z_plainEnd, .int v_z_plainTicks, .int v_z_plainMany, .ref h_zp, .ref h_zh, .ref h_zs, .long v_z_h])), (h_zo, .inl (cI, 20, .inl (upd v_zo a0.toNatClampNeg a1))), (h_za, .inl (cI, 20, .inl (upd v_za a0.toNatClampNeg a2))), (h_zb, .inl (cI, 20, .inl (upd v_zb a0.toNatClampNeg a3)))] := hD
          cases h
          exact r_v X hP hD hS rfl dX7_set_53
  · have h := x_p c_2 h
    refine lv_iconst (v := (0 : Int32)) hx hb dX7_set_18 (by decide) ?_
    refine lv_goto (tgt := 23) hx hb dX7_set_19 (by decide) ?_
    obtain ⟨g_12, h⟩ := x_gd h
    refine va_iast hx hb hE.1 hP hD hS 2 0 rfl rfl g_12 dX7_set_23 (fun H locs hP hD hS => ?_)
    have hP : va_P D vwCl [(h_z, .inr (6, [.int v_z_orders, .ref h_zo, .ref h_za, .ref h_zb, .ref h_zc, .ref h_zk, .int v_z_hasBest, .ref h_ze, .int v_z_asked, .ref h_zn, .int v_z_tick, .int v_z_end, .int v_z_tellMany, .ref h_zt, .int v_z_flipCell, .int v_z_flipWide, .int v_z_sortOf, .int v_z_isStruck, .int v_z_wasRead, .int v_z_isCaught, .int v_z_lookCell, .int v_z_lookFrom, .int v_z_firstUse, .int v_z_plainEnd, .int v_z_plainTicks, .int v_z_plainMany, .ref h_zp, .ref h_zh, .ref h_zs, .long v_z_h])), (h_zo, .inl (cI, 20, .inl (upd v_zo a0.toNatClampNeg a1))), (h_za, .inl (cI, 20, .inl (upd v_za a0.toNatClampNeg (0 : Int32)))), (h_zb, .inl (cI, 20, .inl v_zb))] H := hP
    have hD : va_D A [(h_z, .inr (6, [.int v_z_orders, .ref h_zo, .ref h_za, .ref h_zb, .ref h_zc, .ref h_zk, .int v_z_hasBest, .ref h_ze, .int v_z_asked, .ref h_zn, .int v_z_tick, .int v_z_end, .int v_z_tellMany, .ref h_zt, .int v_z_flipCell, .int v_z_flipWide, .int v_z_sortOf, .int v_z_isStruck, .int v_z_wasRead, .int v_z_isCaught, .int v_z_lookCell, .int v_z_lookFrom, .int v_z_firstUse, .int v_z_plainEnd, .int v_z_plainTicks, .int v_z_plainMany, .ref h_zp, .ref h_zh, .ref h_zs, .long v_z_h])), (h_zo, .inl (cI, 20, .inl (upd v_zo a0.toNatClampNeg a1))), (h_za, .inl (cI, 20, .inl (upd v_za a0.toNatClampNeg (0 : Int32)))), (h_zb, .inl (cI, 20, .inl v_zb))] := hD
    refine lv_aload_n hx hb dX7_set_24 rfl (lv_at hl 0 rfl) ?_
    refine va_get (D := D) (ci := 6) (v := .ref h_zb) (C := RX7) (T := TX7) (N := 30) hx hb hts i_X7_set_X7 hown hE.1 hP 0 rfl rfl 3 (by decide) (hts _ q_X7_set_3) (fun _ h9 => h9) rfl dX7_set_25 ?_
    refine lv_iload_n hx hb dX7_set_28 rfl (lv_at hl 1 rfl) ?_
    refine lv_iload_n hx hb dX7_set_29 rfl (lv_at hl 2 rfl) ?_
    refine lv_if_eq (tgt := 46) hx hb dX7_set_30 (by decide) (fun c_13 => ?_) (fun c_13 => ?_)
    · have h := x_p c_13 h
      refine lv_iload hx hb dX7_set_46 (lv_at hl 4 rfl) ?_
      refine lv_goto (tgt := 52) hx hb dX7_set_48 (by decide) ?_
      obtain ⟨g_14, h⟩ := x_gd h
      refine va_iast hx hb hE.1 hP hD hS 3 0 rfl rfl g_14 dX7_set_52 (fun H locs hP hD hS => ?_)
      have hP : va_P D vwCl [(h_z, .inr (6, [.int v_z_orders, .ref h_zo, .ref h_za, .ref h_zb, .ref h_zc, .ref h_zk, .int v_z_hasBest, .ref h_ze, .int v_z_asked, .ref h_zn, .int v_z_tick, .int v_z_end, .int v_z_tellMany, .ref h_zt, .int v_z_flipCell, .int v_z_flipWide, .int v_z_sortOf, .int v_z_isStruck, .int v_z_wasRead, .int v_z_isCaught, .int v_z_lookCell, .int v_z_lookFrom, .int v_z_firstUse, .int v_z_plainEnd, .int v_z_plainTicks, .int v_z_plainMany, .ref h_zp, .ref h_zh, .ref h_zs, .long v_z_h])), (h_zo, .inl (cI, 20, .inl (upd v_zo a0.toNatClampNeg a1))), (h_za, .inl (cI, 20, .inl (upd v_za a0.toNatClampNeg (0 : Int32)))), (h_zb, .inl (cI, 20, .inl (upd v_zb a0.toNatClampNeg a3)))] H := hP
      have hD : va_D A [(h_z, .inr (6, [.int v_z_orders, .ref h_zo, .ref h_za, .ref h_zb, .ref h_zc, .ref h_zk, .int v_z_hasBest, .ref h_ze, .int v_z_asked, .ref h_zn, .int v_z_tick, .int v_z_end, .int v_z_tellMany, .ref h_zt, .int v_z_flipCell, .int v_z_flipWide, .int v_z_sortOf, .int v_z_isStruck, .int v_z_wasRead, .int v_z_isCaught, .int v_z_lookCell, .int v_z_lookFrom, .int v_z_firstUse, .int v_z_plainEnd, .int v_z_plainTicks, .int v_z_plainMany, .ref h_zp, .ref h_zh, .ref h_zs, .long v_z_h])), (h_zo, .inl (cI, 20, .inl (upd v_zo a0.toNatClampNeg a1))), (h_za, .inl (cI, 20, .inl (upd v_za a0.toNatClampNeg (0 : Int32)))), (h_zb, .inl (cI, 20, .inl (upd v_zb a0.toNatClampNeg a3)))] := hD
      cases h
      exact r_v X hP hD hS rfl dX7_set_53
    · have h := x_n c_13 h
      refine lv_iload_n hx hb dX7_set_33 rfl (lv_at hl 2 rfl) ?_
      refine lv_bipush (v := (7 : Int32)) hx hb dX7_set_34 (by decide) ?_
      refine lv_icmp_eq (tgt := 46) hx hb dX7_set_36 (by decide) (fun c_15 => ?_) (fun c_15 => ?_)
      · have h := x_p c_15 h
        refine lv_iload hx hb dX7_set_46 (lv_at hl 4 rfl) ?_
        refine lv_goto (tgt := 52) hx hb dX7_set_48 (by decide) ?_
        obtain ⟨g_16, h⟩ := x_gd h
        refine va_iast hx hb hE.1 hP hD hS 3 0 rfl rfl g_16 dX7_set_52 (fun H locs hP hD hS => ?_)
        have hP : va_P D vwCl [(h_z, .inr (6, [.int v_z_orders, .ref h_zo, .ref h_za, .ref h_zb, .ref h_zc, .ref h_zk, .int v_z_hasBest, .ref h_ze, .int v_z_asked, .ref h_zn, .int v_z_tick, .int v_z_end, .int v_z_tellMany, .ref h_zt, .int v_z_flipCell, .int v_z_flipWide, .int v_z_sortOf, .int v_z_isStruck, .int v_z_wasRead, .int v_z_isCaught, .int v_z_lookCell, .int v_z_lookFrom, .int v_z_firstUse, .int v_z_plainEnd, .int v_z_plainTicks, .int v_z_plainMany, .ref h_zp, .ref h_zh, .ref h_zs, .long v_z_h])), (h_zo, .inl (cI, 20, .inl (upd v_zo a0.toNatClampNeg a1))), (h_za, .inl (cI, 20, .inl (upd v_za a0.toNatClampNeg (0 : Int32)))), (h_zb, .inl (cI, 20, .inl (upd v_zb a0.toNatClampNeg a3)))] H := hP
        have hD : va_D A [(h_z, .inr (6, [.int v_z_orders, .ref h_zo, .ref h_za, .ref h_zb, .ref h_zc, .ref h_zk, .int v_z_hasBest, .ref h_ze, .int v_z_asked, .ref h_zn, .int v_z_tick, .int v_z_end, .int v_z_tellMany, .ref h_zt, .int v_z_flipCell, .int v_z_flipWide, .int v_z_sortOf, .int v_z_isStruck, .int v_z_wasRead, .int v_z_isCaught, .int v_z_lookCell, .int v_z_lookFrom, .int v_z_firstUse, .int v_z_plainEnd, .int v_z_plainTicks, .int v_z_plainMany, .ref h_zp, .ref h_zh, .ref h_zs, .long v_z_h])), (h_zo, .inl (cI, 20, .inl (upd v_zo a0.toNatClampNeg a1))), (h_za, .inl (cI, 20, .inl (upd v_za a0.toNatClampNeg (0 : Int32)))), (h_zb, .inl (cI, 20, .inl (upd v_zb a0.toNatClampNeg a3)))] := hD
        cases h
        exact r_v X hP hD hS rfl dX7_set_53
      · have h := x_n c_15 h
        refine lv_iload_n hx hb dX7_set_39 rfl (lv_at hl 2 rfl) ?_
        obtain ⟨t_17, hc, h⟩ := x_b h
        refine c_S (na := 1) (rest := [.int a0, .ref h_zb]) (st1 := [.int t_17, .int a0, .ref h_zb]) (Wr := [(h_z, .inr (6, [.int v_z_orders, .ref h_zo, .ref h_za, .ref h_zb, .ref h_zc, .ref h_zk, .int v_z_hasBest, .ref h_ze, .int v_z_asked, .ref h_zn, .int v_z_tick, .int v_z_end, .int v_z_tellMany, .ref h_zt, .int v_z_flipCell, .int v_z_flipWide, .int v_z_sortOf, .int v_z_isStruck, .int v_z_wasRead, .int v_z_isCaught, .int v_z_lookCell, .int v_z_lookFrom, .int v_z_firstUse, .int v_z_plainEnd, .int v_z_plainTicks, .int v_z_plainMany, .ref h_zp, .ref h_zh, .ref h_zs, .long v_z_h])), (h_zo, .inl (cI, 20, .inl (upd v_zo a0.toNatClampNeg a1))), (h_za, .inl (cI, 20, .inl (upd v_za a0.toNatClampNeg (0 : Int32)))), (h_zb, .inl (cI, 20, .inl v_zb))]) (Wn := [(h_z, .inr (6, [.int v_z_orders, .ref h_zo, .ref h_za, .ref h_zb, .ref h_zc, .ref h_zk, .int v_z_hasBest, .ref h_ze, .int v_z_asked, .ref h_zn, .int v_z_tick, .int v_z_end, .int v_z_tellMany, .ref h_zt, .int v_z_flipCell, .int v_z_flipWide, .int v_z_sortOf, .int v_z_isStruck, .int v_z_wasRead, .int v_z_isCaught, .int v_z_lookCell, .int v_z_lookFrom, .int v_z_firstUse, .int v_z_plainEnd, .int v_z_plainTicks, .int v_z_plainMany, .ref h_zp, .ref h_zh, .ref h_zs, .long v_z_h])), (h_zo, .inl (cI, 20, .inl (upd v_zo a0.toNatClampNeg a1))), (h_za, .inl (cI, 20, .inl (upd v_za a0.toNatClampNeg (0 : Int32)))), (h_zb, .inl (cI, 20, .inl v_zb))]) X hP hD hS hl.1 (m_X7_takesOther l D cI pt   a1 fu _ hc) gX7_set_X7_takesOther rfl ⟨rfl, rfl⟩ rfl (by decide +kernel) ⟨Nat.le_of_ble_eq_true rfl, Nat.le_of_ble_eq_true rfl⟩ [] [0, 1, 2, 3] [0, 1, 2, 3] rfl rfl rfl rfl (by decide) rfl rfl (Nat.le_of_ble_eq_true rfl) dX7_set_40 ⟨Nat.zero_le _, Nat.zero_le _⟩ rfl rfl (fun H locs hP hD hS => ?_)
        refine lv_if_eq (tgt := 51) hx hb dX7_set_43 (by decide) (fun c_18 => ?_) (fun c_18 => ?_)
        · have h := x_p c_18 h
          refine lv_iconst (v := (0 : Int32)) hx hb dX7_set_51 (by decide) ?_
          obtain ⟨g_19, h⟩ := x_gd h
          refine va_iast hx hb hE.1 hP hD hS 3 0 rfl rfl g_19 dX7_set_52 (fun H locs hP hD hS => ?_)
          have hP : va_P D vwCl [(h_z, .inr (6, [.int v_z_orders, .ref h_zo, .ref h_za, .ref h_zb, .ref h_zc, .ref h_zk, .int v_z_hasBest, .ref h_ze, .int v_z_asked, .ref h_zn, .int v_z_tick, .int v_z_end, .int v_z_tellMany, .ref h_zt, .int v_z_flipCell, .int v_z_flipWide, .int v_z_sortOf, .int v_z_isStruck, .int v_z_wasRead, .int v_z_isCaught, .int v_z_lookCell, .int v_z_lookFrom, .int v_z_firstUse, .int v_z_plainEnd, .int v_z_plainTicks, .int v_z_plainMany, .ref h_zp, .ref h_zh, .ref h_zs, .long v_z_h])), (h_zo, .inl (cI, 20, .inl (upd v_zo a0.toNatClampNeg a1))), (h_za, .inl (cI, 20, .inl (upd v_za a0.toNatClampNeg (0 : Int32)))), (h_zb, .inl (cI, 20, .inl (upd v_zb a0.toNatClampNeg (0 : Int32))))] H := hP
          have hD : va_D A [(h_z, .inr (6, [.int v_z_orders, .ref h_zo, .ref h_za, .ref h_zb, .ref h_zc, .ref h_zk, .int v_z_hasBest, .ref h_ze, .int v_z_asked, .ref h_zn, .int v_z_tick, .int v_z_end, .int v_z_tellMany, .ref h_zt, .int v_z_flipCell, .int v_z_flipWide, .int v_z_sortOf, .int v_z_isStruck, .int v_z_wasRead, .int v_z_isCaught, .int v_z_lookCell, .int v_z_lookFrom, .int v_z_firstUse, .int v_z_plainEnd, .int v_z_plainTicks, .int v_z_plainMany, .ref h_zp, .ref h_zh, .ref h_zs, .long v_z_h])), (h_zo, .inl (cI, 20, .inl (upd v_zo a0.toNatClampNeg a1))), (h_za, .inl (cI, 20, .inl (upd v_za a0.toNatClampNeg (0 : Int32)))), (h_zb, .inl (cI, 20, .inl (upd v_zb a0.toNatClampNeg (0 : Int32))))] := hD
          cases h
          exact r_v X hP hD hS rfl dX7_set_53
        · have h := x_n c_18 h
          refine lv_iload hx hb dX7_set_46 (lv_at hl 4 rfl) ?_
          refine lv_goto (tgt := 52) hx hb dX7_set_48 (by decide) ?_
          obtain ⟨g_20, h⟩ := x_gd h
          refine va_iast hx hb hE.1 hP hD hS 3 0 rfl rfl g_20 dX7_set_52 (fun H locs hP hD hS => ?_)
          have hP : va_P D vwCl [(h_z, .inr (6, [.int v_z_orders, .ref h_zo, .ref h_za, .ref h_zb, .ref h_zc, .ref h_zk, .int v_z_hasBest, .ref h_ze, .int v_z_asked, .ref h_zn, .int v_z_tick, .int v_z_end, .int v_z_tellMany, .ref h_zt, .int v_z_flipCell, .int v_z_flipWide, .int v_z_sortOf, .int v_z_isStruck, .int v_z_wasRead, .int v_z_isCaught, .int v_z_lookCell, .int v_z_lookFrom, .int v_z_firstUse, .int v_z_plainEnd, .int v_z_plainTicks, .int v_z_plainMany, .ref h_zp, .ref h_zh, .ref h_zs, .long v_z_h])), (h_zo, .inl (cI, 20, .inl (upd v_zo a0.toNatClampNeg a1))), (h_za, .inl (cI, 20, .inl (upd v_za a0.toNatClampNeg (0 : Int32)))), (h_zb, .inl (cI, 20, .inl (upd v_zb a0.toNatClampNeg a3)))] H := hP
          have hD : va_D A [(h_z, .inr (6, [.int v_z_orders, .ref h_zo, .ref h_za, .ref h_zb, .ref h_zc, .ref h_zk, .int v_z_hasBest, .ref h_ze, .int v_z_asked, .ref h_zn, .int v_z_tick, .int v_z_end, .int v_z_tellMany, .ref h_zt, .int v_z_flipCell, .int v_z_flipWide, .int v_z_sortOf, .int v_z_isStruck, .int v_z_wasRead, .int v_z_isCaught, .int v_z_lookCell, .int v_z_lookFrom, .int v_z_firstUse, .int v_z_plainEnd, .int v_z_plainTicks, .int v_z_plainMany, .ref h_zp, .ref h_zh, .ref h_zs, .long v_z_h])), (h_zo, .inl (cI, 20, .inl (upd v_zo a0.toNatClampNeg a1))), (h_za, .inl (cI, 20, .inl (upd v_za a0.toNatClampNeg (0 : Int32)))), (h_zb, .inl (cI, 20, .inl (upd v_zb a0.toNatClampNeg a3)))] := hD
          cases h
          exact r_v X hP hD hS rfl dX7_set_53

theorem q_X7_order_0 : (.fieldLink RX7 60 "StruckBitsModel" "orders" "I" : Cond) ∈ wsX7_order := by decide +kernel
theorem i_X7_order_X7 : ∀ w ∈ u_ws RX7 TX7 30, w ∈ wsX7_order := by decide +kernel
set_option maxHeartbeats 4000000 in
set_option maxRecDepth 100000 in
theorem m_X7_order (l : Launch) (D : va_G) (cI : ClassId) (pt : Nat) (h_z h_zo h_za h_zb h_zc h_zk h_ze h_zn h_zt h_zp h_zh h_zs : Nat) (v_z_orders : Int32) (v_z_hasBest : Int32) (v_z_asked : Int32) (v_z_tick : Int32) (v_z_end : Int32) (v_z_tellMany : Int32) (v_z_flipCell : Int32) (v_z_flipWide : Int32) (v_z_sortOf : Int32) (v_z_isStruck : Int32) (v_z_wasRead : Int32) (v_z_isCaught : Int32) (v_z_lookCell : Int32) (v_z_lookFrom : Int32) (v_z_firstUse : Int32) (v_z_plainEnd : Int32) (v_z_plainTicks : Int32) (v_z_plainMany : Int32) (v_z_h : Int64) (v_zo : Nat → Int32) (v_za : Nat → Int32) (v_zb : Nat → Int32) (a0 : Int32) (a1 : Int32) (a2 : Int32) (fu : Nat) (res : Int32 × Int32 × (Nat → Int32) × (Nat → Int32) × (Nat → Int32)) (h : f_X7_order fu v_z_orders v_zo v_za v_zb a0 a1 a2 = some res) :
    MT l D cI pt yX7_order wsX7_order ({ frames := 3, cells := 0, slots := 0, locals := 66 } : Room) [.ref h_z, .int a0, .int a1, .int a2] [(h_z, .inr (6, [.int v_z_orders, .ref h_zo, .ref h_za, .ref h_zb, .ref h_zc, .ref h_zk, .int v_z_hasBest, .ref h_ze, .int v_z_asked, .ref h_zn, .int v_z_tick, .int v_z_end, .int v_z_tellMany, .ref h_zt, .int v_z_flipCell, .int v_z_flipWide, .int v_z_sortOf, .int v_z_isStruck, .int v_z_wasRead, .int v_z_isCaught, .int v_z_lookCell, .int v_z_lookFrom, .int v_z_firstUse, .int v_z_plainEnd, .int v_z_plainTicks, .int v_z_plainMany, .ref h_zp, .ref h_zh, .ref h_zs, .long v_z_h])), (h_zo, .inl (cI, 20, .inl v_zo)), (h_za, .inl (cI, 20, .inl v_za)), (h_zb, .inl (cI, 20, .inl v_zb))] (some (.int res.1)) [(h_z, .inr (6, [.int res.2.1, .ref h_zo, .ref h_za, .ref h_zb, .ref h_zc, .ref h_zk, .int v_z_hasBest, .ref h_ze, .int v_z_asked, .ref h_zn, .int v_z_tick, .int v_z_end, .int v_z_tellMany, .ref h_zt, .int v_z_flipCell, .int v_z_flipWide, .int v_z_sortOf, .int v_z_isStruck, .int v_z_wasRead, .int v_z_isCaught, .int v_z_lookCell, .int v_z_lookFrom, .int v_z_firstUse, .int v_z_plainEnd, .int v_z_plainTicks, .int v_z_plainMany, .ref h_zp, .ref h_zh, .ref h_zs, .long v_z_h])), (h_zo, .inl (cI, 20, .inl res.2.2.1)), (h_za, .inl (cI, 20, .inl res.2.2.2.1)), (h_zb, .inl (cI, 20, .inl res.2.2.2.2))] := by
  refine MT.mk (cc := cX7_order) (maxL := 4) (ret := (some .int)) (own := RX7) (by decide) rfl rfl (Nat.le_of_ble_eq_true rfl) rfl ?_
  intro p e s m args below meth c A ls X hP hD hS hl
  obtain ⟨hx, hb, hml, hown, hts, hr, hlk, hE, hH, hA⟩ := id X
  have hl : lv_has ls 4 [(0, .ref h_z), (1, .int a0), (2, .int a1), (3, .int a2)] := hl
  unfold f_X7_order at h
  refine lv_iload_n hx hb dX7_order_0 rfl (lv_at hl 1 rfl) ?_
  refine lv_iload_n hx hb dX7_order_1 rfl (lv_at hl 2 rfl) ?_
  refine lv_iload_n hx hb dX7_order_2 rfl (lv_at hl 3 rfl) ?_
  obtain ⟨t_1, hc, h⟩ := x_b h
  refine c_S (na := 3) (rest := []) (st1 := [.int t_1]) (Wr := [(h_z, .inr (6, [.int v_z_orders, .ref h_zo, .ref h_za, .ref h_zb, .ref h_zc, .ref h_zk, .int v_z_hasBest, .ref h_ze, .int v_z_asked, .ref h_zn, .int v_z_tick, .int v_z_end, .int v_z_tellMany, .ref h_zt, .int v_z_flipCell, .int v_z_flipWide, .int v_z_sortOf, .int v_z_isStruck, .int v_z_wasRead, .int v_z_isCaught, .int v_z_lookCell, .int v_z_lookFrom, .int v_z_firstUse, .int v_z_plainEnd, .int v_z_plainTicks, .int v_z_plainMany, .ref h_zp, .ref h_zh, .ref h_zs, .long v_z_h])), (h_zo, .inl (cI, 20, .inl v_zo)), (h_za, .inl (cI, 20, .inl v_za)), (h_zb, .inl (cI, 20, .inl v_zb))]) (Wn := [(h_z, .inr (6, [.int v_z_orders, .ref h_zo, .ref h_za, .ref h_zb, .ref h_zc, .ref h_zk, .int v_z_hasBest, .ref h_ze, .int v_z_asked, .ref h_zn, .int v_z_tick, .int v_z_end, .int v_z_tellMany, .ref h_zt, .int v_z_flipCell, .int v_z_flipWide, .int v_z_sortOf, .int v_z_isStruck, .int v_z_wasRead, .int v_z_isCaught, .int v_z_lookCell, .int v_z_lookFrom, .int v_z_firstUse, .int v_z_plainEnd, .int v_z_plainTicks, .int v_z_plainMany, .ref h_zp, .ref h_zh, .ref h_zs, .long v_z_h])), (h_zo, .inl (cI, 20, .inl v_zo)), (h_za, .inl (cI, 20, .inl v_za)), (h_zb, .inl (cI, 20, .inl v_zb))]) X hP hD hS hl.1 (m_X7_isOrder l D cI pt   a0 a1 a2 fu _ hc) gX7_order_X7_isOrder rfl ⟨rfl, rfl⟩ rfl (by decide +kernel) ⟨Nat.le_of_ble_eq_true rfl, Nat.le_of_ble_eq_true rfl⟩ [] [0, 1, 2, 3] [0, 1, 2, 3] rfl rfl rfl rfl (by decide) rfl rfl (Nat.le_of_ble_eq_true rfl) dX7_order_3 ⟨Nat.zero_le _, Nat.zero_le _⟩ rfl rfl (fun H locs hP hD hS => ?_)
  refine lv_if_ne (tgt := 12) hx hb dX7_order_6 (by decide) (fun c_2 => ?_) (fun c_2 => ?_)
  · have h := x_n c_2 h
    refine lv_aload_n hx hb dX7_order_12 rfl (lv_at hl 0 rfl) ?_
    refine va_get (D := D) (ci := 6) (v := .int v_z_orders) (C := RX7) (T := TX7) (N := 30) hx hb hts i_X7_order_X7 hown hE.1 hP 0 rfl rfl 0 (by decide) (hts _ q_X7_order_0) (fun _ h9 => h9) rfl dX7_order_13 ?_
    refine lv_bipush (v := (20 : Int32)) hx hb dX7_order_16 (by decide) ?_
    refine lv_icmp_ne (tgt := 24) hx hb dX7_order_18 (by decide) (fun c_3 => ?_) (fun c_3 => ?_)
    · have h := x_n c_3 h
      refine lv_aload_n hx hb dX7_order_24 rfl (lv_at hl 0 rfl) ?_
      refine lv_aload_n hx hb dX7_order_25 rfl (lv_at hl 0 rfl) ?_
      refine va_get (D := D) (ci := 6) (v := .int v_z_orders) (C := RX7) (T := TX7) (N := 30) hx hb hts i_X7_order_X7 hown hE.1 hP 0 rfl rfl 0 (by decide) (hts _ q_X7_order_0) (fun _ h9 => h9) rfl dX7_order_26 ?_
      refine lv_iload_n hx hb dX7_order_29 rfl (lv_at hl 1 rfl) ?_
      refine lv_iload_n hx hb dX7_order_30 rfl (lv_at hl 2 rfl) ?_
      refine lv_iload_n hx hb dX7_order_31 rfl (lv_at hl 3 rfl) ?_
      obtain ⟨t_4, hc, h⟩ := x_b h
      refine c_V (q0 := 0) (ci := 6) (na := 4) (rest := []) (st1 := []) (Wr := []) (Wn := [(h_z, .inr (6, [.int v_z_orders, .ref h_zo, .ref h_za, .ref h_zb, .ref h_zc, .ref h_zk, .int v_z_hasBest, .ref h_ze, .int v_z_asked, .ref h_zn, .int v_z_tick, .int v_z_end, .int v_z_tellMany, .ref h_zt, .int v_z_flipCell, .int v_z_flipWide, .int v_z_sortOf, .int v_z_isStruck, .int v_z_wasRead, .int v_z_isCaught, .int v_z_lookCell, .int v_z_lookFrom, .int v_z_firstUse, .int v_z_plainEnd, .int v_z_plainTicks, .int v_z_plainMany, .ref h_zp, .ref h_zh, .ref h_zs, .long v_z_h])), (h_zo, .inl (cI, 20, .inl t_4.1)), (h_za, .inl (cI, 20, .inl t_4.2.1)), (h_zb, .inl (cI, 20, .inl t_4.2.2))]) X hP hD hS hl.1 (m_X7_set l D cI pt h_z h_zo h_za h_zb h_zc h_zk h_ze h_zn h_zt h_zp h_zh h_zs v_z_orders v_z_hasBest v_z_asked v_z_tick v_z_end v_z_tellMany v_z_flipCell v_z_flipWide v_z_sortOf v_z_isStruck v_z_wasRead v_z_isCaught v_z_lookCell v_z_lookFrom v_z_firstUse v_z_plainEnd v_z_plainTicks v_z_plainMany v_z_h v_zo v_za v_zb v_z_orders a0 a1 a2 fu _ hc) gX7_order_X7_set rfl ⟨rfl, rfl⟩ rfl (by decide +kernel) ⟨Nat.le_of_ble_eq_true rfl, Nat.le_of_ble_eq_true rfl⟩ rfl rfl [0, 1, 2, 3] [] [0, 1, 2, 3] rfl rfl rfl rfl rfl (by decide) rfl rfl (Nat.le_of_ble_eq_true rfl) dX7_order_32 ⟨Nat.zero_le _, Nat.zero_le _⟩ rfl rfl (fun H locs hP hD hS => ?_)
      refine lv_aload_n hx hb dX7_order_35 rfl (lv_at hl 0 rfl) ?_
      refine lv_dup hx hb dX7_order_36 rfl ?_
      refine va_get (D := D) (ci := 6) (v := .int v_z_orders) (C := RX7) (T := TX7) (N := 30) hx hb hts i_X7_order_X7 hown hE.1 hP 0 rfl rfl 0 (by decide) (hts _ q_X7_order_0) (fun _ h9 => h9) rfl dX7_order_37 ?_
      refine lv_iconst (v := (1 : Int32)) hx hb dX7_order_40 (by decide) ?_
      refine lv_iadd hx hb dX7_order_41 ?_
      refine va_put (D := D) (ci := 6) (v := .int (v_z_orders + (1 : Int32))) (ty := .int) (C := RX7) (T := TX7) (N := 30) hx hb hts i_X7_order_X7 tyX7 tyX7_ok nmX7 hown hE.1 hP hD hS 0 rfl rfl 0 (by decide) (hts _ q_X7_order_0) (fun _ h9 => h9) rfl (by decide +kernel) rfl rfl (Nat.le_of_ble_eq_true rfl) dX7_order_42 (fun H locs hP hD hS => ?_)
      have hP : va_P D vwCl [(h_z, .inr (6, [.int (v_z_orders + (1 : Int32)), .ref h_zo, .ref h_za, .ref h_zb, .ref h_zc, .ref h_zk, .int v_z_hasBest, .ref h_ze, .int v_z_asked, .ref h_zn, .int v_z_tick, .int v_z_end, .int v_z_tellMany, .ref h_zt, .int v_z_flipCell, .int v_z_flipWide, .int v_z_sortOf, .int v_z_isStruck, .int v_z_wasRead, .int v_z_isCaught, .int v_z_lookCell, .int v_z_lookFrom, .int v_z_firstUse, .int v_z_plainEnd, .int v_z_plainTicks, .int v_z_plainMany, .ref h_zp, .ref h_zh, .ref h_zs, .long v_z_h])), (h_zo, .inl (cI, 20, .inl t_4.1)), (h_za, .inl (cI, 20, .inl t_4.2.1)), (h_zb, .inl (cI, 20, .inl t_4.2.2))] H := hP
      have hD : va_D A [(h_z, .inr (6, [.int (v_z_orders + (1 : Int32)), .ref h_zo, .ref h_za, .ref h_zb, .ref h_zc, .ref h_zk, .int v_z_hasBest, .ref h_ze, .int v_z_asked, .ref h_zn, .int v_z_tick, .int v_z_end, .int v_z_tellMany, .ref h_zt, .int v_z_flipCell, .int v_z_flipWide, .int v_z_sortOf, .int v_z_isStruck, .int v_z_wasRead, .int v_z_isCaught, .int v_z_lookCell, .int v_z_lookFrom, .int v_z_firstUse, .int v_z_plainEnd, .int v_z_plainTicks, .int v_z_plainMany, .ref h_zp, .ref h_zh, .ref h_zs, .long v_z_h])), (h_zo, .inl (cI, 20, .inl t_4.1)), (h_za, .inl (cI, 20, .inl t_4.2.1)), (h_zb, .inl (cI, 20, .inl t_4.2.2))] := hD
      refine lv_aload_n hx hb dX7_order_45 rfl (lv_at hl 0 rfl) ?_
      refine va_get (D := D) (ci := 6) (v := .int (v_z_orders + (1 : Int32))) (C := RX7) (T := TX7) (N := 30) hx hb hts i_X7_order_X7 hown hE.1 hP 0 rfl rfl 0 (by decide) (hts _ q_X7_order_0) (fun _ h9 => h9) rfl dX7_order_46 ?_
      cases h
      exact r_i X hP hD hS rfl dX7_order_49
    · have h := x_p c_3 h
      refine lv_bipush (v := (-104 : Int32)) hx hb dX7_order_21 (by decide) ?_
      cases h
      exact r_i X hP hD hS rfl dX7_order_23
  · have h := x_p c_2 h
    refine lv_bipush (v := (-102 : Int32)) hx hb dX7_order_9 (by decide) ?_
    cases h
    exact r_i X hP hD hS rfl dX7_order_11

theorem q_X7_change_0 : (.fieldLink RX7 60 "StruckBitsModel" "orders" "I" : Cond) ∈ wsX7_change := by decide +kernel
theorem i_X7_change_X7 : ∀ w ∈ u_ws RX7 TX7 30, w ∈ wsX7_change := by decide +kernel
set_option maxHeartbeats 4000000 in
set_option maxRecDepth 100000 in
theorem m_X7_change (l : Launch) (D : va_G) (cI : ClassId) (pt : Nat) (h_z h_zo h_za h_zb h_zc h_zk h_ze h_zn h_zt h_zp h_zh h_zs : Nat) (v_z_orders : Int32) (v_z_hasBest : Int32) (v_z_asked : Int32) (v_z_tick : Int32) (v_z_end : Int32) (v_z_tellMany : Int32) (v_z_flipCell : Int32) (v_z_flipWide : Int32) (v_z_sortOf : Int32) (v_z_isStruck : Int32) (v_z_wasRead : Int32) (v_z_isCaught : Int32) (v_z_lookCell : Int32) (v_z_lookFrom : Int32) (v_z_firstUse : Int32) (v_z_plainEnd : Int32) (v_z_plainTicks : Int32) (v_z_plainMany : Int32) (v_z_h : Int64) (v_zo : Nat → Int32) (v_za : Nat → Int32) (v_zb : Nat → Int32) (a0 : Int32) (a1 : Int32) (a2 : Int32) (a3 : Int32) (fu : Nat) (res : Int32 × (Nat → Int32) × (Nat → Int32) × (Nat → Int32)) (h : f_X7_change fu v_z_orders v_zo v_za v_zb a0 a1 a2 a3 = some res) :
    MT l D cI pt yX7_change wsX7_change ({ frames := 3, cells := 0, slots := 0, locals := 66 } : Room) [.ref h_z, .int a0, .int a1, .int a2, .int a3] [(h_z, .inr (6, [.int v_z_orders, .ref h_zo, .ref h_za, .ref h_zb, .ref h_zc, .ref h_zk, .int v_z_hasBest, .ref h_ze, .int v_z_asked, .ref h_zn, .int v_z_tick, .int v_z_end, .int v_z_tellMany, .ref h_zt, .int v_z_flipCell, .int v_z_flipWide, .int v_z_sortOf, .int v_z_isStruck, .int v_z_wasRead, .int v_z_isCaught, .int v_z_lookCell, .int v_z_lookFrom, .int v_z_firstUse, .int v_z_plainEnd, .int v_z_plainTicks, .int v_z_plainMany, .ref h_zp, .ref h_zh, .ref h_zs, .long v_z_h])), (h_zo, .inl (cI, 20, .inl v_zo)), (h_za, .inl (cI, 20, .inl v_za)), (h_zb, .inl (cI, 20, .inl v_zb))] (some (.int res.1)) [(h_z, .inr (6, [.int v_z_orders, .ref h_zo, .ref h_za, .ref h_zb, .ref h_zc, .ref h_zk, .int v_z_hasBest, .ref h_ze, .int v_z_asked, .ref h_zn, .int v_z_tick, .int v_z_end, .int v_z_tellMany, .ref h_zt, .int v_z_flipCell, .int v_z_flipWide, .int v_z_sortOf, .int v_z_isStruck, .int v_z_wasRead, .int v_z_isCaught, .int v_z_lookCell, .int v_z_lookFrom, .int v_z_firstUse, .int v_z_plainEnd, .int v_z_plainTicks, .int v_z_plainMany, .ref h_zp, .ref h_zh, .ref h_zs, .long v_z_h])), (h_zo, .inl (cI, 20, .inl res.2.1)), (h_za, .inl (cI, 20, .inl res.2.2.1)), (h_zb, .inl (cI, 20, .inl res.2.2.2))] := by
  refine MT.mk (cc := cX7_change) (maxL := 5) (ret := (some .int)) (own := RX7) (by decide) rfl rfl (Nat.le_of_ble_eq_true rfl) rfl ?_
  intro p e s m args below meth c A ls X hP hD hS hl
  obtain ⟨hx, hb, hml, hown, hts, hr, hlk, hE, hH, hA⟩ := id X
  have hl : lv_has ls 5 [(0, .ref h_z), (1, .int a0), (2, .int a1), (3, .int a2), (4, .int a3)] := hl
  unfold f_X7_change at h
  refine lv_iload_n hx hb dX7_change_0 rfl (lv_at hl 1 rfl) ?_
  refine lv_iconst (v := (0 : Int32)) hx hb dX7_change_1 (by decide) ?_
  refine lv_aload_n hx hb dX7_change_2 rfl (lv_at hl 0 rfl) ?_
  refine va_get (D := D) (ci := 6) (v := .int v_z_orders) (C := RX7) (T := TX7) (N := 30) hx hb hts i_X7_change_X7 hown hE.1 hP 0 rfl rfl 0 (by decide) (hts _ q_X7_change_0) (fun _ h9 => h9) rfl dX7_change_3 ?_
  refine lv_iconst (v := (1 : Int32)) hx hb dX7_change_6 (by decide) ?_
  refine lv_isub hx hb dX7_change_7 ?_
  obtain ⟨t_1, hc, h⟩ := x_b h
  refine c_S (na := 3) (rest := []) (st1 := [.int t_1]) (Wr := [(h_z, .inr (6, [.int v_z_orders, .ref h_zo, .ref h_za, .ref h_zb, .ref h_zc, .ref h_zk, .int v_z_hasBest, .ref h_ze, .int v_z_asked, .ref h_zn, .int v_z_tick, .int v_z_end, .int v_z_tellMany, .ref h_zt, .int v_z_flipCell, .int v_z_flipWide, .int v_z_sortOf, .int v_z_isStruck, .int v_z_wasRead, .int v_z_isCaught, .int v_z_lookCell, .int v_z_lookFrom, .int v_z_firstUse, .int v_z_plainEnd, .int v_z_plainTicks, .int v_z_plainMany, .ref h_zp, .ref h_zh, .ref h_zs, .long v_z_h])), (h_zo, .inl (cI, 20, .inl v_zo)), (h_za, .inl (cI, 20, .inl v_za)), (h_zb, .inl (cI, 20, .inl v_zb))]) (Wn := [(h_z, .inr (6, [.int v_z_orders, .ref h_zo, .ref h_za, .ref h_zb, .ref h_zc, .ref h_zk, .int v_z_hasBest, .ref h_ze, .int v_z_asked, .ref h_zn, .int v_z_tick, .int v_z_end, .int v_z_tellMany, .ref h_zt, .int v_z_flipCell, .int v_z_flipWide, .int v_z_sortOf, .int v_z_isStruck, .int v_z_wasRead, .int v_z_isCaught, .int v_z_lookCell, .int v_z_lookFrom, .int v_z_firstUse, .int v_z_plainEnd, .int v_z_plainTicks, .int v_z_plainMany, .ref h_zp, .ref h_zh, .ref h_zs, .long v_z_h])), (h_zo, .inl (cI, 20, .inl v_zo)), (h_za, .inl (cI, 20, .inl v_za)), (h_zb, .inl (cI, 20, .inl v_zb))]) X hP hD hS hl.1 (m_X7_in l D cI pt   a0 (0 : Int32) (v_z_orders - (1 : Int32)) fu _ hc) gX7_change_X7_in rfl ⟨rfl, rfl⟩ rfl (by decide +kernel) ⟨Nat.le_of_ble_eq_true rfl, Nat.le_of_ble_eq_true rfl⟩ [] [0, 1, 2, 3] [0, 1, 2, 3] rfl rfl rfl rfl (by decide) rfl rfl (Nat.le_of_ble_eq_true rfl) dX7_change_8 ⟨Nat.zero_le _, Nat.zero_le _⟩ rfl rfl (fun H locs hP hD hS => ?_)
  refine lv_if_ne (tgt := 17) hx hb dX7_change_11 (by decide) (fun c_2 => ?_) (fun c_2 => ?_)
  · have h := x_n c_2 h
    refine lv_iload_n hx hb dX7_change_17 rfl (lv_at hl 2 rfl) ?_
    refine lv_iload_n hx hb dX7_change_18 rfl (lv_at hl 3 rfl) ?_
    refine lv_iload hx hb dX7_change_19 (lv_at hl 4 rfl) ?_
    obtain ⟨t_3, hc, h⟩ := x_b h
    refine c_S (na := 3) (rest := []) (st1 := [.int t_3]) (Wr := [(h_z, .inr (6, [.int v_z_orders, .ref h_zo, .ref h_za, .ref h_zb, .ref h_zc, .ref h_zk, .int v_z_hasBest, .ref h_ze, .int v_z_asked, .ref h_zn, .int v_z_tick, .int v_z_end, .int v_z_tellMany, .ref h_zt, .int v_z_flipCell, .int v_z_flipWide, .int v_z_sortOf, .int v_z_isStruck, .int v_z_wasRead, .int v_z_isCaught, .int v_z_lookCell, .int v_z_lookFrom, .int v_z_firstUse, .int v_z_plainEnd, .int v_z_plainTicks, .int v_z_plainMany, .ref h_zp, .ref h_zh, .ref h_zs, .long v_z_h])), (h_zo, .inl (cI, 20, .inl v_zo)), (h_za, .inl (cI, 20, .inl v_za)), (h_zb, .inl (cI, 20, .inl v_zb))]) (Wn := [(h_z, .inr (6, [.int v_z_orders, .ref h_zo, .ref h_za, .ref h_zb, .ref h_zc, .ref h_zk, .int v_z_hasBest, .ref h_ze, .int v_z_asked, .ref h_zn, .int v_z_tick, .int v_z_end, .int v_z_tellMany, .ref h_zt, .int v_z_flipCell, .int v_z_flipWide, .int v_z_sortOf, .int v_z_isStruck, .int v_z_wasRead, .int v_z_isCaught, .int v_z_lookCell, .int v_z_lookFrom, .int v_z_firstUse, .int v_z_plainEnd, .int v_z_plainTicks, .int v_z_plainMany, .ref h_zp, .ref h_zh, .ref h_zs, .long v_z_h])), (h_zo, .inl (cI, 20, .inl v_zo)), (h_za, .inl (cI, 20, .inl v_za)), (h_zb, .inl (cI, 20, .inl v_zb))]) X hP hD hS hl.1 (m_X7_isOrder l D cI pt   a1 a2 a3 fu _ hc) gX7_change_X7_isOrder rfl ⟨rfl, rfl⟩ rfl (by decide +kernel) ⟨Nat.le_of_ble_eq_true rfl, Nat.le_of_ble_eq_true rfl⟩ [] [0, 1, 2, 3] [0, 1, 2, 3] rfl rfl rfl rfl (by decide) rfl rfl (Nat.le_of_ble_eq_true rfl) dX7_change_21 ⟨Nat.zero_le _, Nat.zero_le _⟩ rfl rfl (fun H locs hP hD hS => ?_)
    refine lv_if_ne (tgt := 30) hx hb dX7_change_24 (by decide) (fun c_4 => ?_) (fun c_4 => ?_)
    · have h := x_n c_4 h
      refine lv_aload_n hx hb dX7_change_30 rfl (lv_at hl 0 rfl) ?_
      refine lv_iload_n hx hb dX7_change_31 rfl (lv_at hl 1 rfl) ?_
      refine lv_iload_n hx hb dX7_change_32 rfl (lv_at hl 2 rfl) ?_
      refine lv_iload_n hx hb dX7_change_33 rfl (lv_at hl 3 rfl) ?_
      refine lv_iload hx hb dX7_change_34 (lv_at hl 4 rfl) ?_
      obtain ⟨t_5, hc, h⟩ := x_b h
      refine c_V (q0 := 0) (ci := 6) (na := 4) (rest := []) (st1 := []) (Wr := []) (Wn := [(h_z, .inr (6, [.int v_z_orders, .ref h_zo, .ref h_za, .ref h_zb, .ref h_zc, .ref h_zk, .int v_z_hasBest, .ref h_ze, .int v_z_asked, .ref h_zn, .int v_z_tick, .int v_z_end, .int v_z_tellMany, .ref h_zt, .int v_z_flipCell, .int v_z_flipWide, .int v_z_sortOf, .int v_z_isStruck, .int v_z_wasRead, .int v_z_isCaught, .int v_z_lookCell, .int v_z_lookFrom, .int v_z_firstUse, .int v_z_plainEnd, .int v_z_plainTicks, .int v_z_plainMany, .ref h_zp, .ref h_zh, .ref h_zs, .long v_z_h])), (h_zo, .inl (cI, 20, .inl t_5.1)), (h_za, .inl (cI, 20, .inl t_5.2.1)), (h_zb, .inl (cI, 20, .inl t_5.2.2))]) X hP hD hS hl.1 (m_X7_set l D cI pt h_z h_zo h_za h_zb h_zc h_zk h_ze h_zn h_zt h_zp h_zh h_zs v_z_orders v_z_hasBest v_z_asked v_z_tick v_z_end v_z_tellMany v_z_flipCell v_z_flipWide v_z_sortOf v_z_isStruck v_z_wasRead v_z_isCaught v_z_lookCell v_z_lookFrom v_z_firstUse v_z_plainEnd v_z_plainTicks v_z_plainMany v_z_h v_zo v_za v_zb a0 a1 a2 a3 fu _ hc) gX7_change_X7_set rfl ⟨rfl, rfl⟩ rfl (by decide +kernel) ⟨Nat.le_of_ble_eq_true rfl, Nat.le_of_ble_eq_true rfl⟩ rfl rfl [0, 1, 2, 3] [] [0, 1, 2, 3] rfl rfl rfl rfl rfl (by decide) rfl rfl (Nat.le_of_ble_eq_true rfl) dX7_change_36 ⟨Nat.zero_le _, Nat.zero_le _⟩ rfl rfl (fun H locs hP hD hS => ?_)
      refine lv_iconst (v := (1 : Int32)) hx hb dX7_change_39 (by decide) ?_
      cases h
      exact r_i X hP hD hS rfl dX7_change_40
    · have h := x_p c_4 h
      refine lv_bipush (v := (-102 : Int32)) hx hb dX7_change_27 (by decide) ?_
      cases h
      exact r_i X hP hD hS rfl dX7_change_29
  · have h := x_p c_2 h
    refine lv_bipush (v := (-101 : Int32)) hx hb dX7_change_14 (by decide) ?_
    cases h
    exact r_i X hP hD hS rfl dX7_change_16

theorem q_X7_clear_0 : (.fieldLink RX7 60 "StruckBitsModel" "orders" "I" : Cond) ∈ wsX7_clear := by decide +kernel
theorem i_X7_clear_X7 : ∀ w ∈ u_ws RX7 TX7 30, w ∈ wsX7_clear := by decide +kernel
set_option maxHeartbeats 4000000 in
set_option maxRecDepth 100000 in
theorem m_X7_clear (l : Launch) (D : va_G) (cI : ClassId) (pt : Nat) (h_z h_zo h_za h_zb h_zc h_zk h_ze h_zn h_zt h_zp h_zh h_zs : Nat) (v_z_orders : Int32) (v_z_hasBest : Int32) (v_z_asked : Int32) (v_z_tick : Int32) (v_z_end : Int32) (v_z_tellMany : Int32) (v_z_flipCell : Int32) (v_z_flipWide : Int32) (v_z_sortOf : Int32) (v_z_isStruck : Int32) (v_z_wasRead : Int32) (v_z_isCaught : Int32) (v_z_lookCell : Int32) (v_z_lookFrom : Int32) (v_z_firstUse : Int32) (v_z_plainEnd : Int32) (v_z_plainTicks : Int32) (v_z_plainMany : Int32) (v_z_h : Int64)  (fu : Nat) (res : Int32 × Int32) (h : f_X7_clear fu v_z_orders  = some res) :
    MT l D cI pt yX7_clear wsX7_clear ({ frames := 0, cells := 0, slots := 0, locals := 0 } : Room) [.ref h_z] [(h_z, .inr (6, [.int v_z_orders, .ref h_zo, .ref h_za, .ref h_zb, .ref h_zc, .ref h_zk, .int v_z_hasBest, .ref h_ze, .int v_z_asked, .ref h_zn, .int v_z_tick, .int v_z_end, .int v_z_tellMany, .ref h_zt, .int v_z_flipCell, .int v_z_flipWide, .int v_z_sortOf, .int v_z_isStruck, .int v_z_wasRead, .int v_z_isCaught, .int v_z_lookCell, .int v_z_lookFrom, .int v_z_firstUse, .int v_z_plainEnd, .int v_z_plainTicks, .int v_z_plainMany, .ref h_zp, .ref h_zh, .ref h_zs, .long v_z_h]))] (some (.int res.1)) [(h_z, .inr (6, [.int res.2, .ref h_zo, .ref h_za, .ref h_zb, .ref h_zc, .ref h_zk, .int v_z_hasBest, .ref h_ze, .int v_z_asked, .ref h_zn, .int v_z_tick, .int v_z_end, .int v_z_tellMany, .ref h_zt, .int v_z_flipCell, .int v_z_flipWide, .int v_z_sortOf, .int v_z_isStruck, .int v_z_wasRead, .int v_z_isCaught, .int v_z_lookCell, .int v_z_lookFrom, .int v_z_firstUse, .int v_z_plainEnd, .int v_z_plainTicks, .int v_z_plainMany, .ref h_zp, .ref h_zh, .ref h_zs, .long v_z_h]))] := by
  refine MT.mk (cc := cX7_clear) (maxL := 2) (ret := (some .int)) (own := RX7) (by decide) rfl rfl (Nat.le_of_ble_eq_true rfl) rfl ?_
  intro p e s m args below meth c A ls X hP hD hS hl
  obtain ⟨hx, hb, hml, hown, hts, hr, hlk, hE, hH, hA⟩ := id X
  have hl : lv_has ls 2 [(0, .ref h_z)] := hl
  unfold f_X7_clear at h
  refine lv_aload_n hx hb dX7_clear_0 rfl (lv_at hl 0 rfl) ?_
  refine va_get (D := D) (ci := 6) (v := .int v_z_orders) (C := RX7) (T := TX7) (N := 30) hx hb hts i_X7_clear_X7 hown hE.1 hP 0 rfl rfl 0 (by decide) (hts _ q_X7_clear_0) (fun _ h9 => h9) rfl dX7_clear_1 ?_
  refine lv_istore_n (lv' := [(1, .int v_z_orders), (0, .ref h_z)]) hx hb dX7_clear_4 rfl hl (by decide) rfl (fun ls hl => ?_)
  refine lv_aload_n hx hb dX7_clear_5 rfl (lv_at hl 1 rfl) ?_
  refine lv_iconst (v := (0 : Int32)) hx hb dX7_clear_6 (by decide) ?_
  refine va_put (D := D) (ci := 6) (v := .int (0 : Int32)) (ty := .int) (C := RX7) (T := TX7) (N := 30) hx hb hts i_X7_clear_X7 tyX7 tyX7_ok nmX7 hown hE.1 hP hD hS 0 rfl rfl 0 (by decide) (hts _ q_X7_clear_0) (fun _ h9 => h9) rfl (by decide +kernel) rfl rfl (Nat.le_of_ble_eq_true rfl) dX7_clear_7 (fun H locs hP hD hS => ?_)
  have hP : va_P D vwCl [(h_z, .inr (6, [.int (0 : Int32), .ref h_zo, .ref h_za, .ref h_zb, .ref h_zc, .ref h_zk, .int v_z_hasBest, .ref h_ze, .int v_z_asked, .ref h_zn, .int v_z_tick, .int v_z_end, .int v_z_tellMany, .ref h_zt, .int v_z_flipCell, .int v_z_flipWide, .int v_z_sortOf, .int v_z_isStruck, .int v_z_wasRead, .int v_z_isCaught, .int v_z_lookCell, .int v_z_lookFrom, .int v_z_firstUse, .int v_z_plainEnd, .int v_z_plainTicks, .int v_z_plainMany, .ref h_zp, .ref h_zh, .ref h_zs, .long v_z_h]))] H := hP
  have hD : va_D A [(h_z, .inr (6, [.int (0 : Int32), .ref h_zo, .ref h_za, .ref h_zb, .ref h_zc, .ref h_zk, .int v_z_hasBest, .ref h_ze, .int v_z_asked, .ref h_zn, .int v_z_tick, .int v_z_end, .int v_z_tellMany, .ref h_zt, .int v_z_flipCell, .int v_z_flipWide, .int v_z_sortOf, .int v_z_isStruck, .int v_z_wasRead, .int v_z_isCaught, .int v_z_lookCell, .int v_z_lookFrom, .int v_z_firstUse, .int v_z_plainEnd, .int v_z_plainTicks, .int v_z_plainMany, .ref h_zp, .ref h_zh, .ref h_zs, .long v_z_h]))] := hD
  refine lv_iload_n hx hb dX7_clear_10 rfl (lv_at hl 0 rfl) ?_
  cases h
  exact r_i X hP hD hS rfl dX7_clear_11

theorem q_X7_cell_0 : (.fieldLink RX7 19 "StruckBitsModel" "cells" "[I" : Cond) ∈ wsX7_cell := by decide +kernel
theorem i_X7_cell_X7 : ∀ w ∈ u_ws RX7 TX7 30, w ∈ wsX7_cell := by decide +kernel
set_option maxHeartbeats 4000000 in
set_option maxRecDepth 100000 in
theorem m_X7_cell (l : Launch) (D : va_G) (cI : ClassId) (pt : Nat) (h_z h_zo h_za h_zb h_zc h_zk h_ze h_zn h_zt h_zp h_zh h_zs : Nat) (v_z_orders : Int32) (v_z_hasBest : Int32) (v_z_asked : Int32) (v_z_tick : Int32) (v_z_end : Int32) (v_z_tellMany : Int32) (v_z_flipCell : Int32) (v_z_flipWide : Int32) (v_z_sortOf : Int32) (v_z_isStruck : Int32) (v_z_wasRead : Int32) (v_z_isCaught : Int32) (v_z_lookCell : Int32) (v_z_lookFrom : Int32) (v_z_firstUse : Int32) (v_z_plainEnd : Int32) (v_z_plainTicks : Int32) (v_z_plainMany : Int32) (v_z_h : Int64) (v_zc : Nat → Int32) (a0 : Int32) (a1 : Int32) (fu : Nat) (res : Int32 × (Nat → Int32)) (h : f_X7_cell fu v_zc a0 a1 = some res) :
    MT l D cI pt yX7_cell wsX7_cell ({ frames := 2, cells := 0, slots := 0, locals := 42 } : Room) [.ref h_z, .int a0, .int a1] [(h_z, .inr (6, [.int v_z_orders, .ref h_zo, .ref h_za, .ref h_zb, .ref h_zc, .ref h_zk, .int v_z_hasBest, .ref h_ze, .int v_z_asked, .ref h_zn, .int v_z_tick, .int v_z_end, .int v_z_tellMany, .ref h_zt, .int v_z_flipCell, .int v_z_flipWide, .int v_z_sortOf, .int v_z_isStruck, .int v_z_wasRead, .int v_z_isCaught, .int v_z_lookCell, .int v_z_lookFrom, .int v_z_firstUse, .int v_z_plainEnd, .int v_z_plainTicks, .int v_z_plainMany, .ref h_zp, .ref h_zh, .ref h_zs, .long v_z_h])), (h_zc, .inl (cI, 8, .inl v_zc))] (some (.int res.1)) [(h_z, .inr (6, [.int v_z_orders, .ref h_zo, .ref h_za, .ref h_zb, .ref h_zc, .ref h_zk, .int v_z_hasBest, .ref h_ze, .int v_z_asked, .ref h_zn, .int v_z_tick, .int v_z_end, .int v_z_tellMany, .ref h_zt, .int v_z_flipCell, .int v_z_flipWide, .int v_z_sortOf, .int v_z_isStruck, .int v_z_wasRead, .int v_z_isCaught, .int v_z_lookCell, .int v_z_lookFrom, .int v_z_firstUse, .int v_z_plainEnd, .int v_z_plainTicks, .int v_z_plainMany, .ref h_zp, .ref h_zh, .ref h_zs, .long v_z_h])), (h_zc, .inl (cI, 8, .inl res.2))] := by
  refine MT.mk (cc := cX7_cell) (maxL := 4) (ret := (some .int)) (own := RX7) (by decide) rfl rfl (Nat.le_of_ble_eq_true rfl) rfl ?_
  intro p e s m args below meth c A ls X hP hD hS hl
  obtain ⟨hx, hb, hml, hown, hts, hr, hlk, hE, hH, hA⟩ := id X
  have hl : lv_has ls 4 [(0, .ref h_z), (1, .int a0), (2, .int a1)] := hl
  unfold f_X7_cell at h
  refine lv_iload_n hx hb dX7_cell_0 rfl (lv_at hl 1 rfl) ?_
  obtain ⟨t_1, hc, h⟩ := x_b h
  refine c_S (na := 1) (rest := []) (st1 := [.int t_1]) (Wr := [(h_z, .inr (6, [.int v_z_orders, .ref h_zo, .ref h_za, .ref h_zb, .ref h_zc, .ref h_zk, .int v_z_hasBest, .ref h_ze, .int v_z_asked, .ref h_zn, .int v_z_tick, .int v_z_end, .int v_z_tellMany, .ref h_zt, .int v_z_flipCell, .int v_z_flipWide, .int v_z_sortOf, .int v_z_isStruck, .int v_z_wasRead, .int v_z_isCaught, .int v_z_lookCell, .int v_z_lookFrom, .int v_z_firstUse, .int v_z_plainEnd, .int v_z_plainTicks, .int v_z_plainMany, .ref h_zp, .ref h_zh, .ref h_zs, .long v_z_h])), (h_zc, .inl (cI, 8, .inl v_zc))]) (Wn := [(h_z, .inr (6, [.int v_z_orders, .ref h_zo, .ref h_za, .ref h_zb, .ref h_zc, .ref h_zk, .int v_z_hasBest, .ref h_ze, .int v_z_asked, .ref h_zn, .int v_z_tick, .int v_z_end, .int v_z_tellMany, .ref h_zt, .int v_z_flipCell, .int v_z_flipWide, .int v_z_sortOf, .int v_z_isStruck, .int v_z_wasRead, .int v_z_isCaught, .int v_z_lookCell, .int v_z_lookFrom, .int v_z_firstUse, .int v_z_plainEnd, .int v_z_plainTicks, .int v_z_plainMany, .ref h_zp, .ref h_zh, .ref h_zs, .long v_z_h])), (h_zc, .inl (cI, 8, .inl v_zc))]) X hP hD hS hl.1 (m_X7_isCell l D cI pt   a0 fu _ hc) gX7_cell_X7_isCell rfl ⟨rfl, rfl⟩ rfl (by decide +kernel) ⟨Nat.le_of_ble_eq_true rfl, Nat.le_of_ble_eq_true rfl⟩ [] [0, 1] [0, 1] rfl rfl rfl rfl (by decide) rfl rfl (Nat.le_of_ble_eq_true rfl) dX7_cell_1 ⟨Nat.zero_le _, Nat.zero_le _⟩ rfl rfl (fun H locs hP hD hS => ?_)
  refine lv_if_ne (tgt := 10) hx hb dX7_cell_4 (by decide) (fun c_2 => ?_) (fun c_2 => ?_)
  · have h := x_n c_2 h
    refine lv_iload_n hx hb dX7_cell_10 rfl (lv_at hl 2 rfl) ?_
    refine lv_iconst (v := (0 : Int32)) hx hb dX7_cell_11 (by decide) ?_
    refine lv_sipush (v := (255 : Int32)) hx hb dX7_cell_12 (by decide) ?_
    obtain ⟨t_3, hc, h⟩ := x_b h
    refine c_S (na := 3) (rest := []) (st1 := [.int t_3]) (Wr := [(h_z, .inr (6, [.int v_z_orders, .ref h_zo, .ref h_za, .ref h_zb, .ref h_zc, .ref h_zk, .int v_z_hasBest, .ref h_ze, .int v_z_asked, .ref h_zn, .int v_z_tick, .int v_z_end, .int v_z_tellMany, .ref h_zt, .int v_z_flipCell, .int v_z_flipWide, .int v_z_sortOf, .int v_z_isStruck, .int v_z_wasRead, .int v_z_isCaught, .int v_z_lookCell, .int v_z_lookFrom, .int v_z_firstUse, .int v_z_plainEnd, .int v_z_plainTicks, .int v_z_plainMany, .ref h_zp, .ref h_zh, .ref h_zs, .long v_z_h])), (h_zc, .inl (cI, 8, .inl v_zc))]) (Wn := [(h_z, .inr (6, [.int v_z_orders, .ref h_zo, .ref h_za, .ref h_zb, .ref h_zc, .ref h_zk, .int v_z_hasBest, .ref h_ze, .int v_z_asked, .ref h_zn, .int v_z_tick, .int v_z_end, .int v_z_tellMany, .ref h_zt, .int v_z_flipCell, .int v_z_flipWide, .int v_z_sortOf, .int v_z_isStruck, .int v_z_wasRead, .int v_z_isCaught, .int v_z_lookCell, .int v_z_lookFrom, .int v_z_firstUse, .int v_z_plainEnd, .int v_z_plainTicks, .int v_z_plainMany, .ref h_zp, .ref h_zh, .ref h_zs, .long v_z_h])), (h_zc, .inl (cI, 8, .inl v_zc))]) X hP hD hS hl.1 (m_X7_in l D cI pt   a1 (0 : Int32) (255 : Int32) fu _ hc) gX7_cell_X7_in rfl ⟨rfl, rfl⟩ rfl (by decide +kernel) ⟨Nat.le_of_ble_eq_true rfl, Nat.le_of_ble_eq_true rfl⟩ [] [0, 1] [0, 1] rfl rfl rfl rfl (by decide) rfl rfl (Nat.le_of_ble_eq_true rfl) dX7_cell_15 ⟨Nat.zero_le _, Nat.zero_le _⟩ rfl rfl (fun H locs hP hD hS => ?_)
    refine lv_if_ne (tgt := 24) hx hb dX7_cell_18 (by decide) (fun c_4 => ?_) (fun c_4 => ?_)
    · have h := x_n c_4 h
      refine lv_aload_n hx hb dX7_cell_24 rfl (lv_at hl 0 rfl) ?_
      refine va_get (D := D) (ci := 6) (v := .ref h_zc) (C := RX7) (T := TX7) (N := 30) hx hb hts i_X7_cell_X7 hown hE.1 hP 0 rfl rfl 4 (by decide) (hts _ q_X7_cell_0) (fun _ h9 => h9) rfl dX7_cell_25 ?_
      refine lv_iload_n hx hb dX7_cell_28 rfl (lv_at hl 1 rfl) ?_
      obtain ⟨g_5, h⟩ := x_gd h
      refine va_iald hx hb hE.1 hP 1 0 rfl rfl g_5 dX7_cell_29 ?_
      refine lv_istore_n (lv' := [(3, .int (v_zc a0.toNatClampNeg)), (0, .ref h_z), (1, .int a0), (2, .int a1)]) hx hb dX7_cell_30 rfl hl (by decide) rfl (fun ls hl => ?_)
      refine lv_aload_n hx hb dX7_cell_31 rfl (lv_at hl 1 rfl) ?_
      refine va_get (D := D) (ci := 6) (v := .ref h_zc) (C := RX7) (T := TX7) (N := 30) hx hb hts i_X7_cell_X7 hown hE.1 hP 0 rfl rfl 4 (by decide) (hts _ q_X7_cell_0) (fun _ h9 => h9) rfl dX7_cell_32 ?_
      refine lv_iload_n hx hb dX7_cell_35 rfl (lv_at hl 2 rfl) ?_
      refine lv_iload_n hx hb dX7_cell_36 rfl (lv_at hl 3 rfl) ?_
      obtain ⟨g_6, h⟩ := x_gd h
      refine va_iast hx hb hE.1 hP hD hS 1 0 rfl rfl g_6 dX7_cell_37 (fun H locs hP hD hS => ?_)
      have hP : va_P D vwCl [(h_z, .inr (6, [.int v_z_orders, .ref h_zo, .ref h_za, .ref h_zb, .ref h_zc, .ref h_zk, .int v_z_hasBest, .ref h_ze, .int v_z_asked, .ref h_zn, .int v_z_tick, .int v_z_end, .int v_z_tellMany, .ref h_zt, .int v_z_flipCell, .int v_z_flipWide, .int v_z_sortOf, .int v_z_isStruck, .int v_z_wasRead, .int v_z_isCaught, .int v_z_lookCell, .int v_z_lookFrom, .int v_z_firstUse, .int v_z_plainEnd, .int v_z_plainTicks, .int v_z_plainMany, .ref h_zp, .ref h_zh, .ref h_zs, .long v_z_h])), (h_zc, .inl (cI, 8, .inl (upd v_zc a0.toNatClampNeg a1)))] H := hP
      have hD : va_D A [(h_z, .inr (6, [.int v_z_orders, .ref h_zo, .ref h_za, .ref h_zb, .ref h_zc, .ref h_zk, .int v_z_hasBest, .ref h_ze, .int v_z_asked, .ref h_zn, .int v_z_tick, .int v_z_end, .int v_z_tellMany, .ref h_zt, .int v_z_flipCell, .int v_z_flipWide, .int v_z_sortOf, .int v_z_isStruck, .int v_z_wasRead, .int v_z_isCaught, .int v_z_lookCell, .int v_z_lookFrom, .int v_z_firstUse, .int v_z_plainEnd, .int v_z_plainTicks, .int v_z_plainMany, .ref h_zp, .ref h_zh, .ref h_zs, .long v_z_h])), (h_zc, .inl (cI, 8, .inl (upd v_zc a0.toNatClampNeg a1)))] := hD
      refine lv_iload_n hx hb dX7_cell_38 rfl (lv_at hl 0 rfl) ?_
      cases h
      exact r_i X hP hD hS rfl dX7_cell_39
    · have h := x_p c_4 h
      refine lv_bipush (v := (-102 : Int32)) hx hb dX7_cell_21 (by decide) ?_
      cases h
      exact r_i X hP hD hS rfl dX7_cell_23
  · have h := x_p c_2 h
    refine lv_bipush (v := (-101 : Int32)) hx hb dX7_cell_7 (by decide) ?_
    cases h
    exact r_i X hP hD hS rfl dX7_cell_9

theorem q_X7_check_0 : (.fieldLink RX7 22 "StruckBitsModel" "checks" "[I" : Cond) ∈ wsX7_check := by decide +kernel
theorem i_X7_check_X7 : ∀ w ∈ u_ws RX7 TX7 30, w ∈ wsX7_check := by decide +kernel
set_option maxHeartbeats 4000000 in
set_option maxRecDepth 100000 in
theorem m_X7_check (l : Launch) (D : va_G) (cI : ClassId) (pt : Nat) (h_z h_zo h_za h_zb h_zc h_zk h_ze h_zn h_zt h_zp h_zh h_zs : Nat) (v_z_orders : Int32) (v_z_hasBest : Int32) (v_z_asked : Int32) (v_z_tick : Int32) (v_z_end : Int32) (v_z_tellMany : Int32) (v_z_flipCell : Int32) (v_z_flipWide : Int32) (v_z_sortOf : Int32) (v_z_isStruck : Int32) (v_z_wasRead : Int32) (v_z_isCaught : Int32) (v_z_lookCell : Int32) (v_z_lookFrom : Int32) (v_z_firstUse : Int32) (v_z_plainEnd : Int32) (v_z_plainTicks : Int32) (v_z_plainMany : Int32) (v_z_h : Int64) (v_zk : Nat → Int32) (a0 : Int32) (a1 : Int32) (fu : Nat) (res : Int32 × (Nat → Int32)) (h : f_X7_check fu v_zk a0 a1 = some res) :
    MT l D cI pt yX7_check wsX7_check ({ frames := 2, cells := 0, slots := 0, locals := 42 } : Room) [.ref h_z, .int a0, .int a1] [(h_z, .inr (6, [.int v_z_orders, .ref h_zo, .ref h_za, .ref h_zb, .ref h_zc, .ref h_zk, .int v_z_hasBest, .ref h_ze, .int v_z_asked, .ref h_zn, .int v_z_tick, .int v_z_end, .int v_z_tellMany, .ref h_zt, .int v_z_flipCell, .int v_z_flipWide, .int v_z_sortOf, .int v_z_isStruck, .int v_z_wasRead, .int v_z_isCaught, .int v_z_lookCell, .int v_z_lookFrom, .int v_z_firstUse, .int v_z_plainEnd, .int v_z_plainTicks, .int v_z_plainMany, .ref h_zp, .ref h_zh, .ref h_zs, .long v_z_h])), (h_zk, .inl (cI, 8, .inl v_zk))] (some (.int res.1)) [(h_z, .inr (6, [.int v_z_orders, .ref h_zo, .ref h_za, .ref h_zb, .ref h_zc, .ref h_zk, .int v_z_hasBest, .ref h_ze, .int v_z_asked, .ref h_zn, .int v_z_tick, .int v_z_end, .int v_z_tellMany, .ref h_zt, .int v_z_flipCell, .int v_z_flipWide, .int v_z_sortOf, .int v_z_isStruck, .int v_z_wasRead, .int v_z_isCaught, .int v_z_lookCell, .int v_z_lookFrom, .int v_z_firstUse, .int v_z_plainEnd, .int v_z_plainTicks, .int v_z_plainMany, .ref h_zp, .ref h_zh, .ref h_zs, .long v_z_h])), (h_zk, .inl (cI, 8, .inl res.2))] := by
  refine MT.mk (cc := cX7_check) (maxL := 4) (ret := (some .int)) (own := RX7) (by decide) rfl rfl (Nat.le_of_ble_eq_true rfl) rfl ?_
  intro p e s m args below meth c A ls X hP hD hS hl
  obtain ⟨hx, hb, hml, hown, hts, hr, hlk, hE, hH, hA⟩ := id X
  have hl : lv_has ls 4 [(0, .ref h_z), (1, .int a0), (2, .int a1)] := hl
  unfold f_X7_check at h
  refine lv_iload_n hx hb dX7_check_0 rfl (lv_at hl 1 rfl) ?_
  obtain ⟨t_1, hc, h⟩ := x_b h
  refine c_S (na := 1) (rest := []) (st1 := [.int t_1]) (Wr := [(h_z, .inr (6, [.int v_z_orders, .ref h_zo, .ref h_za, .ref h_zb, .ref h_zc, .ref h_zk, .int v_z_hasBest, .ref h_ze, .int v_z_asked, .ref h_zn, .int v_z_tick, .int v_z_end, .int v_z_tellMany, .ref h_zt, .int v_z_flipCell, .int v_z_flipWide, .int v_z_sortOf, .int v_z_isStruck, .int v_z_wasRead, .int v_z_isCaught, .int v_z_lookCell, .int v_z_lookFrom, .int v_z_firstUse, .int v_z_plainEnd, .int v_z_plainTicks, .int v_z_plainMany, .ref h_zp, .ref h_zh, .ref h_zs, .long v_z_h])), (h_zk, .inl (cI, 8, .inl v_zk))]) (Wn := [(h_z, .inr (6, [.int v_z_orders, .ref h_zo, .ref h_za, .ref h_zb, .ref h_zc, .ref h_zk, .int v_z_hasBest, .ref h_ze, .int v_z_asked, .ref h_zn, .int v_z_tick, .int v_z_end, .int v_z_tellMany, .ref h_zt, .int v_z_flipCell, .int v_z_flipWide, .int v_z_sortOf, .int v_z_isStruck, .int v_z_wasRead, .int v_z_isCaught, .int v_z_lookCell, .int v_z_lookFrom, .int v_z_firstUse, .int v_z_plainEnd, .int v_z_plainTicks, .int v_z_plainMany, .ref h_zp, .ref h_zh, .ref h_zs, .long v_z_h])), (h_zk, .inl (cI, 8, .inl v_zk))]) X hP hD hS hl.1 (m_X7_isCell l D cI pt   a0 fu _ hc) gX7_check_X7_isCell rfl ⟨rfl, rfl⟩ rfl (by decide +kernel) ⟨Nat.le_of_ble_eq_true rfl, Nat.le_of_ble_eq_true rfl⟩ [] [0, 1] [0, 1] rfl rfl rfl rfl (by decide) rfl rfl (Nat.le_of_ble_eq_true rfl) dX7_check_1 ⟨Nat.zero_le _, Nat.zero_le _⟩ rfl rfl (fun H locs hP hD hS => ?_)
  refine lv_if_ne (tgt := 10) hx hb dX7_check_4 (by decide) (fun c_2 => ?_) (fun c_2 => ?_)
  · have h := x_n c_2 h
    refine lv_iload_n hx hb dX7_check_10 rfl (lv_at hl 2 rfl) ?_
    refine lv_iconst (v := (0 : Int32)) hx hb dX7_check_11 (by decide) ?_
    refine lv_iconst (v := (3 : Int32)) hx hb dX7_check_12 (by decide) ?_
    obtain ⟨t_3, hc, h⟩ := x_b h
    refine c_S (na := 3) (rest := []) (st1 := [.int t_3]) (Wr := [(h_z, .inr (6, [.int v_z_orders, .ref h_zo, .ref h_za, .ref h_zb, .ref h_zc, .ref h_zk, .int v_z_hasBest, .ref h_ze, .int v_z_asked, .ref h_zn, .int v_z_tick, .int v_z_end, .int v_z_tellMany, .ref h_zt, .int v_z_flipCell, .int v_z_flipWide, .int v_z_sortOf, .int v_z_isStruck, .int v_z_wasRead, .int v_z_isCaught, .int v_z_lookCell, .int v_z_lookFrom, .int v_z_firstUse, .int v_z_plainEnd, .int v_z_plainTicks, .int v_z_plainMany, .ref h_zp, .ref h_zh, .ref h_zs, .long v_z_h])), (h_zk, .inl (cI, 8, .inl v_zk))]) (Wn := [(h_z, .inr (6, [.int v_z_orders, .ref h_zo, .ref h_za, .ref h_zb, .ref h_zc, .ref h_zk, .int v_z_hasBest, .ref h_ze, .int v_z_asked, .ref h_zn, .int v_z_tick, .int v_z_end, .int v_z_tellMany, .ref h_zt, .int v_z_flipCell, .int v_z_flipWide, .int v_z_sortOf, .int v_z_isStruck, .int v_z_wasRead, .int v_z_isCaught, .int v_z_lookCell, .int v_z_lookFrom, .int v_z_firstUse, .int v_z_plainEnd, .int v_z_plainTicks, .int v_z_plainMany, .ref h_zp, .ref h_zh, .ref h_zs, .long v_z_h])), (h_zk, .inl (cI, 8, .inl v_zk))]) X hP hD hS hl.1 (m_X7_in l D cI pt   a1 (0 : Int32) (3 : Int32) fu _ hc) gX7_check_X7_in rfl ⟨rfl, rfl⟩ rfl (by decide +kernel) ⟨Nat.le_of_ble_eq_true rfl, Nat.le_of_ble_eq_true rfl⟩ [] [0, 1] [0, 1] rfl rfl rfl rfl (by decide) rfl rfl (Nat.le_of_ble_eq_true rfl) dX7_check_13 ⟨Nat.zero_le _, Nat.zero_le _⟩ rfl rfl (fun H locs hP hD hS => ?_)
    refine lv_if_ne (tgt := 22) hx hb dX7_check_16 (by decide) (fun c_4 => ?_) (fun c_4 => ?_)
    · have h := x_n c_4 h
      refine lv_aload_n hx hb dX7_check_22 rfl (lv_at hl 0 rfl) ?_
      refine va_get (D := D) (ci := 6) (v := .ref h_zk) (C := RX7) (T := TX7) (N := 30) hx hb hts i_X7_check_X7 hown hE.1 hP 0 rfl rfl 5 (by decide) (hts _ q_X7_check_0) (fun _ h9 => h9) rfl dX7_check_23 ?_
      refine lv_iload_n hx hb dX7_check_26 rfl (lv_at hl 1 rfl) ?_
      obtain ⟨g_5, h⟩ := x_gd h
      refine va_iald hx hb hE.1 hP 1 0 rfl rfl g_5 dX7_check_27 ?_
      refine lv_istore_n (lv' := [(3, .int (v_zk a0.toNatClampNeg)), (0, .ref h_z), (1, .int a0), (2, .int a1)]) hx hb dX7_check_28 rfl hl (by decide) rfl (fun ls hl => ?_)
      refine lv_aload_n hx hb dX7_check_29 rfl (lv_at hl 1 rfl) ?_
      refine va_get (D := D) (ci := 6) (v := .ref h_zk) (C := RX7) (T := TX7) (N := 30) hx hb hts i_X7_check_X7 hown hE.1 hP 0 rfl rfl 5 (by decide) (hts _ q_X7_check_0) (fun _ h9 => h9) rfl dX7_check_30 ?_
      refine lv_iload_n hx hb dX7_check_33 rfl (lv_at hl 2 rfl) ?_
      refine lv_iload_n hx hb dX7_check_34 rfl (lv_at hl 3 rfl) ?_
      obtain ⟨g_6, h⟩ := x_gd h
      refine va_iast hx hb hE.1 hP hD hS 1 0 rfl rfl g_6 dX7_check_35 (fun H locs hP hD hS => ?_)
      have hP : va_P D vwCl [(h_z, .inr (6, [.int v_z_orders, .ref h_zo, .ref h_za, .ref h_zb, .ref h_zc, .ref h_zk, .int v_z_hasBest, .ref h_ze, .int v_z_asked, .ref h_zn, .int v_z_tick, .int v_z_end, .int v_z_tellMany, .ref h_zt, .int v_z_flipCell, .int v_z_flipWide, .int v_z_sortOf, .int v_z_isStruck, .int v_z_wasRead, .int v_z_isCaught, .int v_z_lookCell, .int v_z_lookFrom, .int v_z_firstUse, .int v_z_plainEnd, .int v_z_plainTicks, .int v_z_plainMany, .ref h_zp, .ref h_zh, .ref h_zs, .long v_z_h])), (h_zk, .inl (cI, 8, .inl (upd v_zk a0.toNatClampNeg a1)))] H := hP
      have hD : va_D A [(h_z, .inr (6, [.int v_z_orders, .ref h_zo, .ref h_za, .ref h_zb, .ref h_zc, .ref h_zk, .int v_z_hasBest, .ref h_ze, .int v_z_asked, .ref h_zn, .int v_z_tick, .int v_z_end, .int v_z_tellMany, .ref h_zt, .int v_z_flipCell, .int v_z_flipWide, .int v_z_sortOf, .int v_z_isStruck, .int v_z_wasRead, .int v_z_isCaught, .int v_z_lookCell, .int v_z_lookFrom, .int v_z_firstUse, .int v_z_plainEnd, .int v_z_plainTicks, .int v_z_plainMany, .ref h_zp, .ref h_zh, .ref h_zs, .long v_z_h])), (h_zk, .inl (cI, 8, .inl (upd v_zk a0.toNatClampNeg a1)))] := hD
      refine lv_iload_n hx hb dX7_check_36 rfl (lv_at hl 0 rfl) ?_
      cases h
      exact r_i X hP hD hS rfl dX7_check_37
    · have h := x_p c_4 h
      refine lv_bipush (v := (-102 : Int32)) hx hb dX7_check_19 (by decide) ?_
      cases h
      exact r_i X hP hD hS rfl dX7_check_21
  · have h := x_p c_2 h
    refine lv_bipush (v := (-101 : Int32)) hx hb dX7_check_7 (by decide) ?_
    cases h
    exact r_i X hP hD hS rfl dX7_check_9

theorem q_X7_read_0 : (.fieldLink RX7 68 "StruckBitsModel" "lookCell" "I" : Cond) ∈ wsX7_read := by decide +kernel
theorem i_X7_read_X7 : ∀ w ∈ u_ws RX7 TX7 30, w ∈ wsX7_read := by decide +kernel
theorem q_X7_read_2 : (.fieldLink RX7 80 "StruckBitsModel" "flipCell" "I" : Cond) ∈ wsX7_read := by decide +kernel
theorem q_X7_read_3 : (.fieldLink RX7 83 "StruckBitsModel" "isStruck" "Z" : Cond) ∈ wsX7_read := by decide +kernel
theorem q_X7_read_4 : (.fieldLink RX7 87 "StruckBitsModel" "wasRead" "Z" : Cond) ∈ wsX7_read := by decide +kernel
theorem q_X7_read_5 : (.fieldLink RX7 90 "StruckBitsModel" "isCaught" "Z" : Cond) ∈ wsX7_read := by decide +kernel
theorem q_X7_read_6 : (.fieldLink RX7 93 "StruckBitsModel" "sortOf" "I" : Cond) ∈ wsX7_read := by decide +kernel
theorem q_X7_read_7 : (.fieldLink RX7 96 "StruckBitsModel" "flipWide" "I" : Cond) ∈ wsX7_read := by decide +kernel
theorem q_X7_read_8 : (.fieldLink RX7 71 "StruckBitsModel" "tick" "I" : Cond) ∈ wsX7_read := by decide +kernel
theorem q_X7_read_9 : (.fieldLink RX7 74 "StruckBitsModel" "lookFrom" "I" : Cond) ∈ wsX7_read := by decide +kernel
theorem q_X7_read_10 : (.fieldLink RX7 77 "StruckBitsModel" "firstUse" "I" : Cond) ∈ wsX7_read := by decide +kernel
set_option maxHeartbeats 4000000 in
set_option maxRecDepth 100000 in
theorem tr_X7_read_31 {p : Program} {l : Launch} {e : Env} {s : State} {m : MethodId} {args : Array Value} {below : List Frame} {meth : Method} {c : Code} {D : va_G} {cI : ClassId} {pt : Nat} {A : Nat → Prop} (X : CX p s m args meth c D cI pt A cX7_read 2 none wsX7_read RX7) (h_z h_zo h_za h_zb h_zc h_zk h_ze h_zn h_zt h_zp h_zh h_zs : Nat) (v_z_orders : Int32) (v_z_hasBest : Int32) (v_z_asked : Int32) (v_z_tick : Int32) (v_z_end : Int32) (v_z_tellMany : Int32) (v_z_flipCell : Int32) (v_z_flipWide : Int32) (v_z_sortOf : Int32) (v_z_isStruck : Int32) (v_z_lookCell : Int32) (v_z_lookFrom : Int32) (v_z_plainEnd : Int32) (v_z_plainTicks : Int32) (v_z_plainMany : Int32) (v_z_h : Int64)   (fu : Nat)  (res : Int32 × Int32 × Int32)  :
    ∀ (u31_z_wasRead : Int32) (u31_z_isCaught : Int32) (u31_z_firstUse : Int32) (y31_1 : Int32), fr_X7_read_31 fu v_z_flipCell v_z_flipWide v_z_sortOf v_z_isStruck   u31_z_wasRead u31_z_isCaught u31_z_firstUse y31_1 = some res → ∀ (H : Heap) (locs : List Loc) (ls : Array Slot), va_P D vwCl [(h_z, .inr (6, [.int v_z_orders, .ref h_zo, .ref h_za, .ref h_zb, .ref h_zc, .ref h_zk, .int v_z_hasBest, .ref h_ze, .int v_z_asked, .ref h_zn, .int v_z_tick, .int v_z_end, .int v_z_tellMany, .ref h_zt, .int v_z_flipCell, .int v_z_flipWide, .int v_z_sortOf, .int v_z_isStruck, .int u31_z_wasRead, .int u31_z_isCaught, .int v_z_lookCell, .int v_z_lookFrom, .int u31_z_firstUse, .int v_z_plainEnd, .int v_z_plainTicks, .int v_z_plainMany, .ref h_zp, .ref h_zh, .ref h_zs, .long v_z_h]))] H → va_D A [(h_z, .inr (6, [.int v_z_orders, .ref h_zo, .ref h_za, .ref h_zb, .ref h_zc, .ref h_zk, .int v_z_hasBest, .ref h_ze, .int v_z_asked, .ref h_zn, .int v_z_tick, .int v_z_end, .int v_z_tellMany, .ref h_zt, .int v_z_flipCell, .int v_z_flipWide, .int v_z_sortOf, .int v_z_isStruck, .int u31_z_wasRead, .int u31_z_isCaught, .int v_z_lookCell, .int v_z_lookFrom, .int u31_z_firstUse, .int v_z_plainEnd, .int v_z_plainTicks, .int v_z_plainMany, .ref h_zp, .ref h_zh, .ref h_zs, .long v_z_h]))] → va_S A s.heap H locs → lv_has ls 2 [(0, .ref h_z), (1, .int y31_1)] → W p l e ({ frames := 0, cells := 0, slots := 0, locals := 0 } : Room) s m args below meth c H locs 0 0 (MQ below (Qg D A none [(h_z, .inr (6, [.int v_z_orders, .ref h_zo, .ref h_za, .ref h_zb, .ref h_zc, .ref h_zk, .int v_z_hasBest, .ref h_ze, .int v_z_asked, .ref h_zn, .int v_z_tick, .int v_z_end, .int v_z_tellMany, .ref h_zt, .int v_z_flipCell, .int v_z_flipWide, .int v_z_sortOf, .int v_z_isStruck, .int res.1, .int res.2.1, .int v_z_lookCell, .int v_z_lookFrom, .int res.2.2, .int v_z_plainEnd, .int v_z_plainTicks, .int v_z_plainMany, .ref h_zp, .ref h_zh, .ref h_zs, .long v_z_h]))]) args s 0 0 A) (F0 m 31 ls []) := by
  obtain ⟨hx, hb, hml, hown, hts, hr, hlk, hE, hH, hA⟩ := id X
  intro u31_z_wasRead u31_z_isCaught u31_z_firstUse y31_1 h H locs ls hP hD hS hl
  unfold fr_X7_read_31 at h
  refine lv_iload_n hx hb dX7_read_31 rfl (lv_at hl 1 rfl) ?_
  refine lv_aload_n hx hb dX7_read_32 rfl (lv_at hl 0 rfl) ?_
  refine va_get (D := D) (ci := 6) (v := .int v_z_flipCell) (C := RX7) (T := TX7) (N := 30) hx hb hts i_X7_read_X7 hown hE.1 hP 0 rfl rfl 14 (by decide) (hts _ q_X7_read_2) (fun _ h9 => h9) rfl dX7_read_33 ?_
  refine lv_icmp_ne (tgt := 91) hx hb dX7_read_36 (by decide) (fun c_2 => ?_) (fun c_2 => ?_)
  · have h := x_n c_2 h
    cases h
    exact r_v X hP hD hS rfl dX7_read_91
  · have h := x_p c_2 h
    refine lv_aload_n hx hb dX7_read_39 rfl (lv_at hl 0 rfl) ?_
    refine va_get (D := D) (ci := 6) (v := .int v_z_isStruck) (C := RX7) (T := TX7) (N := 30) hx hb hts i_X7_read_X7 hown hE.1 hP 0 rfl rfl 17 (by decide) (hts _ q_X7_read_3) (fun _ h9 => h9) rfl dX7_read_40 ?_
    refine lv_if_eq (tgt := 91) hx hb dX7_read_43 (by decide) (fun c_3 => ?_) (fun c_3 => ?_)
    · have h := x_p c_3 h
      cases h
      exact r_v X hP hD hS rfl dX7_read_91
    · have h := x_n c_3 h
      refine lv_aload_n hx hb dX7_read_46 rfl (lv_at hl 0 rfl) ?_
      refine lv_iconst (v := (1 : Int32)) hx hb dX7_read_47 (by decide) ?_
      refine va_put (D := D) (ci := 6) (v := .int (1 : Int32)) (ty := .boolean) (C := RX7) (T := TX7) (N := 30) hx hb hts i_X7_read_X7 tyX7 tyX7_ok nmX7 hown hE.1 hP hD hS 0 rfl rfl 18 (by decide) (hts _ q_X7_read_4) (fun _ h9 => h9) rfl (by decide +kernel) rfl rfl (Nat.le_of_ble_eq_true rfl) dX7_read_48 (fun H locs hP hD hS => ?_)
      have hP : va_P D vwCl [(h_z, .inr (6, [.int v_z_orders, .ref h_zo, .ref h_za, .ref h_zb, .ref h_zc, .ref h_zk, .int v_z_hasBest, .ref h_ze, .int v_z_asked, .ref h_zn, .int v_z_tick, .int v_z_end, .int v_z_tellMany, .ref h_zt, .int v_z_flipCell, .int v_z_flipWide, .int v_z_sortOf, .int v_z_isStruck, .int (1 : Int32), .int u31_z_isCaught, .int v_z_lookCell, .int v_z_lookFrom, .int u31_z_firstUse, .int v_z_plainEnd, .int v_z_plainTicks, .int v_z_plainMany, .ref h_zp, .ref h_zh, .ref h_zs, .long v_z_h]))] H := hP
      have hD : va_D A [(h_z, .inr (6, [.int v_z_orders, .ref h_zo, .ref h_za, .ref h_zb, .ref h_zc, .ref h_zk, .int v_z_hasBest, .ref h_ze, .int v_z_asked, .ref h_zn, .int v_z_tick, .int v_z_end, .int v_z_tellMany, .ref h_zt, .int v_z_flipCell, .int v_z_flipWide, .int v_z_sortOf, .int v_z_isStruck, .int (1 : Int32), .int u31_z_isCaught, .int v_z_lookCell, .int v_z_lookFrom, .int u31_z_firstUse, .int v_z_plainEnd, .int v_z_plainTicks, .int v_z_plainMany, .ref h_zp, .ref h_zh, .ref h_zs, .long v_z_h]))] := hD
      refine lv_aload_n hx hb dX7_read_51 rfl (lv_at hl 0 rfl) ?_
      refine lv_aload_n hx hb dX7_read_52 rfl (lv_at hl 0 rfl) ?_
      refine va_get (D := D) (ci := 6) (v := .int u31_z_isCaught) (C := RX7) (T := TX7) (N := 30) hx hb hts i_X7_read_X7 hown hE.1 hP 0 rfl rfl 19 (by decide) (hts _ q_X7_read_5) (fun _ h9 => h9) rfl dX7_read_53 ?_
      refine lv_if_ne (tgt := 83) hx hb dX7_read_56 (by decide) (fun c_4 => ?_) (fun c_4 => ?_)
      · have h := x_n c_4 h
        refine lv_iconst (v := (1 : Int32)) hx hb dX7_read_83 (by decide) ?_
        refine lv_goto (tgt := 88) hx hb dX7_read_84 (by decide) ?_
        refine va_put (D := D) (ci := 6) (v := .int (1 : Int32)) (ty := .boolean) (C := RX7) (T := TX7) (N := 30) hx hb hts i_X7_read_X7 tyX7 tyX7_ok nmX7 hown hE.1 hP hD hS 0 rfl rfl 19 (by decide) (hts _ q_X7_read_5) (fun _ h9 => h9) rfl (by decide +kernel) rfl rfl (Nat.le_of_ble_eq_true rfl) dX7_read_88 (fun H locs hP hD hS => ?_)
        have hP : va_P D vwCl [(h_z, .inr (6, [.int v_z_orders, .ref h_zo, .ref h_za, .ref h_zb, .ref h_zc, .ref h_zk, .int v_z_hasBest, .ref h_ze, .int v_z_asked, .ref h_zn, .int v_z_tick, .int v_z_end, .int v_z_tellMany, .ref h_zt, .int v_z_flipCell, .int v_z_flipWide, .int v_z_sortOf, .int v_z_isStruck, .int (1 : Int32), .int (1 : Int32), .int v_z_lookCell, .int v_z_lookFrom, .int u31_z_firstUse, .int v_z_plainEnd, .int v_z_plainTicks, .int v_z_plainMany, .ref h_zp, .ref h_zh, .ref h_zs, .long v_z_h]))] H := hP
        have hD : va_D A [(h_z, .inr (6, [.int v_z_orders, .ref h_zo, .ref h_za, .ref h_zb, .ref h_zc, .ref h_zk, .int v_z_hasBest, .ref h_ze, .int v_z_asked, .ref h_zn, .int v_z_tick, .int v_z_end, .int v_z_tellMany, .ref h_zt, .int v_z_flipCell, .int v_z_flipWide, .int v_z_sortOf, .int v_z_isStruck, .int (1 : Int32), .int (1 : Int32), .int v_z_lookCell, .int v_z_lookFrom, .int u31_z_firstUse, .int v_z_plainEnd, .int v_z_plainTicks, .int v_z_plainMany, .ref h_zp, .ref h_zh, .ref h_zs, .long v_z_h]))] := hD
        cases h
        exact r_v X hP hD hS rfl dX7_read_91
      · have h := x_p c_4 h
        refine lv_aload_n hx hb dX7_read_59 rfl (lv_at hl 0 rfl) ?_
        refine va_get (D := D) (ci := 6) (v := .int v_z_sortOf) (C := RX7) (T := TX7) (N := 30) hx hb hts i_X7_read_X7 hown hE.1 hP 0 rfl rfl 16 (by decide) (hts _ q_X7_read_6) (fun _ h9 => h9) rfl dX7_read_60 ?_
        refine lv_iconst (v := (1 : Int32)) hx hb dX7_read_63 (by decide) ?_
        refine lv_icmp_ne (tgt := 75) hx hb dX7_read_64 (by decide) (fun c_5 => ?_) (fun c_5 => ?_)
        · have h := x_n c_5 h
          refine lv_aload_n hx hb dX7_read_75 rfl (lv_at hl 0 rfl) ?_
          refine va_get (D := D) (ci := 6) (v := .int v_z_sortOf) (C := RX7) (T := TX7) (N := 30) hx hb hts i_X7_read_X7 hown hE.1 hP 0 rfl rfl 16 (by decide) (hts _ q_X7_read_6) (fun _ h9 => h9) rfl dX7_read_76 ?_
          refine lv_iconst (v := (2 : Int32)) hx hb dX7_read_79 (by decide) ?_
          refine lv_icmp_ne (tgt := 87) hx hb dX7_read_80 (by decide) (fun c_6 => ?_) (fun c_6 => ?_)
          · have h := x_n c_6 h
            refine lv_iconst (v := (0 : Int32)) hx hb dX7_read_87 (by decide) ?_
            refine va_put (D := D) (ci := 6) (v := .int (0 : Int32)) (ty := .boolean) (C := RX7) (T := TX7) (N := 30) hx hb hts i_X7_read_X7 tyX7 tyX7_ok nmX7 hown hE.1 hP hD hS 0 rfl rfl 19 (by decide) (hts _ q_X7_read_5) (fun _ h9 => h9) rfl (by decide +kernel) rfl rfl (Nat.le_of_ble_eq_true rfl) dX7_read_88 (fun H locs hP hD hS => ?_)
            have hP : va_P D vwCl [(h_z, .inr (6, [.int v_z_orders, .ref h_zo, .ref h_za, .ref h_zb, .ref h_zc, .ref h_zk, .int v_z_hasBest, .ref h_ze, .int v_z_asked, .ref h_zn, .int v_z_tick, .int v_z_end, .int v_z_tellMany, .ref h_zt, .int v_z_flipCell, .int v_z_flipWide, .int v_z_sortOf, .int v_z_isStruck, .int (1 : Int32), .int (0 : Int32), .int v_z_lookCell, .int v_z_lookFrom, .int u31_z_firstUse, .int v_z_plainEnd, .int v_z_plainTicks, .int v_z_plainMany, .ref h_zp, .ref h_zh, .ref h_zs, .long v_z_h]))] H := hP
            have hD : va_D A [(h_z, .inr (6, [.int v_z_orders, .ref h_zo, .ref h_za, .ref h_zb, .ref h_zc, .ref h_zk, .int v_z_hasBest, .ref h_ze, .int v_z_asked, .ref h_zn, .int v_z_tick, .int v_z_end, .int v_z_tellMany, .ref h_zt, .int v_z_flipCell, .int v_z_flipWide, .int v_z_sortOf, .int v_z_isStruck, .int (1 : Int32), .int (0 : Int32), .int v_z_lookCell, .int v_z_lookFrom, .int u31_z_firstUse, .int v_z_plainEnd, .int v_z_plainTicks, .int v_z_plainMany, .ref h_zp, .ref h_zh, .ref h_zs, .long v_z_h]))] := hD
            cases h
            exact r_v X hP hD hS rfl dX7_read_91
          · have h := x_p c_6 h
            refine lv_iconst (v := (1 : Int32)) hx hb dX7_read_83 (by decide) ?_
            refine lv_goto (tgt := 88) hx hb dX7_read_84 (by decide) ?_
            refine va_put (D := D) (ci := 6) (v := .int (1 : Int32)) (ty := .boolean) (C := RX7) (T := TX7) (N := 30) hx hb hts i_X7_read_X7 tyX7 tyX7_ok nmX7 hown hE.1 hP hD hS 0 rfl rfl 19 (by decide) (hts _ q_X7_read_5) (fun _ h9 => h9) rfl (by decide +kernel) rfl rfl (Nat.le_of_ble_eq_true rfl) dX7_read_88 (fun H locs hP hD hS => ?_)
            have hP : va_P D vwCl [(h_z, .inr (6, [.int v_z_orders, .ref h_zo, .ref h_za, .ref h_zb, .ref h_zc, .ref h_zk, .int v_z_hasBest, .ref h_ze, .int v_z_asked, .ref h_zn, .int v_z_tick, .int v_z_end, .int v_z_tellMany, .ref h_zt, .int v_z_flipCell, .int v_z_flipWide, .int v_z_sortOf, .int v_z_isStruck, .int (1 : Int32), .int (1 : Int32), .int v_z_lookCell, .int v_z_lookFrom, .int u31_z_firstUse, .int v_z_plainEnd, .int v_z_plainTicks, .int v_z_plainMany, .ref h_zp, .ref h_zh, .ref h_zs, .long v_z_h]))] H := hP
            have hD : va_D A [(h_z, .inr (6, [.int v_z_orders, .ref h_zo, .ref h_za, .ref h_zb, .ref h_zc, .ref h_zk, .int v_z_hasBest, .ref h_ze, .int v_z_asked, .ref h_zn, .int v_z_tick, .int v_z_end, .int v_z_tellMany, .ref h_zt, .int v_z_flipCell, .int v_z_flipWide, .int v_z_sortOf, .int v_z_isStruck, .int (1 : Int32), .int (1 : Int32), .int v_z_lookCell, .int v_z_lookFrom, .int u31_z_firstUse, .int v_z_plainEnd, .int v_z_plainTicks, .int v_z_plainMany, .ref h_zp, .ref h_zh, .ref h_zs, .long v_z_h]))] := hD
            cases h
            exact r_v X hP hD hS rfl dX7_read_91
        · have h := x_p c_5 h
          refine lv_aload_n hx hb dX7_read_67 rfl (lv_at hl 0 rfl) ?_
          refine va_get (D := D) (ci := 6) (v := .int v_z_flipWide) (C := RX7) (T := TX7) (N := 30) hx hb hts i_X7_read_X7 hown hE.1 hP 0 rfl rfl 15 (by decide) (hts _ q_X7_read_7) (fun _ h9 => h9) rfl dX7_read_68 ?_
          refine lv_iconst (v := (1 : Int32)) hx hb dX7_read_71 (by decide) ?_
          refine lv_icmp_eq (tgt := 83) hx hb dX7_read_72 (by decide) (fun c_7 => ?_) (fun c_7 => ?_)
          · have h := x_p c_7 h
            refine lv_iconst (v := (1 : Int32)) hx hb dX7_read_83 (by decide) ?_
            refine lv_goto (tgt := 88) hx hb dX7_read_84 (by decide) ?_
            refine va_put (D := D) (ci := 6) (v := .int (1 : Int32)) (ty := .boolean) (C := RX7) (T := TX7) (N := 30) hx hb hts i_X7_read_X7 tyX7 tyX7_ok nmX7 hown hE.1 hP hD hS 0 rfl rfl 19 (by decide) (hts _ q_X7_read_5) (fun _ h9 => h9) rfl (by decide +kernel) rfl rfl (Nat.le_of_ble_eq_true rfl) dX7_read_88 (fun H locs hP hD hS => ?_)
            have hP : va_P D vwCl [(h_z, .inr (6, [.int v_z_orders, .ref h_zo, .ref h_za, .ref h_zb, .ref h_zc, .ref h_zk, .int v_z_hasBest, .ref h_ze, .int v_z_asked, .ref h_zn, .int v_z_tick, .int v_z_end, .int v_z_tellMany, .ref h_zt, .int v_z_flipCell, .int v_z_flipWide, .int v_z_sortOf, .int v_z_isStruck, .int (1 : Int32), .int (1 : Int32), .int v_z_lookCell, .int v_z_lookFrom, .int u31_z_firstUse, .int v_z_plainEnd, .int v_z_plainTicks, .int v_z_plainMany, .ref h_zp, .ref h_zh, .ref h_zs, .long v_z_h]))] H := hP
            have hD : va_D A [(h_z, .inr (6, [.int v_z_orders, .ref h_zo, .ref h_za, .ref h_zb, .ref h_zc, .ref h_zk, .int v_z_hasBest, .ref h_ze, .int v_z_asked, .ref h_zn, .int v_z_tick, .int v_z_end, .int v_z_tellMany, .ref h_zt, .int v_z_flipCell, .int v_z_flipWide, .int v_z_sortOf, .int v_z_isStruck, .int (1 : Int32), .int (1 : Int32), .int v_z_lookCell, .int v_z_lookFrom, .int u31_z_firstUse, .int v_z_plainEnd, .int v_z_plainTicks, .int v_z_plainMany, .ref h_zp, .ref h_zh, .ref h_zs, .long v_z_h]))] := hD
            cases h
            exact r_v X hP hD hS rfl dX7_read_91
          · have h := x_n c_7 h
            refine lv_aload_n hx hb dX7_read_75 rfl (lv_at hl 0 rfl) ?_
            refine va_get (D := D) (ci := 6) (v := .int v_z_sortOf) (C := RX7) (T := TX7) (N := 30) hx hb hts i_X7_read_X7 hown hE.1 hP 0 rfl rfl 16 (by decide) (hts _ q_X7_read_6) (fun _ h9 => h9) rfl dX7_read_76 ?_
            refine lv_iconst (v := (2 : Int32)) hx hb dX7_read_79 (by decide) ?_
            refine lv_icmp_ne (tgt := 87) hx hb dX7_read_80 (by decide) (fun c_8 => ?_) (fun c_8 => ?_)
            · have h := x_n c_8 h
              refine lv_iconst (v := (0 : Int32)) hx hb dX7_read_87 (by decide) ?_
              refine va_put (D := D) (ci := 6) (v := .int (0 : Int32)) (ty := .boolean) (C := RX7) (T := TX7) (N := 30) hx hb hts i_X7_read_X7 tyX7 tyX7_ok nmX7 hown hE.1 hP hD hS 0 rfl rfl 19 (by decide) (hts _ q_X7_read_5) (fun _ h9 => h9) rfl (by decide +kernel) rfl rfl (Nat.le_of_ble_eq_true rfl) dX7_read_88 (fun H locs hP hD hS => ?_)
              have hP : va_P D vwCl [(h_z, .inr (6, [.int v_z_orders, .ref h_zo, .ref h_za, .ref h_zb, .ref h_zc, .ref h_zk, .int v_z_hasBest, .ref h_ze, .int v_z_asked, .ref h_zn, .int v_z_tick, .int v_z_end, .int v_z_tellMany, .ref h_zt, .int v_z_flipCell, .int v_z_flipWide, .int v_z_sortOf, .int v_z_isStruck, .int (1 : Int32), .int (0 : Int32), .int v_z_lookCell, .int v_z_lookFrom, .int u31_z_firstUse, .int v_z_plainEnd, .int v_z_plainTicks, .int v_z_plainMany, .ref h_zp, .ref h_zh, .ref h_zs, .long v_z_h]))] H := hP
              have hD : va_D A [(h_z, .inr (6, [.int v_z_orders, .ref h_zo, .ref h_za, .ref h_zb, .ref h_zc, .ref h_zk, .int v_z_hasBest, .ref h_ze, .int v_z_asked, .ref h_zn, .int v_z_tick, .int v_z_end, .int v_z_tellMany, .ref h_zt, .int v_z_flipCell, .int v_z_flipWide, .int v_z_sortOf, .int v_z_isStruck, .int (1 : Int32), .int (0 : Int32), .int v_z_lookCell, .int v_z_lookFrom, .int u31_z_firstUse, .int v_z_plainEnd, .int v_z_plainTicks, .int v_z_plainMany, .ref h_zp, .ref h_zh, .ref h_zs, .long v_z_h]))] := hD
              cases h
              exact r_v X hP hD hS rfl dX7_read_91
            · have h := x_p c_8 h
              refine lv_iconst (v := (1 : Int32)) hx hb dX7_read_83 (by decide) ?_
              refine lv_goto (tgt := 88) hx hb dX7_read_84 (by decide) ?_
              refine va_put (D := D) (ci := 6) (v := .int (1 : Int32)) (ty := .boolean) (C := RX7) (T := TX7) (N := 30) hx hb hts i_X7_read_X7 tyX7 tyX7_ok nmX7 hown hE.1 hP hD hS 0 rfl rfl 19 (by decide) (hts _ q_X7_read_5) (fun _ h9 => h9) rfl (by decide +kernel) rfl rfl (Nat.le_of_ble_eq_true rfl) dX7_read_88 (fun H locs hP hD hS => ?_)
              have hP : va_P D vwCl [(h_z, .inr (6, [.int v_z_orders, .ref h_zo, .ref h_za, .ref h_zb, .ref h_zc, .ref h_zk, .int v_z_hasBest, .ref h_ze, .int v_z_asked, .ref h_zn, .int v_z_tick, .int v_z_end, .int v_z_tellMany, .ref h_zt, .int v_z_flipCell, .int v_z_flipWide, .int v_z_sortOf, .int v_z_isStruck, .int (1 : Int32), .int (1 : Int32), .int v_z_lookCell, .int v_z_lookFrom, .int u31_z_firstUse, .int v_z_plainEnd, .int v_z_plainTicks, .int v_z_plainMany, .ref h_zp, .ref h_zh, .ref h_zs, .long v_z_h]))] H := hP
              have hD : va_D A [(h_z, .inr (6, [.int v_z_orders, .ref h_zo, .ref h_za, .ref h_zb, .ref h_zc, .ref h_zk, .int v_z_hasBest, .ref h_ze, .int v_z_asked, .ref h_zn, .int v_z_tick, .int v_z_end, .int v_z_tellMany, .ref h_zt, .int v_z_flipCell, .int v_z_flipWide, .int v_z_sortOf, .int v_z_isStruck, .int (1 : Int32), .int (1 : Int32), .int v_z_lookCell, .int v_z_lookFrom, .int u31_z_firstUse, .int v_z_plainEnd, .int v_z_plainTicks, .int v_z_plainMany, .ref h_zp, .ref h_zh, .ref h_zs, .long v_z_h]))] := hD
              cases h
              exact r_v X hP hD hS rfl dX7_read_91
set_option maxHeartbeats 4000000 in
set_option maxRecDepth 100000 in
theorem m_X7_read (l : Launch) (D : va_G) (cI : ClassId) (pt : Nat) (h_z h_zo h_za h_zb h_zc h_zk h_ze h_zn h_zt h_zp h_zh h_zs : Nat) (v_z_orders : Int32) (v_z_hasBest : Int32) (v_z_asked : Int32) (v_z_tick : Int32) (v_z_end : Int32) (v_z_tellMany : Int32) (v_z_flipCell : Int32) (v_z_flipWide : Int32) (v_z_sortOf : Int32) (v_z_isStruck : Int32) (v_z_wasRead : Int32) (v_z_isCaught : Int32) (v_z_lookCell : Int32) (v_z_lookFrom : Int32) (v_z_firstUse : Int32) (v_z_plainEnd : Int32) (v_z_plainTicks : Int32) (v_z_plainMany : Int32) (v_z_h : Int64) (a0 : Int32) (fu : Nat) (res : Int32 × Int32 × Int32) (h : f_X7_read fu v_z_tick v_z_flipCell v_z_flipWide v_z_sortOf v_z_isStruck v_z_wasRead v_z_isCaught v_z_lookCell v_z_lookFrom v_z_firstUse a0 = some res) :
    MT l D cI pt yX7_read wsX7_read ({ frames := 0, cells := 0, slots := 0, locals := 0 } : Room) [.ref h_z, .int a0] [(h_z, .inr (6, [.int v_z_orders, .ref h_zo, .ref h_za, .ref h_zb, .ref h_zc, .ref h_zk, .int v_z_hasBest, .ref h_ze, .int v_z_asked, .ref h_zn, .int v_z_tick, .int v_z_end, .int v_z_tellMany, .ref h_zt, .int v_z_flipCell, .int v_z_flipWide, .int v_z_sortOf, .int v_z_isStruck, .int v_z_wasRead, .int v_z_isCaught, .int v_z_lookCell, .int v_z_lookFrom, .int v_z_firstUse, .int v_z_plainEnd, .int v_z_plainTicks, .int v_z_plainMany, .ref h_zp, .ref h_zh, .ref h_zs, .long v_z_h]))] none [(h_z, .inr (6, [.int v_z_orders, .ref h_zo, .ref h_za, .ref h_zb, .ref h_zc, .ref h_zk, .int v_z_hasBest, .ref h_ze, .int v_z_asked, .ref h_zn, .int v_z_tick, .int v_z_end, .int v_z_tellMany, .ref h_zt, .int v_z_flipCell, .int v_z_flipWide, .int v_z_sortOf, .int v_z_isStruck, .int res.1, .int res.2.1, .int v_z_lookCell, .int v_z_lookFrom, .int res.2.2, .int v_z_plainEnd, .int v_z_plainTicks, .int v_z_plainMany, .ref h_zp, .ref h_zh, .ref h_zs, .long v_z_h]))] := by
  refine MT.mk (cc := cX7_read) (maxL := 2) (ret := none) (own := RX7) (by decide) rfl rfl (Nat.le_of_ble_eq_true rfl) rfl ?_
  intro p e s m args below meth c A ls X hP hD hS hl
  obtain ⟨hx, hb, hml, hown, hts, hr, hlk, hE, hH, hA⟩ := id X
  have hl : lv_has ls 2 [(0, .ref h_z), (1, .int a0)] := hl
  unfold f_X7_read at h
  refine lv_iload_n hx hb dX7_read_0 rfl (lv_at hl 1 rfl) ?_
  refine lv_aload_n hx hb dX7_read_1 rfl (lv_at hl 0 rfl) ?_
  refine va_get (D := D) (ci := 6) (v := .int v_z_lookCell) (C := RX7) (T := TX7) (N := 30) hx hb hts i_X7_read_X7 hown hE.1 hP 0 rfl rfl 20 (by decide) (hts _ q_X7_read_0) (fun _ h9 => h9) rfl dX7_read_2 ?_
  refine lv_icmp_ne (tgt := 31) hx hb dX7_read_5 (by decide) (fun c_1 => ?_) (fun c_1 => ?_)
  · have h := x_n c_1 h
    refine tr_X7_read_31 X h_z h_zo h_za h_zb h_zc h_zk h_ze h_zn h_zt h_zp h_zh h_zs v_z_orders v_z_hasBest v_z_asked v_z_tick v_z_end v_z_tellMany v_z_flipCell v_z_flipWide v_z_sortOf v_z_isStruck v_z_lookCell v_z_lookFrom v_z_plainEnd v_z_plainTicks v_z_plainMany v_z_h  fu  res   v_z_wasRead v_z_isCaught v_z_firstUse a0 h _ _ _ hP hD hS (lv_sub hl [0, 1] rfl)
  · have h := x_p c_1 h
    refine lv_aload_n hx hb dX7_read_8 rfl (lv_at hl 0 rfl) ?_
    refine va_get (D := D) (ci := 6) (v := .int v_z_tick) (C := RX7) (T := TX7) (N := 30) hx hb hts i_X7_read_X7 hown hE.1 hP 0 rfl rfl 10 (by decide) (hts _ q_X7_read_8) (fun _ h9 => h9) rfl dX7_read_9 ?_
    refine lv_aload_n hx hb dX7_read_12 rfl (lv_at hl 0 rfl) ?_
    refine va_get (D := D) (ci := 6) (v := .int v_z_lookFrom) (C := RX7) (T := TX7) (N := 30) hx hb hts i_X7_read_X7 hown hE.1 hP 0 rfl rfl 21 (by decide) (hts _ q_X7_read_9) (fun _ h9 => h9) rfl dX7_read_13 ?_
    refine lv_icmp_lt (tgt := 31) hx hb dX7_read_16 (by decide) (fun c_9 => ?_) (fun c_9 => ?_)
    · have h := x_p c_9 h
      refine tr_X7_read_31 X h_z h_zo h_za h_zb h_zc h_zk h_ze h_zn h_zt h_zp h_zh h_zs v_z_orders v_z_hasBest v_z_asked v_z_tick v_z_end v_z_tellMany v_z_flipCell v_z_flipWide v_z_sortOf v_z_isStruck v_z_lookCell v_z_lookFrom v_z_plainEnd v_z_plainTicks v_z_plainMany v_z_h  fu  res   v_z_wasRead v_z_isCaught v_z_firstUse a0 h _ _ _ hP hD hS (lv_sub hl [0, 1] rfl)
    · have h := x_n c_9 h
      refine lv_aload_n hx hb dX7_read_19 rfl (lv_at hl 0 rfl) ?_
      refine va_get (D := D) (ci := 6) (v := .int v_z_firstUse) (C := RX7) (T := TX7) (N := 30) hx hb hts i_X7_read_X7 hown hE.1 hP 0 rfl rfl 22 (by decide) (hts _ q_X7_read_10) (fun _ h9 => h9) rfl dX7_read_20 ?_
      refine lv_if_ne (tgt := 31) hx hb dX7_read_23 (by decide) (fun c_10 => ?_) (fun c_10 => ?_)
      · have h := x_n c_10 h
        refine tr_X7_read_31 X h_z h_zo h_za h_zb h_zc h_zk h_ze h_zn h_zt h_zp h_zh h_zs v_z_orders v_z_hasBest v_z_asked v_z_tick v_z_end v_z_tellMany v_z_flipCell v_z_flipWide v_z_sortOf v_z_isStruck v_z_lookCell v_z_lookFrom v_z_plainEnd v_z_plainTicks v_z_plainMany v_z_h  fu  res   v_z_wasRead v_z_isCaught v_z_firstUse a0 h _ _ _ hP hD hS (lv_sub hl [0, 1] rfl)
      · have h := x_p c_10 h
        refine lv_aload_n hx hb dX7_read_26 rfl (lv_at hl 0 rfl) ?_
        refine lv_iconst (v := (1 : Int32)) hx hb dX7_read_27 (by decide) ?_
        refine va_put (D := D) (ci := 6) (v := .int (1 : Int32)) (ty := .int) (C := RX7) (T := TX7) (N := 30) hx hb hts i_X7_read_X7 tyX7 tyX7_ok nmX7 hown hE.1 hP hD hS 0 rfl rfl 22 (by decide) (hts _ q_X7_read_10) (fun _ h9 => h9) rfl (by decide +kernel) rfl rfl (Nat.le_of_ble_eq_true rfl) dX7_read_28 (fun H locs hP hD hS => ?_)
        have hP : va_P D vwCl [(h_z, .inr (6, [.int v_z_orders, .ref h_zo, .ref h_za, .ref h_zb, .ref h_zc, .ref h_zk, .int v_z_hasBest, .ref h_ze, .int v_z_asked, .ref h_zn, .int v_z_tick, .int v_z_end, .int v_z_tellMany, .ref h_zt, .int v_z_flipCell, .int v_z_flipWide, .int v_z_sortOf, .int v_z_isStruck, .int v_z_wasRead, .int v_z_isCaught, .int v_z_lookCell, .int v_z_lookFrom, .int (1 : Int32), .int v_z_plainEnd, .int v_z_plainTicks, .int v_z_plainMany, .ref h_zp, .ref h_zh, .ref h_zs, .long v_z_h]))] H := hP
        have hD : va_D A [(h_z, .inr (6, [.int v_z_orders, .ref h_zo, .ref h_za, .ref h_zb, .ref h_zc, .ref h_zk, .int v_z_hasBest, .ref h_ze, .int v_z_asked, .ref h_zn, .int v_z_tick, .int v_z_end, .int v_z_tellMany, .ref h_zt, .int v_z_flipCell, .int v_z_flipWide, .int v_z_sortOf, .int v_z_isStruck, .int v_z_wasRead, .int v_z_isCaught, .int v_z_lookCell, .int v_z_lookFrom, .int (1 : Int32), .int v_z_plainEnd, .int v_z_plainTicks, .int v_z_plainMany, .ref h_zp, .ref h_zh, .ref h_zs, .long v_z_h]))] := hD
        refine tr_X7_read_31 X h_z h_zo h_za h_zb h_zc h_zk h_ze h_zn h_zt h_zp h_zh h_zs v_z_orders v_z_hasBest v_z_asked v_z_tick v_z_end v_z_tellMany v_z_flipCell v_z_flipWide v_z_sortOf v_z_isStruck v_z_lookCell v_z_lookFrom v_z_plainEnd v_z_plainTicks v_z_plainMany v_z_h  fu  res   v_z_wasRead v_z_isCaught (1 : Int32) a0 h _ _ _ hP hD hS (lv_sub hl [0, 1] rfl)

theorem q_X7_write_0 : (.fieldLink RX7 68 "StruckBitsModel" "lookCell" "I" : Cond) ∈ wsX7_write := by decide +kernel
theorem i_X7_write_X7 : ∀ w ∈ u_ws RX7 TX7 30, w ∈ wsX7_write := by decide +kernel
theorem q_X7_write_2 : (.fieldLink RX7 80 "StruckBitsModel" "flipCell" "I" : Cond) ∈ wsX7_write := by decide +kernel
theorem q_X7_write_3 : (.fieldLink RX7 28 "StruckBitsModel" "now" "[I" : Cond) ∈ wsX7_write := by decide +kernel
theorem q_X7_write_4 : (.fieldLink RX7 83 "StruckBitsModel" "isStruck" "Z" : Cond) ∈ wsX7_write := by decide +kernel
theorem q_X7_write_5 : (.fieldLink RX7 71 "StruckBitsModel" "tick" "I" : Cond) ∈ wsX7_write := by decide +kernel
theorem q_X7_write_6 : (.fieldLink RX7 74 "StruckBitsModel" "lookFrom" "I" : Cond) ∈ wsX7_write := by decide +kernel
theorem q_X7_write_7 : (.fieldLink RX7 77 "StruckBitsModel" "firstUse" "I" : Cond) ∈ wsX7_write := by decide +kernel
set_option maxHeartbeats 4000000 in
set_option maxRecDepth 100000 in
theorem tr_X7_write_44 {p : Program} {l : Launch} {e : Env} {s : State} {m : MethodId} {args : Array Value} {below : List Frame} {meth : Method} {c : Code} {D : va_G} {cI : ClassId} {pt : Nat} {A : Nat → Prop} (X : CX p s m args meth c D cI pt A cX7_write 3 none wsX7_write RX7) (h_z h_zo h_za h_zb h_zc h_zk h_ze h_zn h_zt h_zp h_zh h_zs : Nat) (v_z_orders : Int32) (v_z_hasBest : Int32) (v_z_asked : Int32) (v_z_tick : Int32) (v_z_end : Int32) (v_z_tellMany : Int32) (v_z_flipCell : Int32) (v_z_flipWide : Int32) (v_z_sortOf : Int32) (v_z_wasRead : Int32) (v_z_isCaught : Int32) (v_z_lookCell : Int32) (v_z_lookFrom : Int32) (v_z_plainEnd : Int32) (v_z_plainTicks : Int32) (v_z_plainMany : Int32) (v_z_h : Int64)   (fu : Nat)  (res : Int32 × Int32 × (Nat → Int32))  :
    ∀ (u44_z_isStruck : Int32) (u44_z_firstUse : Int32) (u44_zn : Nat → Int32) (y44_1 : Int32) (y44_2 : Int32), fr_X7_write_44 fu    u44_z_isStruck u44_z_firstUse u44_zn y44_1 y44_2 = some res → ∀ (H : Heap) (locs : List Loc) (ls : Array Slot), va_P D vwCl [(h_z, .inr (6, [.int v_z_orders, .ref h_zo, .ref h_za, .ref h_zb, .ref h_zc, .ref h_zk, .int v_z_hasBest, .ref h_ze, .int v_z_asked, .ref h_zn, .int v_z_tick, .int v_z_end, .int v_z_tellMany, .ref h_zt, .int v_z_flipCell, .int v_z_flipWide, .int v_z_sortOf, .int u44_z_isStruck, .int v_z_wasRead, .int v_z_isCaught, .int v_z_lookCell, .int v_z_lookFrom, .int u44_z_firstUse, .int v_z_plainEnd, .int v_z_plainTicks, .int v_z_plainMany, .ref h_zp, .ref h_zh, .ref h_zs, .long v_z_h])), (h_zn, .inl (cI, 8, .inl u44_zn))] H → va_D A [(h_z, .inr (6, [.int v_z_orders, .ref h_zo, .ref h_za, .ref h_zb, .ref h_zc, .ref h_zk, .int v_z_hasBest, .ref h_ze, .int v_z_asked, .ref h_zn, .int v_z_tick, .int v_z_end, .int v_z_tellMany, .ref h_zt, .int v_z_flipCell, .int v_z_flipWide, .int v_z_sortOf, .int u44_z_isStruck, .int v_z_wasRead, .int v_z_isCaught, .int v_z_lookCell, .int v_z_lookFrom, .int u44_z_firstUse, .int v_z_plainEnd, .int v_z_plainTicks, .int v_z_plainMany, .ref h_zp, .ref h_zh, .ref h_zs, .long v_z_h])), (h_zn, .inl (cI, 8, .inl u44_zn))] → va_S A s.heap H locs → lv_has ls 3 [(0, .ref h_z), (1, .int y44_1), (2, .int y44_2)] → W p l e ({ frames := 0, cells := 0, slots := 0, locals := 0 } : Room) s m args below meth c H locs 0 0 (MQ below (Qg D A none [(h_z, .inr (6, [.int v_z_orders, .ref h_zo, .ref h_za, .ref h_zb, .ref h_zc, .ref h_zk, .int v_z_hasBest, .ref h_ze, .int v_z_asked, .ref h_zn, .int v_z_tick, .int v_z_end, .int v_z_tellMany, .ref h_zt, .int v_z_flipCell, .int v_z_flipWide, .int v_z_sortOf, .int res.1, .int v_z_wasRead, .int v_z_isCaught, .int v_z_lookCell, .int v_z_lookFrom, .int res.2.1, .int v_z_plainEnd, .int v_z_plainTicks, .int v_z_plainMany, .ref h_zp, .ref h_zh, .ref h_zs, .long v_z_h])), (h_zn, .inl (cI, 8, .inl res.2.2))]) args s 0 0 A) (F0 m 44 ls []) := by
  obtain ⟨hx, hb, hml, hown, hts, hr, hlk, hE, hH, hA⟩ := id X
  intro u44_z_isStruck u44_z_firstUse u44_zn y44_1 y44_2 h H locs ls hP hD hS hl
  unfold fr_X7_write_44 at h
  refine lv_aload_n hx hb dX7_write_44 rfl (lv_at hl 0 rfl) ?_
  refine va_get (D := D) (ci := 6) (v := .ref h_zn) (C := RX7) (T := TX7) (N := 30) hx hb hts i_X7_write_X7 hown hE.1 hP 0 rfl rfl 9 (by decide) (hts _ q_X7_write_3) (fun _ h9 => h9) rfl dX7_write_45 ?_
  refine lv_iload_n hx hb dX7_write_48 rfl (lv_at hl 1 rfl) ?_
  refine lv_iload_n hx hb dX7_write_49 rfl (lv_at hl 2 rfl) ?_
  refine lv_sipush (v := (255 : Int32)) hx hb dX7_write_50 (by decide) ?_
  refine lv_iand hx hb dX7_write_53 ?_
  obtain ⟨g_3, h⟩ := x_gd h
  refine va_iast hx hb hE.1 hP hD hS 1 0 rfl rfl g_3 dX7_write_54 (fun H locs hP hD hS => ?_)
  have hP : va_P D vwCl [(h_z, .inr (6, [.int v_z_orders, .ref h_zo, .ref h_za, .ref h_zb, .ref h_zc, .ref h_zk, .int v_z_hasBest, .ref h_ze, .int v_z_asked, .ref h_zn, .int v_z_tick, .int v_z_end, .int v_z_tellMany, .ref h_zt, .int v_z_flipCell, .int v_z_flipWide, .int v_z_sortOf, .int u44_z_isStruck, .int v_z_wasRead, .int v_z_isCaught, .int v_z_lookCell, .int v_z_lookFrom, .int u44_z_firstUse, .int v_z_plainEnd, .int v_z_plainTicks, .int v_z_plainMany, .ref h_zp, .ref h_zh, .ref h_zs, .long v_z_h])), (h_zn, .inl (cI, 8, .inl (upd u44_zn y44_1.toNatClampNeg (y44_2 &&& (255 : Int32)))))] H := hP
  have hD : va_D A [(h_z, .inr (6, [.int v_z_orders, .ref h_zo, .ref h_za, .ref h_zb, .ref h_zc, .ref h_zk, .int v_z_hasBest, .ref h_ze, .int v_z_asked, .ref h_zn, .int v_z_tick, .int v_z_end, .int v_z_tellMany, .ref h_zt, .int v_z_flipCell, .int v_z_flipWide, .int v_z_sortOf, .int u44_z_isStruck, .int v_z_wasRead, .int v_z_isCaught, .int v_z_lookCell, .int v_z_lookFrom, .int u44_z_firstUse, .int v_z_plainEnd, .int v_z_plainTicks, .int v_z_plainMany, .ref h_zp, .ref h_zh, .ref h_zs, .long v_z_h])), (h_zn, .inl (cI, 8, .inl (upd u44_zn y44_1.toNatClampNeg (y44_2 &&& (255 : Int32)))))] := hD
  cases h
  exact r_v X hP hD hS rfl dX7_write_55
set_option maxHeartbeats 4000000 in
set_option maxRecDepth 100000 in
theorem tr_X7_write_31 {p : Program} {l : Launch} {e : Env} {s : State} {m : MethodId} {args : Array Value} {below : List Frame} {meth : Method} {c : Code} {D : va_G} {cI : ClassId} {pt : Nat} {A : Nat → Prop} (X : CX p s m args meth c D cI pt A cX7_write 3 none wsX7_write RX7) (h_z h_zo h_za h_zb h_zc h_zk h_ze h_zn h_zt h_zp h_zh h_zs : Nat) (v_z_orders : Int32) (v_z_hasBest : Int32) (v_z_asked : Int32) (v_z_tick : Int32) (v_z_end : Int32) (v_z_tellMany : Int32) (v_z_flipCell : Int32) (v_z_flipWide : Int32) (v_z_sortOf : Int32) (v_z_wasRead : Int32) (v_z_isCaught : Int32) (v_z_lookCell : Int32) (v_z_lookFrom : Int32) (v_z_plainEnd : Int32) (v_z_plainTicks : Int32) (v_z_plainMany : Int32) (v_z_h : Int64)   (fu : Nat)  (res : Int32 × Int32 × (Nat → Int32))  :
    ∀ (u31_z_isStruck : Int32) (u31_z_firstUse : Int32) (u31_zn : Nat → Int32) (y31_1 : Int32) (y31_2 : Int32), fr_X7_write_31 fu v_z_flipCell   u31_z_isStruck u31_z_firstUse u31_zn y31_1 y31_2 = some res → ∀ (H : Heap) (locs : List Loc) (ls : Array Slot), va_P D vwCl [(h_z, .inr (6, [.int v_z_orders, .ref h_zo, .ref h_za, .ref h_zb, .ref h_zc, .ref h_zk, .int v_z_hasBest, .ref h_ze, .int v_z_asked, .ref h_zn, .int v_z_tick, .int v_z_end, .int v_z_tellMany, .ref h_zt, .int v_z_flipCell, .int v_z_flipWide, .int v_z_sortOf, .int u31_z_isStruck, .int v_z_wasRead, .int v_z_isCaught, .int v_z_lookCell, .int v_z_lookFrom, .int u31_z_firstUse, .int v_z_plainEnd, .int v_z_plainTicks, .int v_z_plainMany, .ref h_zp, .ref h_zh, .ref h_zs, .long v_z_h])), (h_zn, .inl (cI, 8, .inl u31_zn))] H → va_D A [(h_z, .inr (6, [.int v_z_orders, .ref h_zo, .ref h_za, .ref h_zb, .ref h_zc, .ref h_zk, .int v_z_hasBest, .ref h_ze, .int v_z_asked, .ref h_zn, .int v_z_tick, .int v_z_end, .int v_z_tellMany, .ref h_zt, .int v_z_flipCell, .int v_z_flipWide, .int v_z_sortOf, .int u31_z_isStruck, .int v_z_wasRead, .int v_z_isCaught, .int v_z_lookCell, .int v_z_lookFrom, .int u31_z_firstUse, .int v_z_plainEnd, .int v_z_plainTicks, .int v_z_plainMany, .ref h_zp, .ref h_zh, .ref h_zs, .long v_z_h])), (h_zn, .inl (cI, 8, .inl u31_zn))] → va_S A s.heap H locs → lv_has ls 3 [(0, .ref h_z), (1, .int y31_1), (2, .int y31_2)] → W p l e ({ frames := 0, cells := 0, slots := 0, locals := 0 } : Room) s m args below meth c H locs 0 0 (MQ below (Qg D A none [(h_z, .inr (6, [.int v_z_orders, .ref h_zo, .ref h_za, .ref h_zb, .ref h_zc, .ref h_zk, .int v_z_hasBest, .ref h_ze, .int v_z_asked, .ref h_zn, .int v_z_tick, .int v_z_end, .int v_z_tellMany, .ref h_zt, .int v_z_flipCell, .int v_z_flipWide, .int v_z_sortOf, .int res.1, .int v_z_wasRead, .int v_z_isCaught, .int v_z_lookCell, .int v_z_lookFrom, .int res.2.1, .int v_z_plainEnd, .int v_z_plainTicks, .int v_z_plainMany, .ref h_zp, .ref h_zh, .ref h_zs, .long v_z_h])), (h_zn, .inl (cI, 8, .inl res.2.2))]) args s 0 0 A) (F0 m 31 ls []) := by
  obtain ⟨hx, hb, hml, hown, hts, hr, hlk, hE, hH, hA⟩ := id X
  intro u31_z_isStruck u31_z_firstUse u31_zn y31_1 y31_2 h H locs ls hP hD hS hl
  unfold fr_X7_write_31 at h
  refine lv_iload_n hx hb dX7_write_31 rfl (lv_at hl 1 rfl) ?_
  refine lv_aload_n hx hb dX7_write_32 rfl (lv_at hl 0 rfl) ?_
  refine va_get (D := D) (ci := 6) (v := .int v_z_flipCell) (C := RX7) (T := TX7) (N := 30) hx hb hts i_X7_write_X7 hown hE.1 hP 0 rfl rfl 14 (by decide) (hts _ q_X7_write_2) (fun _ h9 => h9) rfl dX7_write_33 ?_
  refine lv_icmp_ne (tgt := 44) hx hb dX7_write_36 (by decide) (fun c_2 => ?_) (fun c_2 => ?_)
  · have h := x_n c_2 h
    refine tr_X7_write_44 X h_z h_zo h_za h_zb h_zc h_zk h_ze h_zn h_zt h_zp h_zh h_zs v_z_orders v_z_hasBest v_z_asked v_z_tick v_z_end v_z_tellMany v_z_flipCell v_z_flipWide v_z_sortOf v_z_wasRead v_z_isCaught v_z_lookCell v_z_lookFrom v_z_plainEnd v_z_plainTicks v_z_plainMany v_z_h  fu  res   u31_z_isStruck u31_z_firstUse u31_zn y31_1 y31_2 h _ _ _ hP hD hS (lv_sub hl [0, 1, 2] rfl)
  · have h := x_p c_2 h
    refine lv_aload_n hx hb dX7_write_39 rfl (lv_at hl 0 rfl) ?_
    refine lv_iconst (v := (0 : Int32)) hx hb dX7_write_40 (by decide) ?_
    refine va_put (D := D) (ci := 6) (v := .int (0 : Int32)) (ty := .boolean) (C := RX7) (T := TX7) (N := 30) hx hb hts i_X7_write_X7 tyX7 tyX7_ok nmX7 hown hE.1 hP hD hS 0 rfl rfl 17 (by decide) (hts _ q_X7_write_4) (fun _ h9 => h9) rfl (by decide +kernel) rfl rfl (Nat.le_of_ble_eq_true rfl) dX7_write_41 (fun H locs hP hD hS => ?_)
    have hP : va_P D vwCl [(h_z, .inr (6, [.int v_z_orders, .ref h_zo, .ref h_za, .ref h_zb, .ref h_zc, .ref h_zk, .int v_z_hasBest, .ref h_ze, .int v_z_asked, .ref h_zn, .int v_z_tick, .int v_z_end, .int v_z_tellMany, .ref h_zt, .int v_z_flipCell, .int v_z_flipWide, .int v_z_sortOf, .int (0 : Int32), .int v_z_wasRead, .int v_z_isCaught, .int v_z_lookCell, .int v_z_lookFrom, .int u31_z_firstUse, .int v_z_plainEnd, .int v_z_plainTicks, .int v_z_plainMany, .ref h_zp, .ref h_zh, .ref h_zs, .long v_z_h])), (h_zn, .inl (cI, 8, .inl u31_zn))] H := hP
    have hD : va_D A [(h_z, .inr (6, [.int v_z_orders, .ref h_zo, .ref h_za, .ref h_zb, .ref h_zc, .ref h_zk, .int v_z_hasBest, .ref h_ze, .int v_z_asked, .ref h_zn, .int v_z_tick, .int v_z_end, .int v_z_tellMany, .ref h_zt, .int v_z_flipCell, .int v_z_flipWide, .int v_z_sortOf, .int (0 : Int32), .int v_z_wasRead, .int v_z_isCaught, .int v_z_lookCell, .int v_z_lookFrom, .int u31_z_firstUse, .int v_z_plainEnd, .int v_z_plainTicks, .int v_z_plainMany, .ref h_zp, .ref h_zh, .ref h_zs, .long v_z_h])), (h_zn, .inl (cI, 8, .inl u31_zn))] := hD
    refine tr_X7_write_44 X h_z h_zo h_za h_zb h_zc h_zk h_ze h_zn h_zt h_zp h_zh h_zs v_z_orders v_z_hasBest v_z_asked v_z_tick v_z_end v_z_tellMany v_z_flipCell v_z_flipWide v_z_sortOf v_z_wasRead v_z_isCaught v_z_lookCell v_z_lookFrom v_z_plainEnd v_z_plainTicks v_z_plainMany v_z_h  fu  res   (0 : Int32) u31_z_firstUse u31_zn y31_1 y31_2 h _ _ _ hP hD hS (lv_sub hl [0, 1, 2] rfl)
set_option maxHeartbeats 4000000 in
set_option maxRecDepth 100000 in
theorem m_X7_write (l : Launch) (D : va_G) (cI : ClassId) (pt : Nat) (h_z h_zo h_za h_zb h_zc h_zk h_ze h_zn h_zt h_zp h_zh h_zs : Nat) (v_z_orders : Int32) (v_z_hasBest : Int32) (v_z_asked : Int32) (v_z_tick : Int32) (v_z_end : Int32) (v_z_tellMany : Int32) (v_z_flipCell : Int32) (v_z_flipWide : Int32) (v_z_sortOf : Int32) (v_z_isStruck : Int32) (v_z_wasRead : Int32) (v_z_isCaught : Int32) (v_z_lookCell : Int32) (v_z_lookFrom : Int32) (v_z_firstUse : Int32) (v_z_plainEnd : Int32) (v_z_plainTicks : Int32) (v_z_plainMany : Int32) (v_z_h : Int64) (v_zn : Nat → Int32) (a0 : Int32) (a1 : Int32) (fu : Nat) (res : Int32 × Int32 × (Nat → Int32)) (h : f_X7_write fu v_z_tick v_z_flipCell v_z_isStruck v_z_lookCell v_z_lookFrom v_z_firstUse v_zn a0 a1 = some res) :
    MT l D cI pt yX7_write wsX7_write ({ frames := 0, cells := 0, slots := 0, locals := 0 } : Room) [.ref h_z, .int a0, .int a1] [(h_z, .inr (6, [.int v_z_orders, .ref h_zo, .ref h_za, .ref h_zb, .ref h_zc, .ref h_zk, .int v_z_hasBest, .ref h_ze, .int v_z_asked, .ref h_zn, .int v_z_tick, .int v_z_end, .int v_z_tellMany, .ref h_zt, .int v_z_flipCell, .int v_z_flipWide, .int v_z_sortOf, .int v_z_isStruck, .int v_z_wasRead, .int v_z_isCaught, .int v_z_lookCell, .int v_z_lookFrom, .int v_z_firstUse, .int v_z_plainEnd, .int v_z_plainTicks, .int v_z_plainMany, .ref h_zp, .ref h_zh, .ref h_zs, .long v_z_h])), (h_zn, .inl (cI, 8, .inl v_zn))] none [(h_z, .inr (6, [.int v_z_orders, .ref h_zo, .ref h_za, .ref h_zb, .ref h_zc, .ref h_zk, .int v_z_hasBest, .ref h_ze, .int v_z_asked, .ref h_zn, .int v_z_tick, .int v_z_end, .int v_z_tellMany, .ref h_zt, .int v_z_flipCell, .int v_z_flipWide, .int v_z_sortOf, .int res.1, .int v_z_wasRead, .int v_z_isCaught, .int v_z_lookCell, .int v_z_lookFrom, .int res.2.1, .int v_z_plainEnd, .int v_z_plainTicks, .int v_z_plainMany, .ref h_zp, .ref h_zh, .ref h_zs, .long v_z_h])), (h_zn, .inl (cI, 8, .inl res.2.2))] := by
  refine MT.mk (cc := cX7_write) (maxL := 3) (ret := none) (own := RX7) (by decide) rfl rfl (Nat.le_of_ble_eq_true rfl) rfl ?_
  intro p e s m args below meth c A ls X hP hD hS hl
  obtain ⟨hx, hb, hml, hown, hts, hr, hlk, hE, hH, hA⟩ := id X
  have hl : lv_has ls 3 [(0, .ref h_z), (1, .int a0), (2, .int a1)] := hl
  unfold f_X7_write at h
  refine lv_iload_n hx hb dX7_write_0 rfl (lv_at hl 1 rfl) ?_
  refine lv_aload_n hx hb dX7_write_1 rfl (lv_at hl 0 rfl) ?_
  refine va_get (D := D) (ci := 6) (v := .int v_z_lookCell) (C := RX7) (T := TX7) (N := 30) hx hb hts i_X7_write_X7 hown hE.1 hP 0 rfl rfl 20 (by decide) (hts _ q_X7_write_0) (fun _ h9 => h9) rfl dX7_write_2 ?_
  refine lv_icmp_ne (tgt := 31) hx hb dX7_write_5 (by decide) (fun c_1 => ?_) (fun c_1 => ?_)
  · have h := x_n c_1 h
    refine tr_X7_write_31 X h_z h_zo h_za h_zb h_zc h_zk h_ze h_zn h_zt h_zp h_zh h_zs v_z_orders v_z_hasBest v_z_asked v_z_tick v_z_end v_z_tellMany v_z_flipCell v_z_flipWide v_z_sortOf v_z_wasRead v_z_isCaught v_z_lookCell v_z_lookFrom v_z_plainEnd v_z_plainTicks v_z_plainMany v_z_h  fu  res   v_z_isStruck v_z_firstUse v_zn a0 a1 h _ _ _ hP hD hS (lv_sub hl [0, 1, 2] rfl)
  · have h := x_p c_1 h
    refine lv_aload_n hx hb dX7_write_8 rfl (lv_at hl 0 rfl) ?_
    refine va_get (D := D) (ci := 6) (v := .int v_z_tick) (C := RX7) (T := TX7) (N := 30) hx hb hts i_X7_write_X7 hown hE.1 hP 0 rfl rfl 10 (by decide) (hts _ q_X7_write_5) (fun _ h9 => h9) rfl dX7_write_9 ?_
    refine lv_aload_n hx hb dX7_write_12 rfl (lv_at hl 0 rfl) ?_
    refine va_get (D := D) (ci := 6) (v := .int v_z_lookFrom) (C := RX7) (T := TX7) (N := 30) hx hb hts i_X7_write_X7 hown hE.1 hP 0 rfl rfl 21 (by decide) (hts _ q_X7_write_6) (fun _ h9 => h9) rfl dX7_write_13 ?_
    refine lv_icmp_lt (tgt := 31) hx hb dX7_write_16 (by decide) (fun c_4 => ?_) (fun c_4 => ?_)
    · have h := x_p c_4 h
      refine tr_X7_write_31 X h_z h_zo h_za h_zb h_zc h_zk h_ze h_zn h_zt h_zp h_zh h_zs v_z_orders v_z_hasBest v_z_asked v_z_tick v_z_end v_z_tellMany v_z_flipCell v_z_flipWide v_z_sortOf v_z_wasRead v_z_isCaught v_z_lookCell v_z_lookFrom v_z_plainEnd v_z_plainTicks v_z_plainMany v_z_h  fu  res   v_z_isStruck v_z_firstUse v_zn a0 a1 h _ _ _ hP hD hS (lv_sub hl [0, 1, 2] rfl)
    · have h := x_n c_4 h
      refine lv_aload_n hx hb dX7_write_19 rfl (lv_at hl 0 rfl) ?_
      refine va_get (D := D) (ci := 6) (v := .int v_z_firstUse) (C := RX7) (T := TX7) (N := 30) hx hb hts i_X7_write_X7 hown hE.1 hP 0 rfl rfl 22 (by decide) (hts _ q_X7_write_7) (fun _ h9 => h9) rfl dX7_write_20 ?_
      refine lv_if_ne (tgt := 31) hx hb dX7_write_23 (by decide) (fun c_5 => ?_) (fun c_5 => ?_)
      · have h := x_n c_5 h
        refine tr_X7_write_31 X h_z h_zo h_za h_zb h_zc h_zk h_ze h_zn h_zt h_zp h_zh h_zs v_z_orders v_z_hasBest v_z_asked v_z_tick v_z_end v_z_tellMany v_z_flipCell v_z_flipWide v_z_sortOf v_z_wasRead v_z_isCaught v_z_lookCell v_z_lookFrom v_z_plainEnd v_z_plainTicks v_z_plainMany v_z_h  fu  res   v_z_isStruck v_z_firstUse v_zn a0 a1 h _ _ _ hP hD hS (lv_sub hl [0, 1, 2] rfl)
      · have h := x_p c_5 h
        refine lv_aload_n hx hb dX7_write_26 rfl (lv_at hl 0 rfl) ?_
        refine lv_iconst (v := (2 : Int32)) hx hb dX7_write_27 (by decide) ?_
        refine va_put (D := D) (ci := 6) (v := .int (2 : Int32)) (ty := .int) (C := RX7) (T := TX7) (N := 30) hx hb hts i_X7_write_X7 tyX7 tyX7_ok nmX7 hown hE.1 hP hD hS 0 rfl rfl 22 (by decide) (hts _ q_X7_write_7) (fun _ h9 => h9) rfl (by decide +kernel) rfl rfl (Nat.le_of_ble_eq_true rfl) dX7_write_28 (fun H locs hP hD hS => ?_)
        have hP : va_P D vwCl [(h_z, .inr (6, [.int v_z_orders, .ref h_zo, .ref h_za, .ref h_zb, .ref h_zc, .ref h_zk, .int v_z_hasBest, .ref h_ze, .int v_z_asked, .ref h_zn, .int v_z_tick, .int v_z_end, .int v_z_tellMany, .ref h_zt, .int v_z_flipCell, .int v_z_flipWide, .int v_z_sortOf, .int v_z_isStruck, .int v_z_wasRead, .int v_z_isCaught, .int v_z_lookCell, .int v_z_lookFrom, .int (2 : Int32), .int v_z_plainEnd, .int v_z_plainTicks, .int v_z_plainMany, .ref h_zp, .ref h_zh, .ref h_zs, .long v_z_h])), (h_zn, .inl (cI, 8, .inl v_zn))] H := hP
        have hD : va_D A [(h_z, .inr (6, [.int v_z_orders, .ref h_zo, .ref h_za, .ref h_zb, .ref h_zc, .ref h_zk, .int v_z_hasBest, .ref h_ze, .int v_z_asked, .ref h_zn, .int v_z_tick, .int v_z_end, .int v_z_tellMany, .ref h_zt, .int v_z_flipCell, .int v_z_flipWide, .int v_z_sortOf, .int v_z_isStruck, .int v_z_wasRead, .int v_z_isCaught, .int v_z_lookCell, .int v_z_lookFrom, .int (2 : Int32), .int v_z_plainEnd, .int v_z_plainTicks, .int v_z_plainMany, .ref h_zp, .ref h_zh, .ref h_zs, .long v_z_h])), (h_zn, .inl (cI, 8, .inl v_zn))] := hD
        refine tr_X7_write_31 X h_z h_zo h_za h_zb h_zc h_zk h_ze h_zn h_zt h_zp h_zh h_zs v_z_orders v_z_hasBest v_z_asked v_z_tick v_z_end v_z_tellMany v_z_flipCell v_z_flipWide v_z_sortOf v_z_wasRead v_z_isCaught v_z_lookCell v_z_lookFrom v_z_plainEnd v_z_plainTicks v_z_plainMany v_z_h  fu  res   v_z_isStruck (2 : Int32) v_zn a0 a1 h _ _ _ hP hD hS (lv_sub hl [0, 1, 2] rfl)

set_option maxHeartbeats 4000000 in
set_option maxRecDepth 100000 in
theorem tr_X7_readAll_27 {p : Program} {l : Launch} {e : Env} {s : State} {m : MethodId} {args : Array Value} {below : List Frame} {meth : Method} {c : Code} {D : va_G} {cI : ClassId} {pt : Nat} {A : Nat → Prop} (X : CX p s m args meth c D cI pt A cX7_readAll 4 none wsX7_readAll RX7) (h_z h_zo h_za h_zb h_zc h_zk h_ze h_zn h_zt h_zp h_zh h_zs : Nat) (v_z_orders : Int32) (v_z_hasBest : Int32) (v_z_asked : Int32) (v_z_tick : Int32) (v_z_end : Int32) (v_z_tellMany : Int32) (v_z_flipCell : Int32) (v_z_flipWide : Int32) (v_z_sortOf : Int32) (v_z_isStruck : Int32) (v_z_lookCell : Int32) (v_z_lookFrom : Int32) (v_z_plainEnd : Int32) (v_z_plainTicks : Int32) (v_z_plainMany : Int32) (v_z_h : Int64)   (fu : Nat)  (res : Int32 × Int32 × Int32)  :
    ∀ (u27_z_wasRead : Int32) (u27_z_isCaught : Int32) (u27_z_firstUse : Int32) (y27_1 : Int32) (y27_2 : Int32) (y27_3 : Int32), fr_X7_readAll_27 fu v_z_tick v_z_flipCell v_z_flipWide v_z_sortOf v_z_isStruck v_z_lookCell v_z_lookFrom   u27_z_wasRead u27_z_isCaught u27_z_firstUse y27_1 y27_2 y27_3 = some res → ∀ (H : Heap) (locs : List Loc) (ls : Array Slot), va_P D vwCl [(h_z, .inr (6, [.int v_z_orders, .ref h_zo, .ref h_za, .ref h_zb, .ref h_zc, .ref h_zk, .int v_z_hasBest, .ref h_ze, .int v_z_asked, .ref h_zn, .int v_z_tick, .int v_z_end, .int v_z_tellMany, .ref h_zt, .int v_z_flipCell, .int v_z_flipWide, .int v_z_sortOf, .int v_z_isStruck, .int u27_z_wasRead, .int u27_z_isCaught, .int v_z_lookCell, .int v_z_lookFrom, .int u27_z_firstUse, .int v_z_plainEnd, .int v_z_plainTicks, .int v_z_plainMany, .ref h_zp, .ref h_zh, .ref h_zs, .long v_z_h]))] H → va_D A [(h_z, .inr (6, [.int v_z_orders, .ref h_zo, .ref h_za, .ref h_zb, .ref h_zc, .ref h_zk, .int v_z_hasBest, .ref h_ze, .int v_z_asked, .ref h_zn, .int v_z_tick, .int v_z_end, .int v_z_tellMany, .ref h_zt, .int v_z_flipCell, .int v_z_flipWide, .int v_z_sortOf, .int v_z_isStruck, .int u27_z_wasRead, .int u27_z_isCaught, .int v_z_lookCell, .int v_z_lookFrom, .int u27_z_firstUse, .int v_z_plainEnd, .int v_z_plainTicks, .int v_z_plainMany, .ref h_zp, .ref h_zh, .ref h_zs, .long v_z_h]))] → va_S A s.heap H locs → lv_has ls 4 [(0, .ref h_z), (1, .int y27_1), (2, .int y27_2), (3, .int y27_3)] → W p l e ({ frames := 2, cells := 0, slots := 0, locals := 42 } : Room) s m args below meth c H locs 0 0 (MQ below (Qg D A none [(h_z, .inr (6, [.int v_z_orders, .ref h_zo, .ref h_za, .ref h_zb, .ref h_zc, .ref h_zk, .int v_z_hasBest, .ref h_ze, .int v_z_asked, .ref h_zn, .int v_z_tick, .int v_z_end, .int v_z_tellMany, .ref h_zt, .int v_z_flipCell, .int v_z_flipWide, .int v_z_sortOf, .int v_z_isStruck, .int res.1, .int res.2.1, .int v_z_lookCell, .int v_z_lookFrom, .int res.2.2, .int v_z_plainEnd, .int v_z_plainTicks, .int v_z_plainMany, .ref h_zp, .ref h_zh, .ref h_zs, .long v_z_h]))]) args s 0 0 A) (F0 m 27 ls []) := by
  obtain ⟨hx, hb, hml, hown, hts, hr, hlk, hE, hH, hA⟩ := id X
  intro u27_z_wasRead u27_z_isCaught u27_z_firstUse y27_1 y27_2 y27_3 h H locs ls hP hD hS hl
  unfold fr_X7_readAll_27 at h
  refine lv_aload_n hx hb dX7_readAll_27 rfl (lv_at hl 0 rfl) ?_
  refine lv_iload_n hx hb dX7_readAll_28 rfl (lv_at hl 2 rfl) ?_
  obtain ⟨t_3, hc, h⟩ := x_b h
  refine c_V (q0 := 0) (ci := 6) (na := 1) (rest := []) (st1 := []) (Wr := []) (Wn := [(h_z, .inr (6, [.int v_z_orders, .ref h_zo, .ref h_za, .ref h_zb, .ref h_zc, .ref h_zk, .int v_z_hasBest, .ref h_ze, .int v_z_asked, .ref h_zn, .int v_z_tick, .int v_z_end, .int v_z_tellMany, .ref h_zt, .int v_z_flipCell, .int v_z_flipWide, .int v_z_sortOf, .int v_z_isStruck, .int t_3.1, .int t_3.2.1, .int v_z_lookCell, .int v_z_lookFrom, .int t_3.2.2, .int v_z_plainEnd, .int v_z_plainTicks, .int v_z_plainMany, .ref h_zp, .ref h_zh, .ref h_zs, .long v_z_h]))]) X hP hD hS hl.1 (m_X7_read l D cI pt h_z h_zo h_za h_zb h_zc h_zk h_ze h_zn h_zt h_zp h_zh h_zs v_z_orders v_z_hasBest v_z_asked v_z_tick v_z_end v_z_tellMany v_z_flipCell v_z_flipWide v_z_sortOf v_z_isStruck u27_z_wasRead u27_z_isCaught v_z_lookCell v_z_lookFrom u27_z_firstUse v_z_plainEnd v_z_plainTicks v_z_plainMany v_z_h y27_2 fu _ hc) gX7_readAll_X7_read rfl ⟨rfl, rfl⟩ rfl (by decide +kernel) ⟨Nat.le_of_ble_eq_true rfl, Nat.le_of_ble_eq_true rfl⟩ rfl rfl [0] [] [0] rfl rfl rfl rfl rfl (by decide) rfl rfl (Nat.le_of_ble_eq_true rfl) dX7_readAll_29 ⟨Nat.zero_le _, Nat.zero_le _⟩ rfl rfl (fun H locs hP hD hS => ?_)
  refine lv_iload_n hx hb dX7_readAll_32 rfl (lv_at hl 1 rfl) ?_
  obtain ⟨t_4, hc, h⟩ := x_b h
  refine c_S (na := 1) (rest := []) (st1 := [.int t_4]) (Wr := [(h_z, .inr (6, [.int v_z_orders, .ref h_zo, .ref h_za, .ref h_zb, .ref h_zc, .ref h_zk, .int v_z_hasBest, .ref h_ze, .int v_z_asked, .ref h_zn, .int v_z_tick, .int v_z_end, .int v_z_tellMany, .ref h_zt, .int v_z_flipCell, .int v_z_flipWide, .int v_z_sortOf, .int v_z_isStruck, .int t_3.1, .int t_3.2.1, .int v_z_lookCell, .int v_z_lookFrom, .int t_3.2.2, .int v_z_plainEnd, .int v_z_plainTicks, .int v_z_plainMany, .ref h_zp, .ref h_zh, .ref h_zs, .long v_z_h]))]) (Wn := [(h_z, .inr (6, [.int v_z_orders, .ref h_zo, .ref h_za, .ref h_zb, .ref h_zc, .ref h_zk, .int v_z_hasBest, .ref h_ze, .int v_z_asked, .ref h_zn, .int v_z_tick, .int v_z_end, .int v_z_tellMany, .ref h_zt, .int v_z_flipCell, .int v_z_flipWide, .int v_z_sortOf, .int v_z_isStruck, .int t_3.1, .int t_3.2.1, .int v_z_lookCell, .int v_z_lookFrom, .int t_3.2.2, .int v_z_plainEnd, .int v_z_plainTicks, .int v_z_plainMany, .ref h_zp, .ref h_zh, .ref h_zs, .long v_z_h]))]) X hP hD hS hl.1 (m_X7_takesOther l D cI pt   y27_1 fu _ hc) gX7_readAll_X7_takesOther rfl ⟨rfl, rfl⟩ rfl (by decide +kernel) ⟨Nat.le_of_ble_eq_true rfl, Nat.le_of_ble_eq_true rfl⟩ [] [0] [0] rfl rfl rfl rfl (by decide) rfl rfl (Nat.le_of_ble_eq_true rfl) dX7_readAll_33 ⟨Nat.zero_le _, Nat.zero_le _⟩ rfl rfl (fun H locs hP hD hS => ?_)
  refine lv_if_eq (tgt := 44) hx hb dX7_readAll_36 (by decide) (fun c_5 => ?_) (fun c_5 => ?_)
  · have h := x_p c_5 h
    cases h
    exact r_v X hP hD hS rfl dX7_readAll_44
  · have h := x_n c_5 h
    refine lv_aload_n hx hb dX7_readAll_39 rfl (lv_at hl 0 rfl) ?_
    refine lv_iload_n hx hb dX7_readAll_40 rfl (lv_at hl 3 rfl) ?_
    obtain ⟨t_6, hc, h⟩ := x_b h
    refine c_V (q0 := 0) (ci := 6) (na := 1) (rest := []) (st1 := []) (Wr := []) (Wn := [(h_z, .inr (6, [.int v_z_orders, .ref h_zo, .ref h_za, .ref h_zb, .ref h_zc, .ref h_zk, .int v_z_hasBest, .ref h_ze, .int v_z_asked, .ref h_zn, .int v_z_tick, .int v_z_end, .int v_z_tellMany, .ref h_zt, .int v_z_flipCell, .int v_z_flipWide, .int v_z_sortOf, .int v_z_isStruck, .int t_6.1, .int t_6.2.1, .int v_z_lookCell, .int v_z_lookFrom, .int t_6.2.2, .int v_z_plainEnd, .int v_z_plainTicks, .int v_z_plainMany, .ref h_zp, .ref h_zh, .ref h_zs, .long v_z_h]))]) X hP hD hS hl.1 (m_X7_read l D cI pt h_z h_zo h_za h_zb h_zc h_zk h_ze h_zn h_zt h_zp h_zh h_zs v_z_orders v_z_hasBest v_z_asked v_z_tick v_z_end v_z_tellMany v_z_flipCell v_z_flipWide v_z_sortOf v_z_isStruck t_3.1 t_3.2.1 v_z_lookCell v_z_lookFrom t_3.2.2 v_z_plainEnd v_z_plainTicks v_z_plainMany v_z_h y27_3 fu _ hc) gX7_readAll_X7_read rfl ⟨rfl, rfl⟩ rfl (by decide +kernel) ⟨Nat.le_of_ble_eq_true rfl, Nat.le_of_ble_eq_true rfl⟩ rfl rfl [0] [] [0] rfl rfl rfl rfl rfl (by decide) rfl rfl (Nat.le_of_ble_eq_true rfl) dX7_readAll_41 ⟨Nat.zero_le _, Nat.zero_le _⟩ rfl rfl (fun H locs hP hD hS => ?_)
    cases h
    exact r_v X hP hD hS rfl dX7_readAll_44
set_option maxHeartbeats 4000000 in
set_option maxRecDepth 100000 in
theorem m_X7_readAll (l : Launch) (D : va_G) (cI : ClassId) (pt : Nat) (h_z h_zo h_za h_zb h_zc h_zk h_ze h_zn h_zt h_zp h_zh h_zs : Nat) (v_z_orders : Int32) (v_z_hasBest : Int32) (v_z_asked : Int32) (v_z_tick : Int32) (v_z_end : Int32) (v_z_tellMany : Int32) (v_z_flipCell : Int32) (v_z_flipWide : Int32) (v_z_sortOf : Int32) (v_z_isStruck : Int32) (v_z_wasRead : Int32) (v_z_isCaught : Int32) (v_z_lookCell : Int32) (v_z_lookFrom : Int32) (v_z_firstUse : Int32) (v_z_plainEnd : Int32) (v_z_plainTicks : Int32) (v_z_plainMany : Int32) (v_z_h : Int64) (a0 : Int32) (a1 : Int32) (a2 : Int32) (fu : Nat) (res : Int32 × Int32 × Int32) (h : f_X7_readAll fu v_z_tick v_z_flipCell v_z_flipWide v_z_sortOf v_z_isStruck v_z_wasRead v_z_isCaught v_z_lookCell v_z_lookFrom v_z_firstUse a0 a1 a2 = some res) :
    MT l D cI pt yX7_readAll wsX7_readAll ({ frames := 2, cells := 0, slots := 0, locals := 42 } : Room) [.ref h_z, .int a0, .int a1, .int a2] [(h_z, .inr (6, [.int v_z_orders, .ref h_zo, .ref h_za, .ref h_zb, .ref h_zc, .ref h_zk, .int v_z_hasBest, .ref h_ze, .int v_z_asked, .ref h_zn, .int v_z_tick, .int v_z_end, .int v_z_tellMany, .ref h_zt, .int v_z_flipCell, .int v_z_flipWide, .int v_z_sortOf, .int v_z_isStruck, .int v_z_wasRead, .int v_z_isCaught, .int v_z_lookCell, .int v_z_lookFrom, .int v_z_firstUse, .int v_z_plainEnd, .int v_z_plainTicks, .int v_z_plainMany, .ref h_zp, .ref h_zh, .ref h_zs, .long v_z_h]))] none [(h_z, .inr (6, [.int v_z_orders, .ref h_zo, .ref h_za, .ref h_zb, .ref h_zc, .ref h_zk, .int v_z_hasBest, .ref h_ze, .int v_z_asked, .ref h_zn, .int v_z_tick, .int v_z_end, .int v_z_tellMany, .ref h_zt, .int v_z_flipCell, .int v_z_flipWide, .int v_z_sortOf, .int v_z_isStruck, .int res.1, .int res.2.1, .int v_z_lookCell, .int v_z_lookFrom, .int res.2.2, .int v_z_plainEnd, .int v_z_plainTicks, .int v_z_plainMany, .ref h_zp, .ref h_zh, .ref h_zs, .long v_z_h]))] := by
  refine MT.mk (cc := cX7_readAll) (maxL := 4) (ret := none) (own := RX7) (by decide) rfl rfl (Nat.le_of_ble_eq_true rfl) rfl ?_
  intro p e s m args below meth c A ls X hP hD hS hl
  obtain ⟨hx, hb, hml, hown, hts, hr, hlk, hE, hH, hA⟩ := id X
  have hl : lv_has ls 4 [(0, .ref h_z), (1, .int a0), (2, .int a1), (3, .int a2)] := hl
  unfold f_X7_readAll at h
  refine lv_iload_n hx hb dX7_readAll_0 rfl (lv_at hl 1 rfl) ?_
  refine lv_iconst (v := (2 : Int32)) hx hb dX7_readAll_1 (by decide) ?_
  refine lv_iconst (v := (5 : Int32)) hx hb dX7_readAll_2 (by decide) ?_
  obtain ⟨t_1, hc, h⟩ := x_b h
  refine c_S (na := 3) (rest := []) (st1 := [.int t_1]) (Wr := [(h_z, .inr (6, [.int v_z_orders, .ref h_zo, .ref h_za, .ref h_zb, .ref h_zc, .ref h_zk, .int v_z_hasBest, .ref h_ze, .int v_z_asked, .ref h_zn, .int v_z_tick, .int v_z_end, .int v_z_tellMany, .ref h_zt, .int v_z_flipCell, .int v_z_flipWide, .int v_z_sortOf, .int v_z_isStruck, .int v_z_wasRead, .int v_z_isCaught, .int v_z_lookCell, .int v_z_lookFrom, .int v_z_firstUse, .int v_z_plainEnd, .int v_z_plainTicks, .int v_z_plainMany, .ref h_zp, .ref h_zh, .ref h_zs, .long v_z_h]))]) (Wn := [(h_z, .inr (6, [.int v_z_orders, .ref h_zo, .ref h_za, .ref h_zb, .ref h_zc, .ref h_zk, .int v_z_hasBest, .ref h_ze, .int v_z_asked, .ref h_zn, .int v_z_tick, .int v_z_end, .int v_z_tellMany, .ref h_zt, .int v_z_flipCell, .int v_z_flipWide, .int v_z_sortOf, .int v_z_isStruck, .int v_z_wasRead, .int v_z_isCaught, .int v_z_lookCell, .int v_z_lookFrom, .int v_z_firstUse, .int v_z_plainEnd, .int v_z_plainTicks, .int v_z_plainMany, .ref h_zp, .ref h_zh, .ref h_zs, .long v_z_h]))]) X hP hD hS hl.1 (m_X7_in l D cI pt   a0 (2 : Int32) (5 : Int32) fu _ hc) gX7_readAll_X7_in rfl ⟨rfl, rfl⟩ rfl (by decide +kernel) ⟨Nat.le_of_ble_eq_true rfl, Nat.le_of_ble_eq_true rfl⟩ [] [0] [0] rfl rfl rfl rfl (by decide) rfl rfl (Nat.le_of_ble_eq_true rfl) dX7_readAll_3 ⟨Nat.zero_le _, Nat.zero_le _⟩ rfl rfl (fun H locs hP hD hS => ?_)
  refine lv_if_ne (tgt := 27) hx hb dX7_readAll_6 (by decide) (fun c_2 => ?_) (fun c_2 => ?_)
  · have h := x_n c_2 h
    refine tr_X7_readAll_27 X h_z h_zo h_za h_zb h_zc h_zk h_ze h_zn h_zt h_zp h_zh h_zs v_z_orders v_z_hasBest v_z_asked v_z_tick v_z_end v_z_tellMany v_z_flipCell v_z_flipWide v_z_sortOf v_z_isStruck v_z_lookCell v_z_lookFrom v_z_plainEnd v_z_plainTicks v_z_plainMany v_z_h  fu  res   v_z_wasRead v_z_isCaught v_z_firstUse a0 a1 a2 h _ _ _ hP hD hS (lv_sub hl [0, 1, 2, 3] rfl)
  · have h := x_p c_2 h
    refine lv_iload_n hx hb dX7_readAll_9 rfl (lv_at hl 1 rfl) ?_
    refine lv_bipush (v := (7 : Int32)) hx hb dX7_readAll_10 (by decide) ?_
    refine lv_icmp_eq (tgt := 27) hx hb dX7_readAll_12 (by decide) (fun c_7 => ?_) (fun c_7 => ?_)
    · have h := x_p c_7 h
      refine tr_X7_readAll_27 X h_z h_zo h_za h_zb h_zc h_zk h_ze h_zn h_zt h_zp h_zh h_zs v_z_orders v_z_hasBest v_z_asked v_z_tick v_z_end v_z_tellMany v_z_flipCell v_z_flipWide v_z_sortOf v_z_isStruck v_z_lookCell v_z_lookFrom v_z_plainEnd v_z_plainTicks v_z_plainMany v_z_h  fu  res   v_z_wasRead v_z_isCaught v_z_firstUse a0 a1 a2 h _ _ _ hP hD hS (lv_sub hl [0, 1, 2, 3] rfl)
    · have h := x_n c_7 h
      refine lv_iload_n hx hb dX7_readAll_15 rfl (lv_at hl 1 rfl) ?_
      refine lv_bipush (v := (8 : Int32)) hx hb dX7_readAll_16 (by decide) ?_
      refine lv_icmp_eq (tgt := 27) hx hb dX7_readAll_18 (by decide) (fun c_8 => ?_) (fun c_8 => ?_)
      · have h := x_p c_8 h
        refine tr_X7_readAll_27 X h_z h_zo h_za h_zb h_zc h_zk h_ze h_zn h_zt h_zp h_zh h_zs v_z_orders v_z_hasBest v_z_asked v_z_tick v_z_end v_z_tellMany v_z_flipCell v_z_flipWide v_z_sortOf v_z_isStruck v_z_lookCell v_z_lookFrom v_z_plainEnd v_z_plainTicks v_z_plainMany v_z_h  fu  res   v_z_wasRead v_z_isCaught v_z_firstUse a0 a1 a2 h _ _ _ hP hD hS (lv_sub hl [0, 1, 2, 3] rfl)
      · have h := x_n c_8 h
        refine lv_iload_n hx hb dX7_readAll_21 rfl (lv_at hl 1 rfl) ?_
        refine lv_bipush (v := (10 : Int32)) hx hb dX7_readAll_22 (by decide) ?_
        refine lv_icmp_ne (tgt := 32) hx hb dX7_readAll_24 (by decide) (fun c_9 => ?_) (fun c_9 => ?_)
        · have h := x_n c_9 h
          refine lv_iload_n hx hb dX7_readAll_32 rfl (lv_at hl 1 rfl) ?_
          obtain ⟨t_10, hc, h⟩ := x_b h
          refine c_S (na := 1) (rest := []) (st1 := [.int t_10]) (Wr := [(h_z, .inr (6, [.int v_z_orders, .ref h_zo, .ref h_za, .ref h_zb, .ref h_zc, .ref h_zk, .int v_z_hasBest, .ref h_ze, .int v_z_asked, .ref h_zn, .int v_z_tick, .int v_z_end, .int v_z_tellMany, .ref h_zt, .int v_z_flipCell, .int v_z_flipWide, .int v_z_sortOf, .int v_z_isStruck, .int v_z_wasRead, .int v_z_isCaught, .int v_z_lookCell, .int v_z_lookFrom, .int v_z_firstUse, .int v_z_plainEnd, .int v_z_plainTicks, .int v_z_plainMany, .ref h_zp, .ref h_zh, .ref h_zs, .long v_z_h]))]) (Wn := [(h_z, .inr (6, [.int v_z_orders, .ref h_zo, .ref h_za, .ref h_zb, .ref h_zc, .ref h_zk, .int v_z_hasBest, .ref h_ze, .int v_z_asked, .ref h_zn, .int v_z_tick, .int v_z_end, .int v_z_tellMany, .ref h_zt, .int v_z_flipCell, .int v_z_flipWide, .int v_z_sortOf, .int v_z_isStruck, .int v_z_wasRead, .int v_z_isCaught, .int v_z_lookCell, .int v_z_lookFrom, .int v_z_firstUse, .int v_z_plainEnd, .int v_z_plainTicks, .int v_z_plainMany, .ref h_zp, .ref h_zh, .ref h_zs, .long v_z_h]))]) X hP hD hS hl.1 (m_X7_takesOther l D cI pt   a0 fu _ hc) gX7_readAll_X7_takesOther rfl ⟨rfl, rfl⟩ rfl (by decide +kernel) ⟨Nat.le_of_ble_eq_true rfl, Nat.le_of_ble_eq_true rfl⟩ [] [0] [0] rfl rfl rfl rfl (by decide) rfl rfl (Nat.le_of_ble_eq_true rfl) dX7_readAll_33 ⟨Nat.zero_le _, Nat.zero_le _⟩ rfl rfl (fun H locs hP hD hS => ?_)
          refine lv_if_eq (tgt := 44) hx hb dX7_readAll_36 (by decide) (fun c_11 => ?_) (fun c_11 => ?_)
          · have h := x_p c_11 h
            cases h
            exact r_v X hP hD hS rfl dX7_readAll_44
          · have h := x_n c_11 h
            refine lv_aload_n hx hb dX7_readAll_39 rfl (lv_at hl 0 rfl) ?_
            refine lv_iload_n hx hb dX7_readAll_40 rfl (lv_at hl 3 rfl) ?_
            obtain ⟨t_12, hc, h⟩ := x_b h
            refine c_V (q0 := 0) (ci := 6) (na := 1) (rest := []) (st1 := []) (Wr := []) (Wn := [(h_z, .inr (6, [.int v_z_orders, .ref h_zo, .ref h_za, .ref h_zb, .ref h_zc, .ref h_zk, .int v_z_hasBest, .ref h_ze, .int v_z_asked, .ref h_zn, .int v_z_tick, .int v_z_end, .int v_z_tellMany, .ref h_zt, .int v_z_flipCell, .int v_z_flipWide, .int v_z_sortOf, .int v_z_isStruck, .int t_12.1, .int t_12.2.1, .int v_z_lookCell, .int v_z_lookFrom, .int t_12.2.2, .int v_z_plainEnd, .int v_z_plainTicks, .int v_z_plainMany, .ref h_zp, .ref h_zh, .ref h_zs, .long v_z_h]))]) X hP hD hS hl.1 (m_X7_read l D cI pt h_z h_zo h_za h_zb h_zc h_zk h_ze h_zn h_zt h_zp h_zh h_zs v_z_orders v_z_hasBest v_z_asked v_z_tick v_z_end v_z_tellMany v_z_flipCell v_z_flipWide v_z_sortOf v_z_isStruck v_z_wasRead v_z_isCaught v_z_lookCell v_z_lookFrom v_z_firstUse v_z_plainEnd v_z_plainTicks v_z_plainMany v_z_h a2 fu _ hc) gX7_readAll_X7_read rfl ⟨rfl, rfl⟩ rfl (by decide +kernel) ⟨Nat.le_of_ble_eq_true rfl, Nat.le_of_ble_eq_true rfl⟩ rfl rfl [0] [] [0] rfl rfl rfl rfl rfl (by decide) rfl rfl (Nat.le_of_ble_eq_true rfl) dX7_readAll_41 ⟨Nat.zero_le _, Nat.zero_le _⟩ rfl rfl (fun H locs hP hD hS => ?_)
            cases h
            exact r_v X hP hD hS rfl dX7_readAll_44
        · have h := x_p c_9 h
          refine tr_X7_readAll_27 X h_z h_zo h_za h_zb h_zc h_zk h_ze h_zn h_zt h_zp h_zh h_zs v_z_orders v_z_hasBest v_z_asked v_z_tick v_z_end v_z_tellMany v_z_flipCell v_z_flipWide v_z_sortOf v_z_isStruck v_z_lookCell v_z_lookFrom v_z_plainEnd v_z_plainTicks v_z_plainMany v_z_h  fu  res   v_z_wasRead v_z_isCaught v_z_firstUse a0 a1 a2 h _ _ _ hP hD hS (lv_sub hl [0, 1, 2, 3] rfl)

theorem q_X7_made_0 : (.fieldLink RX7 28 "StruckBitsModel" "now" "[I" : Cond) ∈ wsX7_made := by decide +kernel
theorem i_X7_made_X7 : ∀ w ∈ u_ws RX7 TX7 30, w ∈ wsX7_made := by decide +kernel
set_option maxHeartbeats 4000000 in
set_option maxRecDepth 100000 in
theorem m_X7_made (l : Launch) (D : va_G) (cI : ClassId) (pt : Nat) (h_z h_zo h_za h_zb h_zc h_zk h_ze h_zn h_zt h_zp h_zh h_zs : Nat) (v_z_orders : Int32) (v_z_hasBest : Int32) (v_z_asked : Int32) (v_z_tick : Int32) (v_z_end : Int32) (v_z_tellMany : Int32) (v_z_flipCell : Int32) (v_z_flipWide : Int32) (v_z_sortOf : Int32) (v_z_isStruck : Int32) (v_z_wasRead : Int32) (v_z_isCaught : Int32) (v_z_lookCell : Int32) (v_z_lookFrom : Int32) (v_z_firstUse : Int32) (v_z_plainEnd : Int32) (v_z_plainTicks : Int32) (v_z_plainMany : Int32) (v_z_h : Int64) (v_zn : Nat → Int32) (a0 : Int32) (a1 : Int32) (a2 : Int32) (fu : Nat) (res : Int32) (h : f_X7_made fu v_zn a0 a1 a2 = some res) :
    MT l D cI pt yX7_made wsX7_made ({ frames := 0, cells := 0, slots := 0, locals := 0 } : Room) [.ref h_z, .int a0, .int a1, .int a2] [(h_z, .inr (6, [.int v_z_orders, .ref h_zo, .ref h_za, .ref h_zb, .ref h_zc, .ref h_zk, .int v_z_hasBest, .ref h_ze, .int v_z_asked, .ref h_zn, .int v_z_tick, .int v_z_end, .int v_z_tellMany, .ref h_zt, .int v_z_flipCell, .int v_z_flipWide, .int v_z_sortOf, .int v_z_isStruck, .int v_z_wasRead, .int v_z_isCaught, .int v_z_lookCell, .int v_z_lookFrom, .int v_z_firstUse, .int v_z_plainEnd, .int v_z_plainTicks, .int v_z_plainMany, .ref h_zp, .ref h_zh, .ref h_zs, .long v_z_h])), (h_zn, .inl (cI, 8, .inl v_zn))] (some (.int res)) [(h_z, .inr (6, [.int v_z_orders, .ref h_zo, .ref h_za, .ref h_zb, .ref h_zc, .ref h_zk, .int v_z_hasBest, .ref h_ze, .int v_z_asked, .ref h_zn, .int v_z_tick, .int v_z_end, .int v_z_tellMany, .ref h_zt, .int v_z_flipCell, .int v_z_flipWide, .int v_z_sortOf, .int v_z_isStruck, .int v_z_wasRead, .int v_z_isCaught, .int v_z_lookCell, .int v_z_lookFrom, .int v_z_firstUse, .int v_z_plainEnd, .int v_z_plainTicks, .int v_z_plainMany, .ref h_zp, .ref h_zh, .ref h_zs, .long v_z_h])), (h_zn, .inl (cI, 8, .inl v_zn))] := by
  refine MT.mk (cc := cX7_made) (maxL := 4) (ret := (some .int)) (own := RX7) (by decide) rfl rfl (Nat.le_of_ble_eq_true rfl) rfl ?_
  intro p e s m args below meth c A ls X hP hD hS hl
  obtain ⟨hx, hb, hml, hown, hts, hr, hlk, hE, hH, hA⟩ := id X
  have hl : lv_has ls 4 [(0, .ref h_z), (1, .int a0), (2, .int a1), (3, .int a2)] := hl
  unfold f_X7_made at h
  refine lv_iload_n hx hb dX7_made_0 rfl (lv_at hl 1 rfl) ?_
  by_cases c_1 : a0 = (0 : Int32)
  · have h := x_p c_1 h
    refine lv_tableIn (tgt := 36) hx hb dX7_made_1 (by rw [c_1]; decide +kernel) (by rw [c_1]; decide +kernel) (by rw [c_1]; first | rfl | decide +kernel) (by decide) ?_
    refine lv_iload_n hx hb dX7_made_36 rfl (lv_at hl 3 rfl) ?_
    cases h
    exact r_i X hP hD hS rfl dX7_made_37
  · have h := x_n c_1 h
    by_cases c_2 : a0 = (1 : Int32)
    · have h := x_p c_2 h
      refine lv_tableIn (tgt := 38) hx hb dX7_made_1 (by rw [c_2]; decide +kernel) (by rw [c_2]; decide +kernel) (by rw [c_2]; first | rfl | decide +kernel) (by decide) ?_
      refine lv_aload_n hx hb dX7_made_38 rfl (lv_at hl 0 rfl) ?_
      refine va_get (D := D) (ci := 6) (v := .ref h_zn) (C := RX7) (T := TX7) (N := 30) hx hb hts i_X7_made_X7 hown hE.1 hP 0 rfl rfl 9 (by decide) (hts _ q_X7_made_0) (fun _ h9 => h9) rfl dX7_made_39 ?_
      refine lv_iload_n hx hb dX7_made_42 rfl (lv_at hl 3 rfl) ?_
      obtain ⟨g_3, h⟩ := x_gd h
      refine va_iald hx hb hE.1 hP 1 0 rfl rfl g_3 dX7_made_43 ?_
      cases h
      exact r_i X hP hD hS rfl dX7_made_44
    · have h := x_n c_2 h
      by_cases c_4 : a0 = (2 : Int32)
      · have h := x_p c_4 h
        refine lv_tableIn (tgt := 45) hx hb dX7_made_1 (by rw [c_4]; decide +kernel) (by rw [c_4]; decide +kernel) (by rw [c_4]; first | rfl | decide +kernel) (by decide) ?_
        refine lv_aload_n hx hb dX7_made_45 rfl (lv_at hl 0 rfl) ?_
        refine va_get (D := D) (ci := 6) (v := .ref h_zn) (C := RX7) (T := TX7) (N := 30) hx hb hts i_X7_made_X7 hown hE.1 hP 0 rfl rfl 9 (by decide) (hts _ q_X7_made_0) (fun _ h9 => h9) rfl dX7_made_46 ?_
        refine lv_iload_n hx hb dX7_made_49 rfl (lv_at hl 2 rfl) ?_
        obtain ⟨g_5, h⟩ := x_gd h
        refine va_iald hx hb hE.1 hP 1 0 rfl rfl g_5 dX7_made_50 ?_
        refine lv_aload_n hx hb dX7_made_51 rfl (lv_at hl 0 rfl) ?_
        refine va_get (D := D) (ci := 6) (v := .ref h_zn) (C := RX7) (T := TX7) (N := 30) hx hb hts i_X7_made_X7 hown hE.1 hP 0 rfl rfl 9 (by decide) (hts _ q_X7_made_0) (fun _ h9 => h9) rfl dX7_made_52 ?_
        refine lv_iload_n hx hb dX7_made_55 rfl (lv_at hl 3 rfl) ?_
        obtain ⟨g_6, h⟩ := x_gd h
        refine va_iald hx hb hE.1 hP 1 0 rfl rfl g_6 dX7_made_56 ?_
        refine lv_iadd hx hb dX7_made_57 ?_
        cases h
        exact r_i X hP hD hS rfl dX7_made_58
      · have h := x_n c_4 h
        by_cases c_7 : a0 = (3 : Int32)
        · have h := x_p c_7 h
          refine lv_tableIn (tgt := 59) hx hb dX7_made_1 (by rw [c_7]; decide +kernel) (by rw [c_7]; decide +kernel) (by rw [c_7]; first | rfl | decide +kernel) (by decide) ?_
          refine lv_aload_n hx hb dX7_made_59 rfl (lv_at hl 0 rfl) ?_
          refine va_get (D := D) (ci := 6) (v := .ref h_zn) (C := RX7) (T := TX7) (N := 30) hx hb hts i_X7_made_X7 hown hE.1 hP 0 rfl rfl 9 (by decide) (hts _ q_X7_made_0) (fun _ h9 => h9) rfl dX7_made_60 ?_
          refine lv_iload_n hx hb dX7_made_63 rfl (lv_at hl 2 rfl) ?_
          obtain ⟨g_8, h⟩ := x_gd h
          refine va_iald hx hb hE.1 hP 1 0 rfl rfl g_8 dX7_made_64 ?_
          refine lv_aload_n hx hb dX7_made_65 rfl (lv_at hl 0 rfl) ?_
          refine va_get (D := D) (ci := 6) (v := .ref h_zn) (C := RX7) (T := TX7) (N := 30) hx hb hts i_X7_made_X7 hown hE.1 hP 0 rfl rfl 9 (by decide) (hts _ q_X7_made_0) (fun _ h9 => h9) rfl dX7_made_66 ?_
          refine lv_iload_n hx hb dX7_made_69 rfl (lv_at hl 3 rfl) ?_
          obtain ⟨g_9, h⟩ := x_gd h
          refine va_iald hx hb hE.1 hP 1 0 rfl rfl g_9 dX7_made_70 ?_
          refine lv_iand hx hb dX7_made_71 ?_
          cases h
          exact r_i X hP hD hS rfl dX7_made_72
        · have h := x_n c_7 h
          by_cases c_10 : a0 = (4 : Int32)
          · have h := x_p c_10 h
            refine lv_tableIn (tgt := 73) hx hb dX7_made_1 (by rw [c_10]; decide +kernel) (by rw [c_10]; decide +kernel) (by rw [c_10]; first | rfl | decide +kernel) (by decide) ?_
            refine lv_aload_n hx hb dX7_made_73 rfl (lv_at hl 0 rfl) ?_
            refine va_get (D := D) (ci := 6) (v := .ref h_zn) (C := RX7) (T := TX7) (N := 30) hx hb hts i_X7_made_X7 hown hE.1 hP 0 rfl rfl 9 (by decide) (hts _ q_X7_made_0) (fun _ h9 => h9) rfl dX7_made_74 ?_
            refine lv_iload_n hx hb dX7_made_77 rfl (lv_at hl 2 rfl) ?_
            obtain ⟨g_11, h⟩ := x_gd h
            refine va_iald hx hb hE.1 hP 1 0 rfl rfl g_11 dX7_made_78 ?_
            refine lv_aload_n hx hb dX7_made_79 rfl (lv_at hl 0 rfl) ?_
            refine va_get (D := D) (ci := 6) (v := .ref h_zn) (C := RX7) (T := TX7) (N := 30) hx hb hts i_X7_made_X7 hown hE.1 hP 0 rfl rfl 9 (by decide) (hts _ q_X7_made_0) (fun _ h9 => h9) rfl dX7_made_80 ?_
            refine lv_iload_n hx hb dX7_made_83 rfl (lv_at hl 3 rfl) ?_
            obtain ⟨g_12, h⟩ := x_gd h
            refine va_iald hx hb hE.1 hP 1 0 rfl rfl g_12 dX7_made_84 ?_
            refine lv_ixor hx hb dX7_made_85 ?_
            cases h
            exact r_i X hP hD hS rfl dX7_made_86
          · have h := x_n c_10 h
            refine lv_tableOut (tgt := 87) hx hb dX7_made_1 (x_sw (n := 4) (fun k hk => by rcases (show k = 0 ∨ k = 1 ∨ k = 2 ∨ k = 3 ∨ k = 4 by omega) with rfl | rfl | rfl | rfl | rfl <;> first | exact c_1 | exact c_2 | exact c_4 | exact c_7 | exact c_10)) (by decide) ?_
            refine lv_aload_n hx hb dX7_made_87 rfl (lv_at hl 0 rfl) ?_
            refine va_get (D := D) (ci := 6) (v := .ref h_zn) (C := RX7) (T := TX7) (N := 30) hx hb hts i_X7_made_X7 hown hE.1 hP 0 rfl rfl 9 (by decide) (hts _ q_X7_made_0) (fun _ h9 => h9) rfl dX7_made_88 ?_
            refine lv_iload_n hx hb dX7_made_91 rfl (lv_at hl 2 rfl) ?_
            obtain ⟨g_13, h⟩ := x_gd h
            refine va_iald hx hb hE.1 hP 1 0 rfl rfl g_13 dX7_made_92 ?_
            refine lv_iconst (v := (2 : Int32)) hx hb dX7_made_93 (by decide) ?_
            refine lv_idiv hx hb dX7_made_94 (by decide) ?_
            cases h
            exact r_i X hP hD hS rfl dX7_made_95

theorem q_X7_does_0 : (.fieldLink RX7 7 "StruckBitsModel" "ops" "[I" : Cond) ∈ wsX7_does := by decide +kernel
theorem i_X7_does_X7 : ∀ w ∈ u_ws RX7 TX7 30, w ∈ wsX7_does := by decide +kernel
theorem q_X7_does_2 : (.fieldLink RX7 13 "StruckBitsModel" "as" "[I" : Cond) ∈ wsX7_does := by decide +kernel
theorem q_X7_does_3 : (.fieldLink RX7 16 "StruckBitsModel" "bs" "[I" : Cond) ∈ wsX7_does := by decide +kernel
theorem q_X7_does_4 : (.fieldLink RX7 90 "StruckBitsModel" "isCaught" "Z" : Cond) ∈ wsX7_does := by decide +kernel
theorem q_X7_does_5 : (.fieldLink RX7 28 "StruckBitsModel" "now" "[I" : Cond) ∈ wsX7_does := by decide +kernel
theorem q_X7_does_6 : (.fieldLink RX7 115 "StruckBitsModel" "tellMany" "I" : Cond) ∈ wsX7_does := by decide +kernel
theorem q_X7_does_7 : (.fieldLink RX7 31 "StruckBitsModel" "tells" "[I" : Cond) ∈ wsX7_does := by decide +kernel
set_option maxHeartbeats 4000000 in
set_option maxRecDepth 100000 in
theorem m_X7_does (l : Launch) (D : va_G) (cI : ClassId) (pt : Nat) (h_z h_zo h_za h_zb h_zc h_zk h_ze h_zn h_zt h_zp h_zh h_zs : Nat) (v_z_orders : Int32) (v_z_hasBest : Int32) (v_z_asked : Int32) (v_z_tick : Int32) (v_z_end : Int32) (v_z_tellMany : Int32) (v_z_flipCell : Int32) (v_z_flipWide : Int32) (v_z_sortOf : Int32) (v_z_isStruck : Int32) (v_z_wasRead : Int32) (v_z_isCaught : Int32) (v_z_lookCell : Int32) (v_z_lookFrom : Int32) (v_z_firstUse : Int32) (v_z_plainEnd : Int32) (v_z_plainTicks : Int32) (v_z_plainMany : Int32) (v_z_h : Int64) (v_zo : Nat → Int32) (v_za : Nat → Int32) (v_zb : Nat → Int32) (v_zn : Nat → Int32) (v_zt : Nat → Int32) (a0 : Int32) (fu : Nat) (res : Int32 × Int32 × Int32 × Int32 × Int32 × Int32 × (Nat → Int32) × (Nat → Int32)) (h : f_X7_does fu v_z_tick v_z_tellMany v_z_flipCell v_z_flipWide v_z_sortOf v_z_isStruck v_z_wasRead v_z_isCaught v_z_lookCell v_z_lookFrom v_z_firstUse v_zo v_za v_zb v_zn v_zt a0 = some res) :
    MT l D cI pt yX7_does wsX7_does ({ frames := 3, cells := 0, slots := 0, locals := 65 } : Room) [.ref h_z, .int a0] [(h_z, .inr (6, [.int v_z_orders, .ref h_zo, .ref h_za, .ref h_zb, .ref h_zc, .ref h_zk, .int v_z_hasBest, .ref h_ze, .int v_z_asked, .ref h_zn, .int v_z_tick, .int v_z_end, .int v_z_tellMany, .ref h_zt, .int v_z_flipCell, .int v_z_flipWide, .int v_z_sortOf, .int v_z_isStruck, .int v_z_wasRead, .int v_z_isCaught, .int v_z_lookCell, .int v_z_lookFrom, .int v_z_firstUse, .int v_z_plainEnd, .int v_z_plainTicks, .int v_z_plainMany, .ref h_zp, .ref h_zh, .ref h_zs, .long v_z_h])), (h_zo, .inl (cI, 20, .inl v_zo)), (h_za, .inl (cI, 20, .inl v_za)), (h_zb, .inl (cI, 20, .inl v_zb)), (h_zn, .inl (cI, 8, .inl v_zn)), (h_zt, .inl (cI, 12, .inl v_zt))] (some (.int res.1)) [(h_z, .inr (6, [.int v_z_orders, .ref h_zo, .ref h_za, .ref h_zb, .ref h_zc, .ref h_zk, .int v_z_hasBest, .ref h_ze, .int v_z_asked, .ref h_zn, .int v_z_tick, .int v_z_end, .int res.2.1, .ref h_zt, .int v_z_flipCell, .int v_z_flipWide, .int v_z_sortOf, .int res.2.2.1, .int res.2.2.2.1, .int res.2.2.2.2.1, .int v_z_lookCell, .int v_z_lookFrom, .int res.2.2.2.2.2.1, .int v_z_plainEnd, .int v_z_plainTicks, .int v_z_plainMany, .ref h_zp, .ref h_zh, .ref h_zs, .long v_z_h])), (h_zo, .inl (cI, 20, .inl v_zo)), (h_za, .inl (cI, 20, .inl v_za)), (h_zb, .inl (cI, 20, .inl v_zb)), (h_zn, .inl (cI, 8, .inl res.2.2.2.2.2.2.1)), (h_zt, .inl (cI, 12, .inl res.2.2.2.2.2.2.2))] := by
  refine MT.mk (cc := cX7_does) (maxL := 5) (ret := (some .int)) (own := RX7) (by decide) rfl rfl (Nat.le_of_ble_eq_true rfl) rfl ?_
  intro p e s m args below meth c A ls X hP hD hS hl
  obtain ⟨hx, hb, hml, hown, hts, hr, hlk, hE, hH, hA⟩ := id X
  have hl : lv_has ls 5 [(0, .ref h_z), (1, .int a0)] := hl
  unfold f_X7_does at h
  refine lv_aload_n hx hb dX7_does_0 rfl (lv_at hl 0 rfl) ?_
  refine va_get (D := D) (ci := 6) (v := .ref h_zo) (C := RX7) (T := TX7) (N := 30) hx hb hts i_X7_does_X7 hown hE.1 hP 0 rfl rfl 1 (by decide) (hts _ q_X7_does_0) (fun _ h9 => h9) rfl dX7_does_1 ?_
  refine lv_iload_n hx hb dX7_does_4 rfl (lv_at hl 1 rfl) ?_
  obtain ⟨g_1, h⟩ := x_gd h
  refine va_iald hx hb hE.1 hP 1 0 rfl rfl g_1 dX7_does_5 ?_
  refine lv_istore_n (lv' := [(2, .int (v_zo a0.toNatClampNeg)), (0, .ref h_z), (1, .int a0)]) hx hb dX7_does_6 rfl hl (by decide) rfl (fun ls hl => ?_)
  refine lv_aload_n hx hb dX7_does_7 rfl (lv_at hl 1 rfl) ?_
  refine va_get (D := D) (ci := 6) (v := .ref h_za) (C := RX7) (T := TX7) (N := 30) hx hb hts i_X7_does_X7 hown hE.1 hP 0 rfl rfl 2 (by decide) (hts _ q_X7_does_2) (fun _ h9 => h9) rfl dX7_does_8 ?_
  refine lv_iload_n hx hb dX7_does_11 rfl (lv_at hl 2 rfl) ?_
  obtain ⟨g_2, h⟩ := x_gd h
  refine va_iald hx hb hE.1 hP 2 0 rfl rfl g_2 dX7_does_12 ?_
  refine lv_istore_n (lv' := [(3, .int (v_za a0.toNatClampNeg)), (2, .int (v_zo a0.toNatClampNeg)), (0, .ref h_z), (1, .int a0)]) hx hb dX7_does_13 rfl hl (by decide) rfl (fun ls hl => ?_)
  refine lv_aload_n hx hb dX7_does_14 rfl (lv_at hl 2 rfl) ?_
  refine va_get (D := D) (ci := 6) (v := .ref h_zb) (C := RX7) (T := TX7) (N := 30) hx hb hts i_X7_does_X7 hown hE.1 hP 0 rfl rfl 3 (by decide) (hts _ q_X7_does_3) (fun _ h9 => h9) rfl dX7_does_15 ?_
  refine lv_iload_n hx hb dX7_does_18 rfl (lv_at hl 3 rfl) ?_
  obtain ⟨g_3, h⟩ := x_gd h
  refine va_iald hx hb hE.1 hP 3 0 rfl rfl g_3 dX7_does_19 ?_
  refine lv_istore (lv' := [(4, .int (v_zb a0.toNatClampNeg)), (3, .int (v_za a0.toNatClampNeg)), (2, .int (v_zo a0.toNatClampNeg)), (0, .ref h_z), (1, .int a0)]) hx hb dX7_does_20 hl (by decide) rfl (fun ls hl => ?_)
  refine lv_aload_n hx hb dX7_does_22 rfl (lv_at hl 3 rfl) ?_
  refine lv_iload_n hx hb dX7_does_23 rfl (lv_at hl 2 rfl) ?_
  refine lv_iload_n hx hb dX7_does_24 rfl (lv_at hl 1 rfl) ?_
  refine lv_iload hx hb dX7_does_25 (lv_at hl 0 rfl) ?_
  obtain ⟨t_4, hc, h⟩ := x_b h
  refine c_V (q0 := 0) (ci := 6) (na := 3) (rest := []) (st1 := []) (Wr := [(h_zo, .inl (cI, 20, .inl v_zo)), (h_za, .inl (cI, 20, .inl v_za)), (h_zb, .inl (cI, 20, .inl v_zb)), (h_zn, .inl (cI, 8, .inl v_zn)), (h_zt, .inl (cI, 12, .inl v_zt))]) (Wn := [(h_z, .inr (6, [.int v_z_orders, .ref h_zo, .ref h_za, .ref h_zb, .ref h_zc, .ref h_zk, .int v_z_hasBest, .ref h_ze, .int v_z_asked, .ref h_zn, .int v_z_tick, .int v_z_end, .int v_z_tellMany, .ref h_zt, .int v_z_flipCell, .int v_z_flipWide, .int v_z_sortOf, .int v_z_isStruck, .int t_4.1, .int t_4.2.1, .int v_z_lookCell, .int v_z_lookFrom, .int t_4.2.2, .int v_z_plainEnd, .int v_z_plainTicks, .int v_z_plainMany, .ref h_zp, .ref h_zh, .ref h_zs, .long v_z_h])), (h_zo, .inl (cI, 20, .inl v_zo)), (h_za, .inl (cI, 20, .inl v_za)), (h_zb, .inl (cI, 20, .inl v_zb)), (h_zn, .inl (cI, 8, .inl v_zn)), (h_zt, .inl (cI, 12, .inl v_zt))]) X hP hD hS hl.1 (m_X7_readAll l D cI pt h_z h_zo h_za h_zb h_zc h_zk h_ze h_zn h_zt h_zp h_zh h_zs v_z_orders v_z_hasBest v_z_asked v_z_tick v_z_end v_z_tellMany v_z_flipCell v_z_flipWide v_z_sortOf v_z_isStruck v_z_wasRead v_z_isCaught v_z_lookCell v_z_lookFrom v_z_firstUse v_z_plainEnd v_z_plainTicks v_z_plainMany v_z_h (v_zo a0.toNatClampNeg) (v_za a0.toNatClampNeg) (v_zb a0.toNatClampNeg) fu _ hc) gX7_does_X7_readAll rfl ⟨rfl, rfl⟩ rfl (by decide +kernel) ⟨Nat.le_of_ble_eq_true rfl, Nat.le_of_ble_eq_true rfl⟩ rfl rfl [0] [1, 2, 3, 4, 5] [5, 0, 1, 2, 3, 4] rfl rfl rfl rfl rfl (by decide) rfl rfl (Nat.le_of_ble_eq_true rfl) dX7_does_27 ⟨Nat.zero_le _, Nat.zero_le _⟩ rfl rfl (fun H locs hP hD hS => ?_)
  refine lv_aload_n hx hb dX7_does_30 rfl (lv_at hl 3 rfl) ?_
  refine va_get (D := D) (ci := 6) (v := .int t_4.2.1) (C := RX7) (T := TX7) (N := 30) hx hb hts i_X7_does_X7 hown hE.1 hP 0 rfl rfl 19 (by decide) (hts _ q_X7_does_4) (fun _ h9 => h9) rfl dX7_does_31 ?_
  refine lv_if_eq (tgt := 39) hx hb dX7_does_34 (by decide) (fun c_5 => ?_) (fun c_5 => ?_)
  · have h := x_p c_5 h
    refine lv_iload_n hx hb dX7_does_39 rfl (lv_at hl 2 rfl) ?_
    refine lv_iconst (v := (5 : Int32)) hx hb dX7_does_40 (by decide) ?_
    refine lv_icmp_gt (tgt := 60) hx hb dX7_does_41 (by decide) (fun c_6 => ?_) (fun c_6 => ?_)
    · have h := x_p c_6 h
      refine lv_iload_n hx hb dX7_does_60 rfl (lv_at hl 2 rfl) ?_
      refine lv_bipush (v := (6 : Int32)) hx hb dX7_does_61 (by decide) ?_
      refine lv_icmp_ne (tgt := 68) hx hb dX7_does_63 (by decide) (fun c_7 => ?_) (fun c_7 => ?_)
      · have h := x_n c_7 h
        refine lv_iload_n hx hb dX7_does_68 rfl (lv_at hl 2 rfl) ?_
        refine lv_bipush (v := (7 : Int32)) hx hb dX7_does_69 (by decide) ?_
        refine lv_icmp_ne (tgt := 92) hx hb dX7_does_71 (by decide) (fun c_8 => ?_) (fun c_8 => ?_)
        · have h := x_n c_8 h
          refine lv_iload_n hx hb dX7_does_92 rfl (lv_at hl 2 rfl) ?_
          refine lv_bipush (v := (8 : Int32)) hx hb dX7_does_93 (by decide) ?_
          refine lv_icmp_ne (tgt := 137) hx hb dX7_does_95 (by decide) (fun c_9 => ?_) (fun c_9 => ?_)
          · have h := x_n c_9 h
            refine lv_iload_n hx hb dX7_does_137 rfl (lv_at hl 2 rfl) ?_
            refine lv_bipush (v := (9 : Int32)) hx hb dX7_does_138 (by decide) ?_
            refine lv_icmp_ne (tgt := 195) hx hb dX7_does_140 (by decide) (fun c_10 => ?_) (fun c_10 => ?_)
            · have h := x_n c_10 h
              refine lv_iload_n hx hb dX7_does_195 rfl (lv_at hl 2 rfl) ?_
              refine lv_bipush (v := (10 : Int32)) hx hb dX7_does_196 (by decide) ?_
              refine lv_icmp_ne (tgt := 234) hx hb dX7_does_198 (by decide) (fun c_11 => ?_) (fun c_11 => ?_)
              · have h := x_n c_11 h
                refine lv_bipush (v := (20 : Int32)) hx hb dX7_does_234 (by decide) ?_
                cases h
                exact r_i X hP hD hS rfl dX7_does_236
              · have h := x_p c_11 h
                refine lv_aload_n hx hb dX7_does_201 rfl (lv_at hl 3 rfl) ?_
                refine va_get (D := D) (ci := 6) (v := .ref h_zn) (C := RX7) (T := TX7) (N := 30) hx hb hts i_X7_does_X7 hown hE.1 hP 0 rfl rfl 9 (by decide) (hts _ q_X7_does_5) (fun _ h9 => h9) rfl dX7_does_202 ?_
                refine lv_iload_n hx hb dX7_does_205 rfl (lv_at hl 1 rfl) ?_
                obtain ⟨g_12, h⟩ := x_gd h
                refine va_iald hx hb hE.1 hP 4 0 rfl rfl g_12 dX7_does_206 ?_
                refine lv_bipush (v := (8 : Int32)) hx hb dX7_does_207 (by decide) ?_
                refine lv_icmp_lt (tgt := 214) hx hb dX7_does_209 (by decide) (fun c_13 => ?_) (fun c_13 => ?_)
                · have h := x_p c_13 h
                  refine lv_aload_n hx hb dX7_does_214 rfl (lv_at hl 3 rfl) ?_
                  refine lv_aload_n hx hb dX7_does_215 rfl (lv_at hl 3 rfl) ?_
                  refine va_get (D := D) (ci := 6) (v := .ref h_zn) (C := RX7) (T := TX7) (N := 30) hx hb hts i_X7_does_X7 hown hE.1 hP 0 rfl rfl 9 (by decide) (hts _ q_X7_does_5) (fun _ h9 => h9) rfl dX7_does_216 ?_
                  refine lv_iload_n hx hb dX7_does_219 rfl (lv_at hl 1 rfl) ?_
                  obtain ⟨g_14, h⟩ := x_gd h
                  refine va_iald hx hb hE.1 hP 4 0 rfl rfl g_14 dX7_does_220 ?_
                  refine lv_aload_n hx hb dX7_does_221 rfl (lv_at hl 3 rfl) ?_
                  refine va_get (D := D) (ci := 6) (v := .ref h_zn) (C := RX7) (T := TX7) (N := 30) hx hb hts i_X7_does_X7 hown hE.1 hP 0 rfl rfl 9 (by decide) (hts _ q_X7_does_5) (fun _ h9 => h9) rfl dX7_does_222 ?_
                  refine lv_iload hx hb dX7_does_225 (lv_at hl 0 rfl) ?_
                  obtain ⟨g_15, h⟩ := x_gd h
                  refine va_iald hx hb hE.1 hP 4 0 rfl rfl g_15 dX7_does_227 ?_
                  obtain ⟨t_16, hc, h⟩ := x_b h
                  refine c_V (q0 := 0) (ci := 6) (na := 2) (rest := []) (st1 := []) (Wr := [(h_zo, .inl (cI, 20, .inl v_zo)), (h_za, .inl (cI, 20, .inl v_za)), (h_zb, .inl (cI, 20, .inl v_zb)), (h_zt, .inl (cI, 12, .inl v_zt))]) (Wn := [(h_z, .inr (6, [.int v_z_orders, .ref h_zo, .ref h_za, .ref h_zb, .ref h_zc, .ref h_zk, .int v_z_hasBest, .ref h_ze, .int v_z_asked, .ref h_zn, .int v_z_tick, .int v_z_end, .int v_z_tellMany, .ref h_zt, .int v_z_flipCell, .int v_z_flipWide, .int v_z_sortOf, .int t_16.1, .int t_4.1, .int t_4.2.1, .int v_z_lookCell, .int v_z_lookFrom, .int t_16.2.1, .int v_z_plainEnd, .int v_z_plainTicks, .int v_z_plainMany, .ref h_zp, .ref h_zh, .ref h_zs, .long v_z_h])), (h_zo, .inl (cI, 20, .inl v_zo)), (h_za, .inl (cI, 20, .inl v_za)), (h_zb, .inl (cI, 20, .inl v_zb)), (h_zn, .inl (cI, 8, .inl t_16.2.2)), (h_zt, .inl (cI, 12, .inl v_zt))]) X hP hD hS hl.1 (m_X7_write l D cI pt h_z h_zo h_za h_zb h_zc h_zk h_ze h_zn h_zt h_zp h_zh h_zs v_z_orders v_z_hasBest v_z_asked v_z_tick v_z_end v_z_tellMany v_z_flipCell v_z_flipWide v_z_sortOf v_z_isStruck t_4.1 t_4.2.1 v_z_lookCell v_z_lookFrom t_4.2.2 v_z_plainEnd v_z_plainTicks v_z_plainMany v_z_h v_zn (v_zn (v_za a0.toNatClampNeg).toNatClampNeg) (v_zn (v_zb a0.toNatClampNeg).toNatClampNeg) fu _ hc) gX7_does_X7_write rfl ⟨rfl, rfl⟩ rfl (by decide +kernel) ⟨Nat.le_of_ble_eq_true rfl, Nat.le_of_ble_eq_true rfl⟩ rfl rfl [0, 4] [1, 2, 3, 5] [4, 0, 1, 2, 5, 3] rfl rfl rfl rfl rfl (by decide) rfl rfl (Nat.le_of_ble_eq_true rfl) dX7_does_228 ⟨Nat.zero_le _, Nat.zero_le _⟩ rfl rfl (fun H locs hP hD hS => ?_)
                  refine lv_goto (tgt := 237) hx hb dX7_does_231 (by decide) ?_
                  refine lv_iload_n hx hb dX7_does_237 rfl (lv_at hl 4 rfl) ?_
                  refine lv_iconst (v := (1 : Int32)) hx hb dX7_does_238 (by decide) ?_
                  refine lv_iadd hx hb dX7_does_239 ?_
                  cases h
                  exact r_i X hP hD hS rfl dX7_does_240
                · have h := x_n c_13 h
                  refine lv_iconst (v := (-1 : Int32)) hx hb dX7_does_212 (by decide) ?_
                  cases h
                  exact r_i X hP hD hS rfl dX7_does_213
            · have h := x_p c_10 h
              refine lv_aload_n hx hb dX7_does_143 rfl (lv_at hl 3 rfl) ?_
              refine va_get (D := D) (ci := 6) (v := .ref h_zn) (C := RX7) (T := TX7) (N := 30) hx hb hts i_X7_does_X7 hown hE.1 hP 0 rfl rfl 9 (by decide) (hts _ q_X7_does_5) (fun _ h9 => h9) rfl dX7_does_144 ?_
              refine lv_iload hx hb dX7_does_147 (lv_at hl 0 rfl) ?_
              obtain ⟨g_17, h⟩ := x_gd h
              refine va_iald hx hb hE.1 hP 4 0 rfl rfl g_17 dX7_does_149 ?_
              refine lv_bipush (v := (8 : Int32)) hx hb dX7_does_150 (by decide) ?_
              refine lv_icmp_lt (tgt := 157) hx hb dX7_does_152 (by decide) (fun c_18 => ?_) (fun c_18 => ?_)
              · have h := x_p c_18 h
                refine lv_aload_n hx hb dX7_does_157 rfl (lv_at hl 3 rfl) ?_
                refine lv_aload_n hx hb dX7_does_158 rfl (lv_at hl 3 rfl) ?_
                refine va_get (D := D) (ci := 6) (v := .ref h_zn) (C := RX7) (T := TX7) (N := 30) hx hb hts i_X7_does_X7 hown hE.1 hP 0 rfl rfl 9 (by decide) (hts _ q_X7_does_5) (fun _ h9 => h9) rfl dX7_does_159 ?_
                refine lv_iload hx hb dX7_does_162 (lv_at hl 0 rfl) ?_
                obtain ⟨g_19, h⟩ := x_gd h
                refine va_iald hx hb hE.1 hP 4 0 rfl rfl g_19 dX7_does_164 ?_
                obtain ⟨t_20, hc, h⟩ := x_b h
                refine c_V (q0 := 0) (ci := 6) (na := 1) (rest := []) (st1 := []) (Wr := [(h_zo, .inl (cI, 20, .inl v_zo)), (h_za, .inl (cI, 20, .inl v_za)), (h_zb, .inl (cI, 20, .inl v_zb)), (h_zn, .inl (cI, 8, .inl v_zn)), (h_zt, .inl (cI, 12, .inl v_zt))]) (Wn := [(h_z, .inr (6, [.int v_z_orders, .ref h_zo, .ref h_za, .ref h_zb, .ref h_zc, .ref h_zk, .int v_z_hasBest, .ref h_ze, .int v_z_asked, .ref h_zn, .int v_z_tick, .int v_z_end, .int v_z_tellMany, .ref h_zt, .int v_z_flipCell, .int v_z_flipWide, .int v_z_sortOf, .int v_z_isStruck, .int t_20.1, .int t_20.2.1, .int v_z_lookCell, .int v_z_lookFrom, .int t_20.2.2, .int v_z_plainEnd, .int v_z_plainTicks, .int v_z_plainMany, .ref h_zp, .ref h_zh, .ref h_zs, .long v_z_h])), (h_zo, .inl (cI, 20, .inl v_zo)), (h_za, .inl (cI, 20, .inl v_za)), (h_zb, .inl (cI, 20, .inl v_zb)), (h_zn, .inl (cI, 8, .inl v_zn)), (h_zt, .inl (cI, 12, .inl v_zt))]) X hP hD hS hl.1 (m_X7_read l D cI pt h_z h_zo h_za h_zb h_zc h_zk h_ze h_zn h_zt h_zp h_zh h_zs v_z_orders v_z_hasBest v_z_asked v_z_tick v_z_end v_z_tellMany v_z_flipCell v_z_flipWide v_z_sortOf v_z_isStruck t_4.1 t_4.2.1 v_z_lookCell v_z_lookFrom t_4.2.2 v_z_plainEnd v_z_plainTicks v_z_plainMany v_z_h (v_zn (v_zb a0.toNatClampNeg).toNatClampNeg) fu _ hc) gX7_does_X7_read rfl ⟨rfl, rfl⟩ rfl (by decide +kernel) ⟨Nat.le_of_ble_eq_true rfl, Nat.le_of_ble_eq_true rfl⟩ rfl rfl [0] [1, 2, 3, 4, 5] [5, 0, 1, 2, 3, 4] rfl rfl rfl rfl rfl (by decide) rfl rfl (Nat.le_of_ble_eq_true rfl) dX7_does_165 ⟨Nat.zero_le _, Nat.zero_le _⟩ rfl rfl (fun H locs hP hD hS => ?_)
                refine lv_aload_n hx hb dX7_does_168 rfl (lv_at hl 3 rfl) ?_
                refine va_get (D := D) (ci := 6) (v := .int t_20.2.1) (C := RX7) (T := TX7) (N := 30) hx hb hts i_X7_does_X7 hown hE.1 hP 0 rfl rfl 19 (by decide) (hts _ q_X7_does_4) (fun _ h9 => h9) rfl dX7_does_169 ?_
                refine lv_if_ne (tgt := 237) hx hb dX7_does_172 (by decide) (fun c_21 => ?_) (fun c_21 => ?_)
                · have h := x_n c_21 h
                  refine lv_iload_n hx hb dX7_does_237 rfl (lv_at hl 4 rfl) ?_
                  refine lv_iconst (v := (1 : Int32)) hx hb dX7_does_238 (by decide) ?_
                  refine lv_iadd hx hb dX7_does_239 ?_
                  cases h
                  exact r_i X hP hD hS rfl dX7_does_240
                · have h := x_p c_21 h
                  refine lv_aload_n hx hb dX7_does_175 rfl (lv_at hl 3 rfl) ?_
                  refine lv_iload_n hx hb dX7_does_176 rfl (lv_at hl 1 rfl) ?_
                  refine lv_aload_n hx hb dX7_does_177 rfl (lv_at hl 3 rfl) ?_
                  refine va_get (D := D) (ci := 6) (v := .ref h_zn) (C := RX7) (T := TX7) (N := 30) hx hb hts i_X7_does_X7 hown hE.1 hP 0 rfl rfl 9 (by decide) (hts _ q_X7_does_5) (fun _ h9 => h9) rfl dX7_does_178 ?_
                  refine lv_aload_n hx hb dX7_does_181 rfl (lv_at hl 3 rfl) ?_
                  refine va_get (D := D) (ci := 6) (v := .ref h_zn) (C := RX7) (T := TX7) (N := 30) hx hb hts i_X7_does_X7 hown hE.1 hP 0 rfl rfl 9 (by decide) (hts _ q_X7_does_5) (fun _ h9 => h9) rfl dX7_does_182 ?_
                  refine lv_iload hx hb dX7_does_185 (lv_at hl 0 rfl) ?_
                  obtain ⟨g_22, h⟩ := x_gd h
                  refine va_iald hx hb hE.1 hP 4 0 rfl rfl g_22 dX7_does_187 ?_
                  obtain ⟨g_23, h⟩ := x_gd h
                  refine va_iald hx hb hE.1 hP 4 0 rfl rfl g_23 dX7_does_188 ?_
                  obtain ⟨t_24, hc, h⟩ := x_b h
                  refine c_V (q0 := 0) (ci := 6) (na := 2) (rest := []) (st1 := []) (Wr := [(h_zo, .inl (cI, 20, .inl v_zo)), (h_za, .inl (cI, 20, .inl v_za)), (h_zb, .inl (cI, 20, .inl v_zb)), (h_zt, .inl (cI, 12, .inl v_zt))]) (Wn := [(h_z, .inr (6, [.int v_z_orders, .ref h_zo, .ref h_za, .ref h_zb, .ref h_zc, .ref h_zk, .int v_z_hasBest, .ref h_ze, .int v_z_asked, .ref h_zn, .int v_z_tick, .int v_z_end, .int v_z_tellMany, .ref h_zt, .int v_z_flipCell, .int v_z_flipWide, .int v_z_sortOf, .int t_24.1, .int t_20.1, .int t_20.2.1, .int v_z_lookCell, .int v_z_lookFrom, .int t_24.2.1, .int v_z_plainEnd, .int v_z_plainTicks, .int v_z_plainMany, .ref h_zp, .ref h_zh, .ref h_zs, .long v_z_h])), (h_zo, .inl (cI, 20, .inl v_zo)), (h_za, .inl (cI, 20, .inl v_za)), (h_zb, .inl (cI, 20, .inl v_zb)), (h_zn, .inl (cI, 8, .inl t_24.2.2)), (h_zt, .inl (cI, 12, .inl v_zt))]) X hP hD hS hl.1 (m_X7_write l D cI pt h_z h_zo h_za h_zb h_zc h_zk h_ze h_zn h_zt h_zp h_zh h_zs v_z_orders v_z_hasBest v_z_asked v_z_tick v_z_end v_z_tellMany v_z_flipCell v_z_flipWide v_z_sortOf v_z_isStruck t_20.1 t_20.2.1 v_z_lookCell v_z_lookFrom t_20.2.2 v_z_plainEnd v_z_plainTicks v_z_plainMany v_z_h v_zn (v_za a0.toNatClampNeg) (v_zn (v_zn (v_zb a0.toNatClampNeg).toNatClampNeg).toNatClampNeg) fu _ hc) gX7_does_X7_write rfl ⟨rfl, rfl⟩ rfl (by decide +kernel) ⟨Nat.le_of_ble_eq_true rfl, Nat.le_of_ble_eq_true rfl⟩ rfl rfl [0, 4] [1, 2, 3, 5] [4, 0, 1, 2, 5, 3] rfl rfl rfl rfl rfl (by decide) rfl rfl (Nat.le_of_ble_eq_true rfl) dX7_does_189 ⟨Nat.zero_le _, Nat.zero_le _⟩ rfl rfl (fun H locs hP hD hS => ?_)
                  refine lv_goto (tgt := 237) hx hb dX7_does_192 (by decide) ?_
                  refine lv_iload_n hx hb dX7_does_237 rfl (lv_at hl 4 rfl) ?_
                  refine lv_iconst (v := (1 : Int32)) hx hb dX7_does_238 (by decide) ?_
                  refine lv_iadd hx hb dX7_does_239 ?_
                  cases h
                  exact r_i X hP hD hS rfl dX7_does_240
              · have h := x_n c_18 h
                refine lv_iconst (v := (-1 : Int32)) hx hb dX7_does_155 (by decide) ?_
                cases h
                exact r_i X hP hD hS rfl dX7_does_156
          · have h := x_p c_9 h
            refine lv_aload_n hx hb dX7_does_98 rfl (lv_at hl 3 rfl) ?_
            refine va_get (D := D) (ci := 6) (v := .int v_z_tellMany) (C := RX7) (T := TX7) (N := 30) hx hb hts i_X7_does_X7 hown hE.1 hP 0 rfl rfl 12 (by decide) (hts _ q_X7_does_6) (fun _ h9 => h9) rfl dX7_does_99 ?_
            refine lv_bipush (v := (12 : Int32)) hx hb dX7_does_102 (by decide) ?_
            refine lv_icmp_ne (tgt := 109) hx hb dX7_does_104 (by decide) (fun c_25 => ?_) (fun c_25 => ?_)
            · have h := x_n c_25 h
              refine lv_aload_n hx hb dX7_does_109 rfl (lv_at hl 3 rfl) ?_
              refine va_get (D := D) (ci := 6) (v := .ref h_zt) (C := RX7) (T := TX7) (N := 30) hx hb hts i_X7_does_X7 hown hE.1 hP 0 rfl rfl 13 (by decide) (hts _ q_X7_does_7) (fun _ h9 => h9) rfl dX7_does_110 ?_
              refine lv_aload_n hx hb dX7_does_113 rfl (lv_at hl 3 rfl) ?_
              refine va_get (D := D) (ci := 6) (v := .int v_z_tellMany) (C := RX7) (T := TX7) (N := 30) hx hb hts i_X7_does_X7 hown hE.1 hP 0 rfl rfl 12 (by decide) (hts _ q_X7_does_6) (fun _ h9 => h9) rfl dX7_does_114 ?_
              refine lv_aload_n hx hb dX7_does_117 rfl (lv_at hl 3 rfl) ?_
              refine va_get (D := D) (ci := 6) (v := .ref h_zn) (C := RX7) (T := TX7) (N := 30) hx hb hts i_X7_does_X7 hown hE.1 hP 0 rfl rfl 9 (by decide) (hts _ q_X7_does_5) (fun _ h9 => h9) rfl dX7_does_118 ?_
              refine lv_iload_n hx hb dX7_does_121 rfl (lv_at hl 1 rfl) ?_
              obtain ⟨g_26, h⟩ := x_gd h
              refine va_iald hx hb hE.1 hP 4 0 rfl rfl g_26 dX7_does_122 ?_
              obtain ⟨g_27, h⟩ := x_gd h
              refine va_iast hx hb hE.1 hP hD hS 5 0 rfl rfl g_27 dX7_does_123 (fun H locs hP hD hS => ?_)
              have hP : va_P D vwCl [(h_z, .inr (6, [.int v_z_orders, .ref h_zo, .ref h_za, .ref h_zb, .ref h_zc, .ref h_zk, .int v_z_hasBest, .ref h_ze, .int v_z_asked, .ref h_zn, .int v_z_tick, .int v_z_end, .int v_z_tellMany, .ref h_zt, .int v_z_flipCell, .int v_z_flipWide, .int v_z_sortOf, .int v_z_isStruck, .int t_4.1, .int t_4.2.1, .int v_z_lookCell, .int v_z_lookFrom, .int t_4.2.2, .int v_z_plainEnd, .int v_z_plainTicks, .int v_z_plainMany, .ref h_zp, .ref h_zh, .ref h_zs, .long v_z_h])), (h_zo, .inl (cI, 20, .inl v_zo)), (h_za, .inl (cI, 20, .inl v_za)), (h_zb, .inl (cI, 20, .inl v_zb)), (h_zn, .inl (cI, 8, .inl v_zn)), (h_zt, .inl (cI, 12, .inl (upd v_zt v_z_tellMany.toNatClampNeg (v_zn (v_za a0.toNatClampNeg).toNatClampNeg))))] H := hP
              have hD : va_D A [(h_z, .inr (6, [.int v_z_orders, .ref h_zo, .ref h_za, .ref h_zb, .ref h_zc, .ref h_zk, .int v_z_hasBest, .ref h_ze, .int v_z_asked, .ref h_zn, .int v_z_tick, .int v_z_end, .int v_z_tellMany, .ref h_zt, .int v_z_flipCell, .int v_z_flipWide, .int v_z_sortOf, .int v_z_isStruck, .int t_4.1, .int t_4.2.1, .int v_z_lookCell, .int v_z_lookFrom, .int t_4.2.2, .int v_z_plainEnd, .int v_z_plainTicks, .int v_z_plainMany, .ref h_zp, .ref h_zh, .ref h_zs, .long v_z_h])), (h_zo, .inl (cI, 20, .inl v_zo)), (h_za, .inl (cI, 20, .inl v_za)), (h_zb, .inl (cI, 20, .inl v_zb)), (h_zn, .inl (cI, 8, .inl v_zn)), (h_zt, .inl (cI, 12, .inl (upd v_zt v_z_tellMany.toNatClampNeg (v_zn (v_za a0.toNatClampNeg).toNatClampNeg))))] := hD
              refine lv_aload_n hx hb dX7_does_124 rfl (lv_at hl 3 rfl) ?_
              refine lv_dup hx hb dX7_does_125 rfl ?_
              refine va_get (D := D) (ci := 6) (v := .int v_z_tellMany) (C := RX7) (T := TX7) (N := 30) hx hb hts i_X7_does_X7 hown hE.1 hP 0 rfl rfl 12 (by decide) (hts _ q_X7_does_6) (fun _ h9 => h9) rfl dX7_does_126 ?_
              refine lv_iconst (v := (1 : Int32)) hx hb dX7_does_129 (by decide) ?_
              refine lv_iadd hx hb dX7_does_130 ?_
              refine va_put (D := D) (ci := 6) (v := .int (v_z_tellMany + (1 : Int32))) (ty := .int) (C := RX7) (T := TX7) (N := 30) hx hb hts i_X7_does_X7 tyX7 tyX7_ok nmX7 hown hE.1 hP hD hS 0 rfl rfl 12 (by decide) (hts _ q_X7_does_6) (fun _ h9 => h9) rfl (by decide +kernel) rfl rfl (Nat.le_of_ble_eq_true rfl) dX7_does_131 (fun H locs hP hD hS => ?_)
              have hP : va_P D vwCl [(h_z, .inr (6, [.int v_z_orders, .ref h_zo, .ref h_za, .ref h_zb, .ref h_zc, .ref h_zk, .int v_z_hasBest, .ref h_ze, .int v_z_asked, .ref h_zn, .int v_z_tick, .int v_z_end, .int (v_z_tellMany + (1 : Int32)), .ref h_zt, .int v_z_flipCell, .int v_z_flipWide, .int v_z_sortOf, .int v_z_isStruck, .int t_4.1, .int t_4.2.1, .int v_z_lookCell, .int v_z_lookFrom, .int t_4.2.2, .int v_z_plainEnd, .int v_z_plainTicks, .int v_z_plainMany, .ref h_zp, .ref h_zh, .ref h_zs, .long v_z_h])), (h_zo, .inl (cI, 20, .inl v_zo)), (h_za, .inl (cI, 20, .inl v_za)), (h_zb, .inl (cI, 20, .inl v_zb)), (h_zn, .inl (cI, 8, .inl v_zn)), (h_zt, .inl (cI, 12, .inl (upd v_zt v_z_tellMany.toNatClampNeg (v_zn (v_za a0.toNatClampNeg).toNatClampNeg))))] H := hP
              have hD : va_D A [(h_z, .inr (6, [.int v_z_orders, .ref h_zo, .ref h_za, .ref h_zb, .ref h_zc, .ref h_zk, .int v_z_hasBest, .ref h_ze, .int v_z_asked, .ref h_zn, .int v_z_tick, .int v_z_end, .int (v_z_tellMany + (1 : Int32)), .ref h_zt, .int v_z_flipCell, .int v_z_flipWide, .int v_z_sortOf, .int v_z_isStruck, .int t_4.1, .int t_4.2.1, .int v_z_lookCell, .int v_z_lookFrom, .int t_4.2.2, .int v_z_plainEnd, .int v_z_plainTicks, .int v_z_plainMany, .ref h_zp, .ref h_zh, .ref h_zs, .long v_z_h])), (h_zo, .inl (cI, 20, .inl v_zo)), (h_za, .inl (cI, 20, .inl v_za)), (h_zb, .inl (cI, 20, .inl v_zb)), (h_zn, .inl (cI, 8, .inl v_zn)), (h_zt, .inl (cI, 12, .inl (upd v_zt v_z_tellMany.toNatClampNeg (v_zn (v_za a0.toNatClampNeg).toNatClampNeg))))] := hD
              refine lv_goto (tgt := 237) hx hb dX7_does_134 (by decide) ?_
              refine lv_iload_n hx hb dX7_does_237 rfl (lv_at hl 4 rfl) ?_
              refine lv_iconst (v := (1 : Int32)) hx hb dX7_does_238 (by decide) ?_
              refine lv_iadd hx hb dX7_does_239 ?_
              cases h
              exact r_i X hP hD hS rfl dX7_does_240
            · have h := x_p c_25 h
              refine lv_iconst (v := (-1 : Int32)) hx hb dX7_does_107 (by decide) ?_
              cases h
              exact r_i X hP hD hS rfl dX7_does_108
        · have h := x_p c_8 h
          refine lv_aload_n hx hb dX7_does_74 rfl (lv_at hl 3 rfl) ?_
          refine va_get (D := D) (ci := 6) (v := .ref h_zn) (C := RX7) (T := TX7) (N := 30) hx hb hts i_X7_does_X7 hown hE.1 hP 0 rfl rfl 9 (by decide) (hts _ q_X7_does_5) (fun _ h9 => h9) rfl dX7_does_75 ?_
          refine lv_iload_n hx hb dX7_does_78 rfl (lv_at hl 1 rfl) ?_
          obtain ⟨g_28, h⟩ := x_gd h
          refine va_iald hx hb hE.1 hP 4 0 rfl rfl g_28 dX7_does_79 ?_
          refine lv_if_eq (tgt := 88) hx hb dX7_does_80 (by decide) (fun c_29 => ?_) (fun c_29 => ?_)
          · have h := x_p c_29 h
            refine lv_iload_n hx hb dX7_does_88 rfl (lv_at hl 4 rfl) ?_
            refine lv_iconst (v := (1 : Int32)) hx hb dX7_does_89 (by decide) ?_
            refine lv_iadd hx hb dX7_does_90 ?_
            cases h
            exact r_i X hP hD hS rfl dX7_does_91
          · have h := x_n c_29 h
            refine lv_iload hx hb dX7_does_83 (lv_at hl 0 rfl) ?_
            refine lv_goto (tgt := 91) hx hb dX7_does_85 (by decide) ?_
            cases h
            exact r_i X hP hD hS rfl dX7_does_91
      · have h := x_p c_7 h
        refine lv_iload_n hx hb dX7_does_66 rfl (lv_at hl 1 rfl) ?_
        cases h
        exact r_i X hP hD hS rfl dX7_does_67
    · have h := x_n c_6 h
      refine lv_aload_n hx hb dX7_does_44 rfl (lv_at hl 3 rfl) ?_
      refine lv_iload_n hx hb dX7_does_45 rfl (lv_at hl 1 rfl) ?_
      refine lv_aload_n hx hb dX7_does_46 rfl (lv_at hl 3 rfl) ?_
      refine lv_iload_n hx hb dX7_does_47 rfl (lv_at hl 2 rfl) ?_
      refine lv_iload_n hx hb dX7_does_48 rfl (lv_at hl 1 rfl) ?_
      refine lv_iload hx hb dX7_does_49 (lv_at hl 0 rfl) ?_
      obtain ⟨t_30, hc, h⟩ := x_b h
      refine c_V (q0 := 0) (ci := 6) (na := 3) (rest := [.int (v_za a0.toNatClampNeg), .ref h_z]) (st1 := [.int t_30, .int (v_za a0.toNatClampNeg), .ref h_z]) (Wr := [(h_zo, .inl (cI, 20, .inl v_zo)), (h_za, .inl (cI, 20, .inl v_za)), (h_zb, .inl (cI, 20, .inl v_zb)), (h_zt, .inl (cI, 12, .inl v_zt))]) (Wn := [(h_z, .inr (6, [.int v_z_orders, .ref h_zo, .ref h_za, .ref h_zb, .ref h_zc, .ref h_zk, .int v_z_hasBest, .ref h_ze, .int v_z_asked, .ref h_zn, .int v_z_tick, .int v_z_end, .int v_z_tellMany, .ref h_zt, .int v_z_flipCell, .int v_z_flipWide, .int v_z_sortOf, .int v_z_isStruck, .int t_4.1, .int t_4.2.1, .int v_z_lookCell, .int v_z_lookFrom, .int t_4.2.2, .int v_z_plainEnd, .int v_z_plainTicks, .int v_z_plainMany, .ref h_zp, .ref h_zh, .ref h_zs, .long v_z_h])), (h_zo, .inl (cI, 20, .inl v_zo)), (h_za, .inl (cI, 20, .inl v_za)), (h_zb, .inl (cI, 20, .inl v_zb)), (h_zn, .inl (cI, 8, .inl v_zn)), (h_zt, .inl (cI, 12, .inl v_zt))]) X hP hD hS hl.1 (m_X7_made l D cI pt h_z h_zo h_za h_zb h_zc h_zk h_ze h_zn h_zt h_zp h_zh h_zs v_z_orders v_z_hasBest v_z_asked v_z_tick v_z_end v_z_tellMany v_z_flipCell v_z_flipWide v_z_sortOf v_z_isStruck t_4.1 t_4.2.1 v_z_lookCell v_z_lookFrom t_4.2.2 v_z_plainEnd v_z_plainTicks v_z_plainMany v_z_h v_zn (v_zo a0.toNatClampNeg) (v_za a0.toNatClampNeg) (v_zb a0.toNatClampNeg) fu _ hc) gX7_does_X7_made rfl ⟨rfl, rfl⟩ rfl (by decide +kernel) ⟨Nat.le_of_ble_eq_true rfl, Nat.le_of_ble_eq_true rfl⟩ rfl rfl [0, 4] [1, 2, 3, 5] [4, 0, 1, 2, 5, 3] rfl rfl rfl rfl rfl (by decide) rfl rfl (Nat.le_of_ble_eq_true rfl) dX7_does_51 ⟨Nat.zero_le _, Nat.zero_le _⟩ rfl rfl (fun H locs hP hD hS => ?_)
      obtain ⟨t_31, hc, h⟩ := x_b h
      refine c_V (q0 := 0) (ci := 6) (na := 2) (rest := []) (st1 := []) (Wr := [(h_zo, .inl (cI, 20, .inl v_zo)), (h_za, .inl (cI, 20, .inl v_za)), (h_zb, .inl (cI, 20, .inl v_zb)), (h_zt, .inl (cI, 12, .inl v_zt))]) (Wn := [(h_z, .inr (6, [.int v_z_orders, .ref h_zo, .ref h_za, .ref h_zb, .ref h_zc, .ref h_zk, .int v_z_hasBest, .ref h_ze, .int v_z_asked, .ref h_zn, .int v_z_tick, .int v_z_end, .int v_z_tellMany, .ref h_zt, .int v_z_flipCell, .int v_z_flipWide, .int v_z_sortOf, .int t_31.1, .int t_4.1, .int t_4.2.1, .int v_z_lookCell, .int v_z_lookFrom, .int t_31.2.1, .int v_z_plainEnd, .int v_z_plainTicks, .int v_z_plainMany, .ref h_zp, .ref h_zh, .ref h_zs, .long v_z_h])), (h_zo, .inl (cI, 20, .inl v_zo)), (h_za, .inl (cI, 20, .inl v_za)), (h_zb, .inl (cI, 20, .inl v_zb)), (h_zn, .inl (cI, 8, .inl t_31.2.2)), (h_zt, .inl (cI, 12, .inl v_zt))]) X hP hD hS hl.1 (m_X7_write l D cI pt h_z h_zo h_za h_zb h_zc h_zk h_ze h_zn h_zt h_zp h_zh h_zs v_z_orders v_z_hasBest v_z_asked v_z_tick v_z_end v_z_tellMany v_z_flipCell v_z_flipWide v_z_sortOf v_z_isStruck t_4.1 t_4.2.1 v_z_lookCell v_z_lookFrom t_4.2.2 v_z_plainEnd v_z_plainTicks v_z_plainMany v_z_h v_zn (v_za a0.toNatClampNeg) t_30 fu _ hc) gX7_does_X7_write rfl ⟨rfl, rfl⟩ rfl (by decide +kernel) ⟨Nat.le_of_ble_eq_true rfl, Nat.le_of_ble_eq_true rfl⟩ rfl rfl [0, 4] [1, 2, 3, 5] [4, 0, 1, 2, 5, 3] rfl rfl rfl rfl rfl (by decide) rfl rfl (Nat.le_of_ble_eq_true rfl) dX7_does_54 ⟨Nat.zero_le _, Nat.zero_le _⟩ rfl rfl (fun H locs hP hD hS => ?_)
      refine lv_goto (tgt := 237) hx hb dX7_does_57 (by decide) ?_
      refine lv_iload_n hx hb dX7_does_237 rfl (lv_at hl 4 rfl) ?_
      refine lv_iconst (v := (1 : Int32)) hx hb dX7_does_238 (by decide) ?_
      refine lv_iadd hx hb dX7_does_239 ?_
      cases h
      exact r_i X hP hD hS rfl dX7_does_240
  · have h := x_n c_5 h
    refine lv_iload_n hx hb dX7_does_37 rfl (lv_at hl 4 rfl) ?_
    cases h
    exact r_i X hP hD hS rfl dX7_does_38
