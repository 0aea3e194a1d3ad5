set_option maxHeartbeats 4000000 in
set_option maxRecDepth 100000 in
theorem m_X6_isCell (l : Launch) (D : va_G) (cI : ClassId) (pt : Nat)   (a0 : Int32) (fu : Nat) (res : Int32) (h : f_X6_isCell fu  a0 = some res) :
    MT l D cI pt yX6_isCell wsX6_isCell ({ frames := 0, cells := 0, slots := 0, locals := 0 } : Room) [.int a0] [] (some (.int res)) [] := by
  refine MT.mk (cc := cX6_isCell) (maxL := 1) (ret := (some .boolean)) (own := RX6) (by decide) rfl rfl (Nat.le_of_ble_eq_true rfl) rfl ?_
  intro p e s m args below meth c A ls X hP hD hS hl
  obtain ⟨hx, hb, hml, hown, hts, hr, hlk, hE, hH, hA⟩ := id X
  have hl : lv_has ls 1 [(0, .int a0)] := hl
  unfold f_X6_isCell at h
  refine lv_iload_n hx hb dX6_isCell_0 rfl (lv_at hl 0 rfl) ?_
  refine lv_if_lt (tgt := 14) hx hb dX6_isCell_1 (by decide) (fun c_1 => ?_) (fun c_1 => ?_)
  · have h := x_p c_1 h
    refine lv_iconst (v := (0 : Int32)) hx hb dX6_isCell_14 (by decide) ?_
    cases h
    exact r_z X hP hD hS rfl (Or.inl rfl) dX6_isCell_15
  · have h := x_n c_1 h
    refine lv_iload_n hx hb dX6_isCell_4 rfl (lv_at hl 0 rfl) ?_
    refine lv_bipush (v := (8 : Int32)) hx hb dX6_isCell_5 (by decide) ?_
    refine lv_icmp_ge (tgt := 14) hx hb dX6_isCell_7 (by decide) (fun c_2 => ?_) (fun c_2 => ?_)
    · have h := x_p c_2 h
      refine lv_iconst (v := (0 : Int32)) hx hb dX6_isCell_14 (by decide) ?_
      cases h
      exact r_z X hP hD hS rfl (Or.inl rfl) dX6_isCell_15
    · have h := x_n c_2 h
      refine lv_iconst (v := (1 : Int32)) hx hb dX6_isCell_10 (by decide) ?_
      refine lv_goto (tgt := 15) hx hb dX6_isCell_11 (by decide) ?_
      cases h
      exact r_z X hP hD hS rfl (Or.inr rfl) dX6_isCell_15

theorem q_X4_has_0 : (.fieldLink RX4 28 "StruckBits$Program" "length" "I" : Cond) ∈ wsX4_has := by decide +kernel
theorem i_X4_has_X4 : ∀ w ∈ u_ws RX4 TX4 4, w ∈ wsX4_has := by decide +kernel
set_option maxHeartbeats 4000000 in
set_option maxRecDepth 100000 in
theorem m_X4_has (l : Launch) (D : va_G) (cI : ClassId) (pt : Nat) (h_p h_po h_pf h_ps : Nat) (v_p_length : Int32) (a0 : Int32) (fu : Nat) (res : Int32) (h : f_X4_has fu v_p_length a0 = some res) :
    MT l D cI pt yX4_has wsX4_has ({ frames := 0, cells := 0, slots := 0, locals := 0 } : Room) [.ref h_p, .int a0] [(h_p, .inr (3, [.ref h_po, .ref h_pf, .ref h_ps, .int v_p_length]))] (some (.int res)) [(h_p, .inr (3, [.ref h_po, .ref h_pf, .ref h_ps, .int v_p_length]))] := by
  refine MT.mk (cc := cX4_has) (maxL := 2) (ret := (some .boolean)) (own := RX4) (by decide) rfl rfl (Nat.le_of_ble_eq_true rfl) rfl ?_
  intro p e s m args below meth c A ls X hP hD hS hl
  obtain ⟨hx, hb, hml, hown, hts, hr, hlk, hE, hH, hA⟩ := id X
  have hl : lv_has ls 2 [(0, .ref h_p), (1, .int a0)] := hl
  unfold f_X4_has at h
  refine lv_iload_n hx hb dX4_has_0 rfl (lv_at hl 1 rfl) ?_
  refine lv_if_lt (tgt := 16) hx hb dX4_has_1 (by decide) (fun c_1 => ?_) (fun c_1 => ?_)
  · have h := x_p c_1 h
    refine lv_iconst (v := (0 : Int32)) hx hb dX4_has_16 (by decide) ?_
    cases h
    exact r_z X hP hD hS rfl (Or.inl rfl) dX4_has_17
  · have h := x_n c_1 h
    refine lv_iload_n hx hb dX4_has_4 rfl (lv_at hl 1 rfl) ?_
    refine lv_aload_n hx hb dX4_has_5 rfl (lv_at hl 0 rfl) ?_
    refine va_get (D := D) (ci := 3) (v := .int v_p_length) (C := RX4) (T := TX4) (N := 4) hx hb hts i_X4_has_X4 hown hE.1 hP 0 rfl rfl 3 (by decide) (hts _ q_X4_has_0) (fun _ h9 => h9) rfl dX4_has_6 ?_
    refine lv_icmp_ge (tgt := 16) hx hb dX4_has_9 (by decide) (fun c_2 => ?_) (fun c_2 => ?_)
    · have h := x_p c_2 h
      refine lv_iconst (v := (0 : Int32)) hx hb dX4_has_16 (by decide) ?_
      cases h
      exact r_z X hP hD hS rfl (Or.inl rfl) dX4_has_17
    · have h := x_n c_2 h
      refine lv_iconst (v := (1 : Int32)) hx hb dX4_has_12 (by decide) ?_
      refine lv_goto (tgt := 17) hx hb dX4_has_13 (by decide) ?_
      cases h
      exact r_z X hP hD hS rfl (Or.inr rfl) dX4_has_17

theorem q_X3_read_0 : (.fieldLink RX3 50 "StruckBits$Machine" "readNow" "I" : Cond) ∈ wsX3_read := by decide +kernel
theorem i_X3_read_X3 : ∀ w ∈ u_ws RX3 TX3 10, w ∈ wsX3_read := by decide +kernel
theorem q_X3_read_2 : (.fieldLink RX3 9 "StruckBits$Machine" "cells" "[I" : Cond) ∈ wsX3_read := by decide +kernel
set_option maxHeartbeats 4000000 in
set_option maxRecDepth 100000 in
theorem m_X3_read (l : Launch) (D : va_G) (cI : ClassId) (pt : Nat) (h_p h_m h_mc h_mr : Nat) (v_m_rowLength : Int32) (v_m_next : Int32) (v_m_tick : Int32) (v_m_ending : Int32) (v_m_readNow : Int32) (v_m_writtenNow : Int32) (v_m_writtenSince : Int32) (v_mc : Nat → Int32) (a0 : Int32) (fu : Nat) (res : Int32 × Int32) (h : f_X3_read fu v_m_readNow v_mc a0 = some res) :
    MT l D cI pt yX3_read wsX3_read ({ frames := 0, cells := 0, slots := 0, locals := 0 } : Room) [.ref h_m, .int a0] [(h_m, .inr (2, [.ref h_p, .ref h_mc, .ref h_mr, .int v_m_rowLength, .int v_m_next, .int v_m_tick, .int v_m_ending, .int v_m_readNow, .int v_m_writtenNow, .int v_m_writtenSince])), (h_mc, .inl (cI, 8, .inl v_mc))] (some (.int res.1)) [(h_m, .inr (2, [.ref h_p, .ref h_mc, .ref h_mr, .int v_m_rowLength, .int v_m_next, .int v_m_tick, .int v_m_ending, .int res.2, .int v_m_writtenNow, .int v_m_writtenSince])), (h_mc, .inl (cI, 8, .inl v_mc))] := by
  refine MT.mk (cc := cX3_read) (maxL := 2) (ret := (some .int)) (own := RX3) (by decide) rfl rfl (Nat.le_of_ble_eq_true rfl) rfl ?_
  intro p e s m args below meth c A ls X hP hD hS hl
  obtain ⟨hx, hb, hml, hown, hts, hr, hlk, hE, hH, hA⟩ := id X
  have hl : lv_has ls 2 [(0, .ref h_m), (1, .int a0)] := hl
  unfold f_X3_read at h
  refine lv_aload_n hx hb dX3_read_0 rfl (lv_at hl 0 rfl) ?_
  refine lv_dup hx hb dX3_read_1 rfl ?_
  refine va_get (D := D) (ci := 2) (v := .int v_m_readNow) (C := RX3) (T := TX3) (N := 10) hx hb hts i_X3_read_X3 hown hE.1 hP 0 rfl rfl 7 (by decide) (hts _ q_X3_read_0) (fun _ h9 => h9) rfl dX3_read_2 ?_
  refine lv_iconst (v := (1 : Int32)) hx hb dX3_read_5 (by decide) ?_
  refine lv_iload_n hx hb dX3_read_6 rfl (lv_at hl 1 rfl) ?_
  refine lv_ishl hx hb dX3_read_7 ?_
  refine lv_ior hx hb dX3_read_8 ?_
  refine va_put (D := D) (ci := 2) (v := .int (v_m_readNow ||| ((1 : Int32) <<< (a0 &&& 31)))) (ty := .int) (C := RX3) (T := TX3) (N := 10) hx hb hts i_X3_read_X3 tyX3 tyX3_ok nmX3 hown hE.1 hP hD hS 0 rfl rfl 7 (by decide) (hts _ q_X3_read_0) (fun _ h9 => h9) rfl (by decide +kernel) rfl rfl (Nat.le_of_ble_eq_true rfl) dX3_read_9 (fun H locs hP hD hS => ?_)
  have hP : va_P D vwCl [(h_m, .inr (2, [.ref h_p, .ref h_mc, .ref h_mr, .int v_m_rowLength, .int v_m_next, .int v_m_tick, .int v_m_ending, .int (v_m_readNow ||| ((1 : Int32) <<< (a0 &&& 31))), .int v_m_writtenNow, .int v_m_writtenSince])), (h_mc, .inl (cI, 8, .inl v_mc))] H := hP
  have hD : va_D A [(h_m, .inr (2, [.ref h_p, .ref h_mc, .ref h_mr, .int v_m_rowLength, .int v_m_next, .int v_m_tick, .int v_m_ending, .int (v_m_readNow ||| ((1 : Int32) <<< (a0 &&& 31))), .int v_m_writtenNow, .int v_m_writtenSince])), (h_mc, .inl (cI, 8, .inl v_mc))] := hD
  refine lv_aload_n hx hb dX3_read_12 rfl (lv_at hl 0 rfl) ?_
  refine va_get (D := D) (ci := 2) (v := .ref h_mc) (C := RX3) (T := TX3) (N := 10) hx hb hts i_X3_read_X3 hown hE.1 hP 0 rfl rfl 1 (by decide) (hts _ q_X3_read_2) (fun _ h9 => h9) rfl dX3_read_13 ?_
  refine lv_iload_n hx hb dX3_read_16 rfl (lv_at hl 1 rfl) ?_
  obtain ⟨g_1, h⟩ := x_gd h
  refine va_iald hx hb hE.1 hP 1 0 rfl rfl g_1 dX3_read_17 ?_
  cases h
  exact r_i X hP hD hS rfl dX3_read_18

theorem q_X3_write_0 : (.fieldLink RX3 53 "StruckBits$Machine" "writtenNow" "I" : Cond) ∈ wsX3_write := by decide +kernel
theorem i_X3_write_X3 : ∀ w ∈ u_ws RX3 TX3 10, w ∈ wsX3_write := by decide +kernel
theorem q_X3_write_2 : (.fieldLink RX3 9 "StruckBits$Machine" "cells" "[I" : Cond) ∈ wsX3_write := by decide +kernel
set_option maxHeartbeats 4000000 in
set_option maxRecDepth 100000 in
theorem m_X3_write (l : Launch) (D : va_G) (cI : ClassId) (pt : Nat) (h_p h_m h_mc h_mr : Nat) (v_m_rowLength : Int32) (v_m_next : Int32) (v_m_tick : Int32) (v_m_ending : Int32) (v_m_readNow : Int32) (v_m_writtenNow : Int32) (v_m_writtenSince : Int32) (v_mc : Nat → Int32) (a0 : Int32) (a1 : Int32) (fu : Nat) (res : Int32 × (Nat → Int32)) (h : f_X3_write fu v_m_writtenNow v_mc a0 a1 = some res) :
    MT l D cI pt yX3_write wsX3_write ({ frames := 0, cells := 0, slots := 0, locals := 0 } : Room) [.ref h_m, .int a0, .int a1] [(h_m, .inr (2, [.ref h_p, .ref h_mc, .ref h_mr, .int v_m_rowLength, .int v_m_next, .int v_m_tick, .int v_m_ending, .int v_m_readNow, .int v_m_writtenNow, .int v_m_writtenSince])), (h_mc, .inl (cI, 8, .inl v_mc))] none [(h_m, .inr (2, [.ref h_p, .ref h_mc, .ref h_mr, .int v_m_rowLength, .int v_m_next, .int v_m_tick, .int v_m_ending, .int v_m_readNow, .int res.1, .int v_m_writtenSince])), (h_mc, .inl (cI, 8, .inl res.2))] := by
  refine MT.mk (cc := cX3_write) (maxL := 3) (ret := none) (own := RX3) (by decide) rfl rfl (Nat.le_of_ble_eq_true rfl) rfl ?_
  intro p e s m args below meth c A ls X hP hD hS hl
  obtain ⟨hx, hb, hml, hown, hts, hr, hlk, hE, hH, hA⟩ := id X
  have hl : lv_has ls 3 [(0, .ref h_m), (1, .int a0), (2, .int a1)] := hl
  unfold f_X3_write at h
  refine lv_aload_n hx hb dX3_write_0 rfl (lv_at hl 0 rfl) ?_
  refine lv_dup hx hb dX3_write_1 rfl ?_
  refine va_get (D := D) (ci := 2) (v := .int v_m_writtenNow) (C := RX3) (T := TX3) (N := 10) hx hb hts i_X3_write_X3 hown hE.1 hP 0 rfl rfl 8 (by decide) (hts _ q_X3_write_0) (fun _ h9 => h9) rfl dX3_write_2 ?_
  refine lv_iconst (v := (1 : Int32)) hx hb dX3_write_5 (by decide) ?_
  refine lv_iload_n hx hb dX3_write_6 rfl (lv_at hl 1 rfl) ?_
  refine lv_ishl hx hb dX3_write_7 ?_
  refine lv_ior hx hb dX3_write_8 ?_
  refine va_put (D := D) (ci := 2) (v := .int (v_m_writtenNow ||| ((1 : Int32) <<< (a0 &&& 31)))) (ty := .int) (C := RX3) (T := TX3) (N := 10) hx hb hts i_X3_write_X3 tyX3 tyX3_ok nmX3 hown hE.1 hP hD hS 0 rfl rfl 8 (by decide) (hts _ q_X3_write_0) (fun _ h9 => h9) rfl (by decide +kernel) rfl rfl (Nat.le_of_ble_eq_true rfl) dX3_write_9 (fun H locs hP hD hS => ?_)
  have hP : va_P D vwCl [(h_m, .inr (2, [.ref h_p, .ref h_mc, .ref h_mr, .int v_m_rowLength, .int v_m_next, .int v_m_tick, .int v_m_ending, .int v_m_readNow, .int (v_m_writtenNow ||| ((1 : Int32) <<< (a0 &&& 31))), .int v_m_writtenSince])), (h_mc, .inl (cI, 8, .inl v_mc))] H := hP
  have hD : va_D A [(h_m, .inr (2, [.ref h_p, .ref h_mc, .ref h_mr, .int v_m_rowLength, .int v_m_next, .int v_m_tick, .int v_m_ending, .int v_m_readNow, .int (v_m_writtenNow ||| ((1 : Int32) <<< (a0 &&& 31))), .int v_m_writtenSince])), (h_mc, .inl (cI, 8, .inl v_mc))] := hD
  refine lv_aload_n hx hb dX3_write_12 rfl (lv_at hl 0 rfl) ?_
  refine va_get (D := D) (ci := 2) (v := .ref h_mc) (C := RX3) (T := TX3) (N := 10) hx hb hts i_X3_write_X3 hown hE.1 hP 0 rfl rfl 1 (by decide) (hts _ q_X3_write_2) (fun _ h9 => h9) rfl dX3_write_13 ?_
  refine lv_iload_n hx hb dX3_write_16 rfl (lv_at hl 1 rfl) ?_
  refine lv_iload_n hx hb dX3_write_17 rfl (lv_at hl 2 rfl) ?_
  obtain ⟨g_1, h⟩ := x_gd h
  refine va_iast hx hb hE.1 hP hD hS 1 0 rfl rfl g_1 dX3_write_18 (fun H locs hP hD hS => ?_)
  have hP : va_P D vwCl [(h_m, .inr (2, [.ref h_p, .ref h_mc, .ref h_mr, .int v_m_rowLength, .int v_m_next, .int v_m_tick, .int v_m_ending, .int v_m_readNow, .int (v_m_writtenNow ||| ((1 : Int32) <<< (a0 &&& 31))), .int v_m_writtenSince])), (h_mc, .inl (cI, 8, .inl (upd v_mc a0.toNatClampNeg a1)))] H := hP
  have hD : va_D A [(h_m, .inr (2, [.ref h_p, .ref h_mc, .ref h_mr, .int v_m_rowLength, .int v_m_next, .int v_m_tick, .int v_m_ending, .int v_m_readNow, .int (v_m_writtenNow ||| ((1 : Int32) <<< (a0 &&& 31))), .int v_m_writtenSince])), (h_mc, .inl (cI, 8, .inl (upd v_mc a0.toNatClampNeg a1)))] := hD
  cases h
  exact r_v X hP hD hS rfl dX3_write_19

theorem q_X3_tell_0 : (.fieldLink RX3 32 "StruckBits$Machine" "rowLength" "I" : Cond) ∈ wsX3_tell := by decide +kernel
theorem i_X3_tell_X3 : ∀ w ∈ u_ws RX3 TX3 10, w ∈ wsX3_tell := by decide +kernel
theorem q_X3_tell_2 : (.fieldLink RX3 15 "StruckBits$Machine" "row" "[I" : Cond) ∈ wsX3_tell := by decide +kernel
theorem q_X3_tell_3 : (.fieldLink RX3 18 "StruckBits$Machine" "ending" "I" : Cond) ∈ wsX3_tell := by decide +kernel
set_option maxHeartbeats 4000000 in
set_option maxRecDepth 100000 in
theorem m_X3_tell (l : Launch) (D : va_G) (cI : ClassId) (pt : Nat) (h_p h_m h_mc h_mr : Nat) (v_m_rowLength : Int32) (v_m_next : Int32) (v_m_tick : Int32) (v_m_ending : Int32) (v_m_readNow : Int32) (v_m_writtenNow : Int32) (v_m_writtenSince : Int32) (v_mr : Nat → Int32) (a0 : Int32) (fu : Nat) (res : Int32 × Int32 × (Nat → Int32)) (h : f_X3_tell fu v_m_rowLength v_m_ending v_mr a0 = some res) :
    MT l D cI pt yX3_tell wsX3_tell ({ frames := 0, cells := 0, slots := 0, locals := 0 } : Room) [.ref h_m, .int a0] [(h_m, .inr (2, [.ref h_p, .ref h_mc, .ref h_mr, .int v_m_rowLength, .int v_m_next, .int v_m_tick, .int v_m_ending, .int v_m_readNow, .int v_m_writtenNow, .int v_m_writtenSince])), (h_mr, .inl (cI, 12, .inl v_mr))] none [(h_m, .inr (2, [.ref h_p, .ref h_mc, .ref h_mr, .int res.1, .int v_m_next, .int v_m_tick, .int res.2.1, .int v_m_readNow, .int v_m_writtenNow, .int v_m_writtenSince])), (h_mr, .inl (cI, 12, .inl res.2.2))] := by
  refine MT.mk (cc := cX3_tell) (maxL := 2) (ret := none) (own := RX3) (by decide) rfl rfl (Nat.le_of_ble_eq_true rfl) rfl ?_
  intro p e s m args below meth c A ls X hP hD hS hl
  obtain ⟨hx, hb, hml, hown, hts, hr, hlk, hE, hH, hA⟩ := id X
  have hl : lv_has ls 2 [(0, .ref h_m), (1, .int a0)] := hl
  unfold f_X3_tell at h
  refine lv_aload_n hx hb dX3_tell_0 rfl (lv_at hl 0 rfl) ?_
  refine va_get (D := D) (ci := 2) (v := .int v_m_rowLength) (C := RX3) (T := TX3) (N := 10) hx hb hts i_X3_tell_X3 hown hE.1 hP 0 rfl rfl 3 (by decide) (hts _ q_X3_tell_0) (fun _ h9 => h9) rfl dX3_tell_1 ?_
  refine lv_bipush (v := (12 : Int32)) hx hb dX3_tell_4 (by decide) ?_
  refine lv_icmp_lt (tgt := 15) hx hb dX3_tell_6 (by decide) (fun c_1 => ?_) (fun c_1 => ?_)
  · have h := x_p c_1 h
    refine lv_aload_n hx hb dX3_tell_15 rfl (lv_at hl 0 rfl) ?_
    refine va_get (D := D) (ci := 2) (v := .ref h_mr) (C := RX3) (T := TX3) (N := 10) hx hb hts i_X3_tell_X3 hown hE.1 hP 0 rfl rfl 2 (by decide) (hts _ q_X3_tell_2) (fun _ h9 => h9) rfl dX3_tell_16 ?_
    refine lv_aload_n hx hb dX3_tell_19 rfl (lv_at hl 0 rfl) ?_
    refine va_get (D := D) (ci := 2) (v := .int v_m_rowLength) (C := RX3) (T := TX3) (N := 10) hx hb hts i_X3_tell_X3 hown hE.1 hP 0 rfl rfl 3 (by decide) (hts _ q_X3_tell_0) (fun _ h9 => h9) rfl dX3_tell_20 ?_
    refine lv_iload_n hx hb dX3_tell_23 rfl (lv_at hl 1 rfl) ?_
    obtain ⟨g_2, h⟩ := x_gd h
    refine va_iast hx hb hE.1 hP hD hS 1 0 rfl rfl g_2 dX3_tell_24 (fun H locs hP hD hS => ?_)
    have hP : va_P D vwCl [(h_m, .inr (2, [.ref h_p, .ref h_mc, .ref h_mr, .int v_m_rowLength, .int v_m_next, .int v_m_tick, .int v_m_ending, .int v_m_readNow, .int v_m_writtenNow, .int v_m_writtenSince])), (h_mr, .inl (cI, 12, .inl (upd v_mr v_m_rowLength.toNatClampNeg a0)))] H := hP
    have hD : va_D A [(h_m, .inr (2, [.ref h_p, .ref h_mc, .ref h_mr, .int v_m_rowLength, .int v_m_next, .int v_m_tick, .int v_m_ending, .int v_m_readNow, .int v_m_writtenNow, .int v_m_writtenSince])), (h_mr, .inl (cI, 12, .inl (upd v_mr v_m_rowLength.toNatClampNeg a0)))] := hD
    refine lv_aload_n hx hb dX3_tell_25 rfl (lv_at hl 0 rfl) ?_
    refine lv_dup hx hb dX3_tell_26 rfl ?_
    refine va_get (D := D) (ci := 2) (v := .int v_m_rowLength) (C := RX3) (T := TX3) (N := 10) hx hb hts i_X3_tell_X3 hown hE.1 hP 0 rfl rfl 3 (by decide) (hts _ q_X3_tell_0) (fun _ h9 => h9) rfl dX3_tell_27 ?_
    refine lv_iconst (v := (1 : Int32)) hx hb dX3_tell_30 (by decide) ?_
    refine lv_iadd hx hb dX3_tell_31 ?_
    refine va_put (D := D) (ci := 2) (v := .int (v_m_rowLength + (1 : Int32))) (ty := .int) (C := RX3) (T := TX3) (N := 10) hx hb hts i_X3_tell_X3 tyX3 tyX3_ok nmX3 hown hE.1 hP hD hS 0 rfl rfl 3 (by decide) (hts _ q_X3_tell_0) (fun _ h9 => h9) rfl (by decide +kernel) rfl rfl (Nat.le_of_ble_eq_true rfl) dX3_tell_32 (fun H locs hP hD hS => ?_)
    have hP : va_P D vwCl [(h_m, .inr (2, [.ref h_p, .ref h_mc, .ref h_mr, .int (v_m_rowLength + (1 : Int32)), .int v_m_next, .int v_m_tick, .int v_m_ending, .int v_m_readNow, .int v_m_writtenNow, .int v_m_writtenSince])), (h_mr, .inl (cI, 12, .inl (upd v_mr v_m_rowLength.toNatClampNeg a0)))] H := hP
    have hD : va_D A [(h_m, .inr (2, [.ref h_p, .ref h_mc, .ref h_mr, .int (v_m_rowLength + (1 : Int32)), .int v_m_next, .int v_m_tick, .int v_m_ending, .int v_m_readNow, .int v_m_writtenNow, .int v_m_writtenSince])), (h_mr, .inl (cI, 12, .inl (upd v_mr v_m_rowLength.toNatClampNeg a0)))] := hD
    cases h
    exact r_v X hP hD hS rfl dX3_tell_35
  · have h := x_n c_1 h
    refine lv_aload_n hx hb dX3_tell_9 rfl (lv_at hl 0 rfl) ?_
    refine lv_iconst (v := (1 : Int32)) hx hb dX3_tell_10 (by decide) ?_
    refine va_put (D := D) (ci := 2) (v := .int (1 : Int32)) (ty := .int) (C := RX3) (T := TX3) (N := 10) hx hb hts i_X3_tell_X3 tyX3 tyX3_ok nmX3 hown hE.1 hP hD hS 0 rfl rfl 6 (by decide) (hts _ q_X3_tell_3) (fun _ h9 => h9) rfl (by decide +kernel) rfl rfl (Nat.le_of_ble_eq_true rfl) dX3_tell_11 (fun H locs hP hD hS => ?_)
    have hP : va_P D vwCl [(h_m, .inr (2, [.ref h_p, .ref h_mc, .ref h_mr, .int v_m_rowLength, .int v_m_next, .int v_m_tick, .int (1 : Int32), .int v_m_readNow, .int v_m_writtenNow, .int v_m_writtenSince])), (h_mr, .inl (cI, 12, .inl v_mr))] H := hP
    have hD : va_D A [(h_m, .inr (2, [.ref h_p, .ref h_mc, .ref h_mr, .int v_m_rowLength, .int v_m_next, .int v_m_tick, .int (1 : Int32), .int v_m_readNow, .int v_m_writtenNow, .int v_m_writtenSince])), (h_mr, .inl (cI, 12, .inl v_mr))] := hD
    cases h
    exact r_v X hP hD hS rfl dX3_tell_14

theorem q_X3_obey_0 : (.fieldLink RX3 29 "StruckBits$Machine" "next" "I" : Cond) ∈ wsX3_obey := by decide +kernel
theorem i_X3_obey_X3 : ∀ w ∈ u_ws RX3 TX3 10, w ∈ wsX3_obey := by decide +kernel
theorem q_X3_obey_2 : (.initialized RX6 : Cond) ∈ wsX3_obey := by decide +kernel
theorem q_X3_obey_3 : (.static yX6_isCell : Cond) ∈ wsX3_obey := by decide +kernel
theorem q_X3_obey_4 : (.fieldLink RX3 18 "StruckBits$Machine" "ending" "I" : Cond) ∈ wsX3_obey := by decide +kernel
set_option maxHeartbeats 4000000 in
set_option maxRecDepth 100000 in
theorem m_X3_obey (l : Launch) (D : va_G) (cI : ClassId) (pt : Nat) (h_p h_m h_mc h_mr : Nat) (v_m_rowLength : Int32) (v_m_next : Int32) (v_m_tick : Int32) (v_m_ending : Int32) (v_m_readNow : Int32) (v_m_writtenNow : Int32) (v_m_writtenSince : Int32) (v_mc : Nat → Int32) (v_mr : Nat → Int32) (a0 : Int32) (a1 : Int32) (a2 : Int32) (fu : Nat) (res : Int32 × Int32 × Int32 × Int32 × Int32 × (Nat → Int32) × (Nat → Int32)) (h : f_X3_obey fu v_m_rowLength v_m_next v_m_ending v_m_readNow v_m_writtenNow v_mc v_mr a0 a1 a2 = some res) :
    MT l D cI pt yX3_obey wsX3_obey ({ frames := 1, cells := 0, slots := 0, locals := 22 } : Room) [.ref h_m, .int a0, .int a1, .int a2] [(h_m, .inr (2, [.ref h_p, .ref h_mc, .ref h_mr, .int v_m_rowLength, .int v_m_next, .int v_m_tick, .int v_m_ending, .int v_m_readNow, .int v_m_writtenNow, .int v_m_writtenSince])), (h_mc, .inl (cI, 8, .inl v_mc)), (h_mr, .inl (cI, 12, .inl v_mr))] none [(h_m, .inr (2, [.ref h_p, .ref h_mc, .ref h_mr, .int res.1, .int res.2.1, .int v_m_tick, .int res.2.2.1, .int res.2.2.2.1, .int res.2.2.2.2.1, .int v_m_writtenSince])), (h_mc, .inl (cI, 8, .inl res.2.2.2.2.2.1)), (h_mr, .inl (cI, 12, .inl res.2.2.2.2.2.2))] := by
  refine MT.mk (cc := cX3_obey) (maxL := 7) (ret := none) (own := RX3) (by decide) rfl rfl (Nat.le_of_ble_eq_true rfl) rfl ?_
  intro p e s m args below meth c A ls X hP hD hS hl
  obtain ⟨hx, hb, hml, hown, hts, hr, hlk, hE, hH, hA⟩ := id X
  have hl : lv_has ls 7 [(0, .ref h_m), (1, .int a0), (2, .int a1), (3, .int a2)] := hl
  unfold f_X3_obey at h
  refine lv_iload_n hx hb dX3_obey_0 rfl (lv_at hl 1 rfl) ?_
  by_cases c_1 : a0 = (0 : Int32)
  · have h := x_p c_1 h
    refine lv_tableIn (tgt := 60) hx hb dX3_obey_1 (by rw [c_1]; decide +kernel) (by rw [c_1]; decide +kernel) (by rw [c_1]; first | rfl | decide +kernel) (by decide) ?_
    refine lv_aload_n hx hb dX3_obey_60 rfl (lv_at hl 0 rfl) ?_
    refine lv_iload_n hx hb dX3_obey_61 rfl (lv_at hl 2 rfl) ?_
    refine lv_iload_n hx hb dX3_obey_62 rfl (lv_at hl 3 rfl) ?_
    obtain ⟨t_2, hc, h⟩ := x_b h
    refine c_V (q0 := 0) (ci := 2) (na := 2) (rest := []) (st1 := []) (Wr := [(h_mr, .inl (cI, 12, .inl v_mr))]) (Wn := [(h_m, .inr (2, [.ref h_p, .ref h_mc, .ref h_mr, .int v_m_rowLength, .int v_m_next, .int v_m_tick, .int v_m_ending, .int v_m_readNow, .int t_2.1, .int v_m_writtenSince])), (h_mc, .inl (cI, 8, .inl t_2.2)), (h_mr, .inl (cI, 12, .inl v_mr))]) X hP hD hS hl.1 (m_X3_write l D cI pt h_p h_m h_mc h_mr v_m_rowLength v_m_next v_m_tick v_m_ending v_m_readNow v_m_writtenNow v_m_writtenSince v_mc a1 a2 fu _ hc) gX3_obey_X3_write rfl ⟨rfl, rfl⟩ rfl (by decide +kernel) ⟨Nat.le_of_ble_eq_true rfl, Nat.le_of_ble_eq_true rfl⟩ rfl rfl [0, 1] [2] [1, 2, 0] rfl rfl rfl rfl rfl (by decide) rfl rfl (Nat.le_of_ble_eq_true rfl) dX3_obey_63 ⟨Nat.zero_le _, Nat.zero_le _⟩ rfl rfl (fun H locs hP hD hS => ?_)
    refine lv_goto (tgt := 284) hx hb dX3_obey_66 (by decide) ?_
    cases h
    exact r_v X hP hD hS rfl dX3_obey_284
  · have h := x_n c_1 h
    by_cases c_3 : a0 = (1 : Int32)
    · have h := x_p c_3 h
      refine lv_tableIn (tgt := 69) hx hb dX3_obey_1 (by rw [c_3]; decide +kernel) (by rw [c_3]; decide +kernel) (by rw [c_3]; first | rfl | decide +kernel) (by decide) ?_
      refine lv_aload_n hx hb dX3_obey_69 rfl (lv_at hl 0 rfl) ?_
      refine lv_iload_n hx hb dX3_obey_70 rfl (lv_at hl 2 rfl) ?_
      refine lv_aload_n hx hb dX3_obey_71 rfl (lv_at hl 0 rfl) ?_
      refine lv_iload_n hx hb dX3_obey_72 rfl (lv_at hl 3 rfl) ?_
      obtain ⟨t_4, hc, h⟩ := x_b h
      refine c_V (q0 := 0) (ci := 2) (na := 1) (rest := [.int a1, .ref h_m]) (st1 := [.int t_4.1, .int a1, .ref h_m]) (Wr := [(h_mr, .inl (cI, 12, .inl v_mr))]) (Wn := [(h_m, .inr (2, [.ref h_p, .ref h_mc, .ref h_mr, .int v_m_rowLength, .int v_m_next, .int v_m_tick, .int v_m_ending, .int t_4.2, .int v_m_writtenNow, .int v_m_writtenSince])), (h_mc, .inl (cI, 8, .inl v_mc)), (h_mr, .inl (cI, 12, .inl v_mr))]) X hP hD hS hl.1 (m_X3_read l D cI pt h_p h_m h_mc h_mr v_m_rowLength v_m_next v_m_tick v_m_ending v_m_readNow v_m_writtenNow v_m_writtenSince v_mc a2 fu _ hc) gX3_obey_X3_read rfl ⟨rfl, rfl⟩ rfl (by decide +kernel) ⟨Nat.le_of_ble_eq_true rfl, Nat.le_of_ble_eq_true rfl⟩ rfl rfl [0, 1] [2] [1, 2, 0] rfl rfl rfl rfl rfl (by decide) rfl rfl (Nat.le_of_ble_eq_true rfl) dX3_obey_73 ⟨Nat.zero_le _, Nat.zero_le _⟩ rfl rfl (fun H locs hP hD hS => ?_)
      obtain ⟨t_5, hc, h⟩ := x_b h
      refine c_V (q0 := 0) (ci := 2) (na := 2) (rest := []) (st1 := []) (Wr := [(h_mr, .inl (cI, 12, .inl v_mr))]) (Wn := [(h_m, .inr (2, [.ref h_p, .ref h_mc, .ref h_mr, .int v_m_rowLength, .int v_m_next, .int v_m_tick, .int v_m_ending, .int t_4.2, .int t_5.1, .int v_m_writtenSince])), (h_mc, .inl (cI, 8, .inl t_5.2)), (h_mr, .inl (cI, 12, .inl v_mr))]) X hP hD hS hl.1 (m_X3_write l D cI pt h_p h_m h_mc h_mr v_m_rowLength v_m_next v_m_tick v_m_ending t_4.2 v_m_writtenNow v_m_writtenSince v_mc a1 t_4.1 fu _ hc) gX3_obey_X3_write rfl ⟨rfl, rfl⟩ rfl (by decide +kernel) ⟨Nat.le_of_ble_eq_true rfl, Nat.le_of_ble_eq_true rfl⟩ rfl rfl [0, 1] [2] [1, 2, 0] rfl rfl rfl rfl rfl (by decide) rfl rfl (Nat.le_of_ble_eq_true rfl) dX3_obey_76 ⟨Nat.zero_le _, Nat.zero_le _⟩ rfl rfl (fun H locs hP hD hS => ?_)
      refine lv_goto (tgt := 284) hx hb dX3_obey_79 (by decide) ?_
      cases h
      exact r_v X hP hD hS rfl dX3_obey_284
    · have h := x_n c_3 h
      by_cases c_6 : a0 = (2 : Int32)
      · have h := x_p c_6 h
        refine lv_tableIn (tgt := 82) hx hb dX3_obey_1 (by rw [c_6]; decide +kernel) (by rw [c_6]; decide +kernel) (by rw [c_6]; first | rfl | decide +kernel) (by decide) ?_
        refine lv_aload_n hx hb dX3_obey_82 rfl (lv_at hl 0 rfl) ?_
        refine lv_iload_n hx hb dX3_obey_83 rfl (lv_at hl 2 rfl) ?_
        refine lv_aload_n hx hb dX3_obey_84 rfl (lv_at hl 0 rfl) ?_
        refine lv_iload_n hx hb dX3_obey_85 rfl (lv_at hl 2 rfl) ?_
        obtain ⟨t_7, hc, h⟩ := x_b h
        refine c_V (q0 := 0) (ci := 2) (na := 1) (rest := [.int a1, .ref h_m]) (st1 := [.int t_7.1, .int a1, .ref h_m]) (Wr := [(h_mr, .inl (cI, 12, .inl v_mr))]) (Wn := [(h_m, .inr (2, [.ref h_p, .ref h_mc, .ref h_mr, .int v_m_rowLength, .int v_m_next, .int v_m_tick, .int v_m_ending, .int t_7.2, .int v_m_writtenNow, .int v_m_writtenSince])), (h_mc, .inl (cI, 8, .inl v_mc)), (h_mr, .inl (cI, 12, .inl v_mr))]) X hP hD hS hl.1 (m_X3_read l D cI pt h_p h_m h_mc h_mr v_m_rowLength v_m_next v_m_tick v_m_ending v_m_readNow v_m_writtenNow v_m_writtenSince v_mc a1 fu _ hc) gX3_obey_X3_read rfl ⟨rfl, rfl⟩ rfl (by decide +kernel) ⟨Nat.le_of_ble_eq_true rfl, Nat.le_of_ble_eq_true rfl⟩ rfl rfl [0, 1] [2] [1, 2, 0] rfl rfl rfl rfl rfl (by decide) rfl rfl (Nat.le_of_ble_eq_true rfl) dX3_obey_86 ⟨Nat.zero_le _, Nat.zero_le _⟩ rfl rfl (fun H locs hP hD hS => ?_)
        refine lv_aload_n hx hb dX3_obey_89 rfl (lv_at hl 0 rfl) ?_
        refine lv_iload_n hx hb dX3_obey_90 rfl (lv_at hl 3 rfl) ?_
        obtain ⟨t_8, hc, h⟩ := x_b h
        refine c_V (q0 := 0) (ci := 2) (na := 1) (rest := [.int t_7.1, .int a1, .ref h_m]) (st1 := [.int t_8.1, .int t_7.1, .int a1, .ref h_m]) (Wr := [(h_mr, .inl (cI, 12, .inl v_mr))]) (Wn := [(h_m, .inr (2, [.ref h_p, .ref h_mc, .ref h_mr, .int v_m_rowLength, .int v_m_next, .int v_m_tick, .int v_m_ending, .int t_8.2, .int v_m_writtenNow, .int v_m_writtenSince])), (h_mc, .inl (cI, 8, .inl v_mc)), (h_mr, .inl (cI, 12, .inl v_mr))]) X hP hD hS hl.1 (m_X3_read l D cI pt h_p h_m h_mc h_mr v_m_rowLength v_m_next v_m_tick v_m_ending t_7.2 v_m_writtenNow v_m_writtenSince v_mc a2 fu _ hc) gX3_obey_X3_read rfl ⟨rfl, rfl⟩ rfl (by decide +kernel) ⟨Nat.le_of_ble_eq_true rfl, Nat.le_of_ble_eq_true rfl⟩ rfl rfl [0, 1] [2] [1, 2, 0] rfl rfl rfl rfl rfl (by decide) rfl rfl (Nat.le_of_ble_eq_true rfl) dX3_obey_91 ⟨Nat.zero_le _, Nat.zero_le _⟩ rfl rfl (fun H locs hP hD hS => ?_)
        refine lv_iadd hx hb dX3_obey_94 ?_
        refine lv_sipush (v := (255 : Int32)) hx hb dX3_obey_95 (by decide) ?_
        refine lv_iand hx hb dX3_obey_98 ?_
        obtain ⟨t_9, hc, h⟩ := x_b h
        refine c_V (q0 := 0) (ci := 2) (na := 2) (rest := []) (st1 := []) (Wr := [(h_mr, .inl (cI, 12, .inl v_mr))]) (Wn := [(h_m, .inr (2, [.ref h_p, .ref h_mc, .ref h_mr, .int v_m_rowLength, .int v_m_next, .int v_m_tick, .int v_m_ending, .int t_8.2, .int t_9.1, .int v_m_writtenSince])), (h_mc, .inl (cI, 8, .inl t_9.2)), (h_mr, .inl (cI, 12, .inl v_mr))]) X hP hD hS hl.1 (m_X3_write l D cI pt h_p h_m h_mc h_mr v_m_rowLength v_m_next v_m_tick v_m_ending t_8.2 v_m_writtenNow v_m_writtenSince v_mc a1 ((t_7.1 + t_8.1) &&& (255 : Int32)) fu _ hc) gX3_obey_X3_write rfl ⟨rfl, rfl⟩ rfl (by decide +kernel) ⟨Nat.le_of_ble_eq_true rfl, Nat.le_of_ble_eq_true rfl⟩ rfl rfl [0, 1] [2] [1, 2, 0] rfl rfl rfl rfl rfl (by decide) rfl rfl (Nat.le_of_ble_eq_true rfl) dX3_obey_99 ⟨Nat.zero_le _, Nat.zero_le _⟩ rfl rfl (fun H locs hP hD hS => ?_)
        refine lv_goto (tgt := 284) hx hb dX3_obey_102 (by decide) ?_
        cases h
        exact r_v X hP hD hS rfl dX3_obey_284
      · have h := x_n c_6 h
        by_cases c_10 : a0 = (3 : Int32)
        · have h := x_p c_10 h
          refine lv_tableIn (tgt := 105) hx hb dX3_obey_1 (by rw [c_10]; decide +kernel) (by rw [c_10]; decide +kernel) (by rw [c_10]; first | rfl | decide +kernel) (by decide) ?_
          refine lv_aload_n hx hb dX3_obey_105 rfl (lv_at hl 0 rfl) ?_
          refine lv_iload_n hx hb dX3_obey_106 rfl (lv_at hl 2 rfl) ?_
          refine lv_aload_n hx hb dX3_obey_107 rfl (lv_at hl 0 rfl) ?_
          refine lv_iload_n hx hb dX3_obey_108 rfl (lv_at hl 2 rfl) ?_
          obtain ⟨t_11, hc, h⟩ := x_b h
          refine c_V (q0 := 0) (ci := 2) (na := 1) (rest := [.int a1, .ref h_m]) (st1 := [.int t_11.1, .int a1, .ref h_m]) (Wr := [(h_mr, .inl (cI, 12, .inl v_mr))]) (Wn := [(h_m, .inr (2, [.ref h_p, .ref h_mc, .ref h_mr, .int v_m_rowLength, .int v_m_next, .int v_m_tick, .int v_m_ending, .int t_11.2, .int v_m_writtenNow, .int v_m_writtenSince])), (h_mc, .inl (cI, 8, .inl v_mc)), (h_mr, .inl (cI, 12, .inl v_mr))]) X hP hD hS hl.1 (m_X3_read l D cI pt h_p h_m h_mc h_mr v_m_rowLength v_m_next v_m_tick v_m_ending v_m_readNow v_m_writtenNow v_m_writtenSince v_mc a1 fu _ hc) gX3_obey_X3_read rfl ⟨rfl, rfl⟩ rfl (by decide +kernel) ⟨Nat.le_of_ble_eq_true rfl, Nat.le_of_ble_eq_true rfl⟩ rfl rfl [0, 1] [2] [1, 2, 0] rfl rfl rfl rfl rfl (by decide) rfl rfl (Nat.le_of_ble_eq_true rfl) dX3_obey_109 ⟨Nat.zero_le _, Nat.zero_le _⟩ rfl rfl (fun H locs hP hD hS => ?_)
          refine lv_aload_n hx hb dX3_obey_112 rfl (lv_at hl 0 rfl) ?_
          refine lv_iload_n hx hb dX3_obey_113 rfl (lv_at hl 3 rfl) ?_
          obtain ⟨t_12, hc, h⟩ := x_b h
          refine c_V (q0 := 0) (ci := 2) (na := 1) (rest := [.int t_11.1, .int a1, .ref h_m]) (st1 := [.int t_12.1, .int t_11.1, .int a1, .ref h_m]) (Wr := [(h_mr, .inl (cI, 12, .inl v_mr))]) (Wn := [(h_m, .inr (2, [.ref h_p, .ref h_mc, .ref h_mr, .int v_m_rowLength, .int v_m_next, .int v_m_tick, .int v_m_ending, .int t_12.2, .int v_m_writtenNow, .int v_m_writtenSince])), (h_mc, .inl (cI, 8, .inl v_mc)), (h_mr, .inl (cI, 12, .inl v_mr))]) X hP hD hS hl.1 (m_X3_read l D cI pt h_p h_m h_mc h_mr v_m_rowLength v_m_next v_m_tick v_m_ending t_11.2 v_m_writtenNow v_m_writtenSince v_mc a2 fu _ hc) gX3_obey_X3_read rfl ⟨rfl, rfl⟩ rfl (by decide +kernel) ⟨Nat.le_of_ble_eq_true rfl, Nat.le_of_ble_eq_true rfl⟩ rfl rfl [0, 1] [2] [1, 2, 0] rfl rfl rfl rfl rfl (by decide) rfl rfl (Nat.le_of_ble_eq_true rfl) dX3_obey_114 ⟨Nat.zero_le _, Nat.zero_le _⟩ rfl rfl (fun H locs hP hD hS => ?_)
          refine lv_iand hx hb dX3_obey_117 ?_
          obtain ⟨t_13, hc, h⟩ := x_b h
          refine c_V (q0 := 0) (ci := 2) (na := 2) (rest := []) (st1 := []) (Wr := [(h_mr, .inl (cI, 12, .inl v_mr))]) (Wn := [(h_m, .inr (2, [.ref h_p, .ref h_mc, .ref h_mr, .int v_m_rowLength, .int v_m_next, .int v_m_tick, .int v_m_ending, .int t_12.2, .int t_13.1, .int v_m_writtenSince])), (h_mc, .inl (cI, 8, .inl t_13.2)), (h_mr, .inl (cI, 12, .inl v_mr))]) X hP hD hS hl.1 (m_X3_write l D cI pt h_p h_m h_mc h_mr v_m_rowLength v_m_next v_m_tick v_m_ending t_12.2 v_m_writtenNow v_m_writtenSince v_mc a1 (t_11.1 &&& t_12.1) fu _ hc) gX3_obey_X3_write rfl ⟨rfl, rfl⟩ rfl (by decide +kernel) ⟨Nat.le_of_ble_eq_true rfl, Nat.le_of_ble_eq_true rfl⟩ rfl rfl [0, 1] [2] [1, 2, 0] rfl rfl rfl rfl rfl (by decide) rfl rfl (Nat.le_of_ble_eq_true rfl) dX3_obey_118 ⟨Nat.zero_le _, Nat.zero_le _⟩ rfl rfl (fun H locs hP hD hS => ?_)
          refine lv_goto (tgt := 284) hx hb dX3_obey_121 (by decide) ?_
          cases h
          exact r_v X hP hD hS rfl dX3_obey_284
        · have h := x_n c_10 h
          by_cases c_14 : a0 = (4 : Int32)
          · have h := x_p c_14 h
            refine lv_tableIn (tgt := 124) hx hb dX3_obey_1 (by rw [c_14]; decide +kernel) (by rw [c_14]; decide +kernel) (by rw [c_14]; first | rfl | decide +kernel) (by decide) ?_
            refine lv_aload_n hx hb dX3_obey_124 rfl (lv_at hl 0 rfl) ?_
            refine lv_iload_n hx hb dX3_obey_125 rfl (lv_at hl 2 rfl) ?_
            refine lv_aload_n hx hb dX3_obey_126 rfl (lv_at hl 0 rfl) ?_
            refine lv_iload_n hx hb dX3_obey_127 rfl (lv_at hl 2 rfl) ?_
            obtain ⟨t_15, hc, h⟩ := x_b h
            refine c_V (q0 := 0) (ci := 2) (na := 1) (rest := [.int a1, .ref h_m]) (st1 := [.int t_15.1, .int a1, .ref h_m]) (Wr := [(h_mr, .inl (cI, 12, .inl v_mr))]) (Wn := [(h_m, .inr (2, [.ref h_p, .ref h_mc, .ref h_mr, .int v_m_rowLength, .int v_m_next, .int v_m_tick, .int v_m_ending, .int t_15.2, .int v_m_writtenNow, .int v_m_writtenSince])), (h_mc, .inl (cI, 8, .inl v_mc)), (h_mr, .inl (cI, 12, .inl v_mr))]) X hP hD hS hl.1 (m_X3_read l D cI pt h_p h_m h_mc h_mr v_m_rowLength v_m_next v_m_tick v_m_ending v_m_readNow v_m_writtenNow v_m_writtenSince v_mc a1 fu _ hc) gX3_obey_X3_read rfl ⟨rfl, rfl⟩ rfl (by decide +kernel) ⟨Nat.le_of_ble_eq_true rfl, Nat.le_of_ble_eq_true rfl⟩ rfl rfl [0, 1] [2] [1, 2, 0] rfl rfl rfl rfl rfl (by decide) rfl rfl (Nat.le_of_ble_eq_true rfl) dX3_obey_128 ⟨Nat.zero_le _, Nat.zero_le _⟩ rfl rfl (fun H locs hP hD hS => ?_)
            refine lv_aload_n hx hb dX3_obey_131 rfl (lv_at hl 0 rfl) ?_
            refine lv_iload_n hx hb dX3_obey_132 rfl (lv_at hl 3 rfl) ?_
            obtain ⟨t_16, hc, h⟩ := x_b h
            refine c_V (q0 := 0) (ci := 2) (na := 1) (rest := [.int t_15.1, .int a1, .ref h_m]) (st1 := [.int t_16.1, .int t_15.1, .int a1, .ref h_m]) (Wr := [(h_mr, .inl (cI, 12, .inl v_mr))]) (Wn := [(h_m, .inr (2, [.ref h_p, .ref h_mc, .ref h_mr, .int v_m_rowLength, .int v_m_next, .int v_m_tick, .int v_m_ending, .int t_16.2, .int v_m_writtenNow, .int v_m_writtenSince])), (h_mc, .inl (cI, 8, .inl v_mc)), (h_mr, .inl (cI, 12, .inl v_mr))]) X hP hD hS hl.1 (m_X3_read l D cI pt h_p h_m h_mc h_mr v_m_rowLength v_m_next v_m_tick v_m_ending t_15.2 v_m_writtenNow v_m_writtenSince v_mc a2 fu _ hc) gX3_obey_X3_read rfl ⟨rfl, rfl⟩ rfl (by decide +kernel) ⟨Nat.le_of_ble_eq_true rfl, Nat.le_of_ble_eq_true rfl⟩ rfl rfl [0, 1] [2] [1, 2, 0] rfl rfl rfl rfl rfl (by decide) rfl rfl (Nat.le_of_ble_eq_true rfl) dX3_obey_133 ⟨Nat.zero_le _, Nat.zero_le _⟩ rfl rfl (fun H locs hP hD hS => ?_)
            refine lv_ixor hx hb dX3_obey_136 ?_
            obtain ⟨t_17, hc, h⟩ := x_b h
            refine c_V (q0 := 0) (ci := 2) (na := 2) (rest := []) (st1 := []) (Wr := [(h_mr, .inl (cI, 12, .inl v_mr))]) (Wn := [(h_m, .inr (2, [.ref h_p, .ref h_mc, .ref h_mr, .int v_m_rowLength, .int v_m_next, .int v_m_tick, .int v_m_ending, .int t_16.2, .int t_17.1, .int v_m_writtenSince])), (h_mc, .inl (cI, 8, .inl t_17.2)), (h_mr, .inl (cI, 12, .inl v_mr))]) X hP hD hS hl.1 (m_X3_write l D cI pt h_p h_m h_mc h_mr v_m_rowLength v_m_next v_m_tick v_m_ending t_16.2 v_m_writtenNow v_m_writtenSince v_mc a1 (t_15.1 ^^^ t_16.1) fu _ hc) gX3_obey_X3_write rfl ⟨rfl, rfl⟩ rfl (by decide +kernel) ⟨Nat.le_of_ble_eq_true rfl, Nat.le_of_ble_eq_true rfl⟩ rfl rfl [0, 1] [2] [1, 2, 0] rfl rfl rfl rfl rfl (by decide) rfl rfl (Nat.le_of_ble_eq_true rfl) dX3_obey_137 ⟨Nat.zero_le _, Nat.zero_le _⟩ rfl rfl (fun H locs hP hD hS => ?_)
            refine lv_goto (tgt := 284) hx hb dX3_obey_140 (by decide) ?_
            cases h
            exact r_v X hP hD hS rfl dX3_obey_284
          · have h := x_n c_14 h
            by_cases c_18 : a0 = (5 : Int32)
            · have h := x_p c_18 h
              refine lv_tableIn (tgt := 143) hx hb dX3_obey_1 (by rw [c_18]; decide +kernel) (by rw [c_18]; decide +kernel) (by rw [c_18]; first | rfl | decide +kernel) (by decide) ?_
              refine lv_aload_n hx hb dX3_obey_143 rfl (lv_at hl 0 rfl) ?_
              refine lv_iload_n hx hb dX3_obey_144 rfl (lv_at hl 2 rfl) ?_
              refine lv_aload_n hx hb dX3_obey_145 rfl (lv_at hl 0 rfl) ?_
              refine lv_iload_n hx hb dX3_obey_146 rfl (lv_at hl 2 rfl) ?_
              obtain ⟨t_19, hc, h⟩ := x_b h
              refine c_V (q0 := 0) (ci := 2) (na := 1) (rest := [.int a1, .ref h_m]) (st1 := [.int t_19.1, .int a1, .ref h_m]) (Wr := [(h_mr, .inl (cI, 12, .inl v_mr))]) (Wn := [(h_m, .inr (2, [.ref h_p, .ref h_mc, .ref h_mr, .int v_m_rowLength, .int v_m_next, .int v_m_tick, .int v_m_ending, .int t_19.2, .int v_m_writtenNow, .int v_m_writtenSince])), (h_mc, .inl (cI, 8, .inl v_mc)), (h_mr, .inl (cI, 12, .inl v_mr))]) X hP hD hS hl.1 (m_X3_read l D cI pt h_p h_m h_mc h_mr v_m_rowLength v_m_next v_m_tick v_m_ending v_m_readNow v_m_writtenNow v_m_writtenSince v_mc a1 fu _ hc) gX3_obey_X3_read rfl ⟨rfl, rfl⟩ rfl (by decide +kernel) ⟨Nat.le_of_ble_eq_true rfl, Nat.le_of_ble_eq_true rfl⟩ rfl rfl [0, 1] [2] [1, 2, 0] rfl rfl rfl rfl rfl (by decide) rfl rfl (Nat.le_of_ble_eq_true rfl) dX3_obey_147 ⟨Nat.zero_le _, Nat.zero_le _⟩ rfl rfl (fun H locs hP hD hS => ?_)
              refine lv_iconst (v := (1 : Int32)) hx hb dX3_obey_150 (by decide) ?_
              refine lv_ishr hx hb dX3_obey_151 ?_
              obtain ⟨t_20, hc, h⟩ := x_b h
              refine c_V (q0 := 0) (ci := 2) (na := 2) (rest := []) (st1 := []) (Wr := [(h_mr, .inl (cI, 12, .inl v_mr))]) (Wn := [(h_m, .inr (2, [.ref h_p, .ref h_mc, .ref h_mr, .int v_m_rowLength, .int v_m_next, .int v_m_tick, .int v_m_ending, .int t_19.2, .int t_20.1, .int v_m_writtenSince])), (h_mc, .inl (cI, 8, .inl t_20.2)), (h_mr, .inl (cI, 12, .inl v_mr))]) X hP hD hS hl.1 (m_X3_write l D cI pt h_p h_m h_mc h_mr v_m_rowLength v_m_next v_m_tick v_m_ending t_19.2 v_m_writtenNow v_m_writtenSince v_mc a1 (t_19.1 >>> ((1 : Int32) &&& 31)) fu _ hc) gX3_obey_X3_write rfl ⟨rfl, rfl⟩ rfl (by decide +kernel) ⟨Nat.le_of_ble_eq_true rfl, Nat.le_of_ble_eq_true rfl⟩ rfl rfl [0, 1] [2] [1, 2, 0] rfl rfl rfl rfl rfl (by decide) rfl rfl (Nat.le_of_ble_eq_true rfl) dX3_obey_152 ⟨Nat.zero_le _, Nat.zero_le _⟩ rfl rfl (fun H locs hP hD hS => ?_)
              refine lv_goto (tgt := 284) hx hb dX3_obey_155 (by decide) ?_
              cases h
              exact r_v X hP hD hS rfl dX3_obey_284
            · have h := x_n c_18 h
              by_cases c_21 : a0 = (6 : Int32)
              · have h := x_p c_21 h
                refine lv_tableIn (tgt := 158) hx hb dX3_obey_1 (by rw [c_21]; decide +kernel) (by rw [c_21]; decide +kernel) (by rw [c_21]; first | rfl | decide +kernel) (by decide) ?_
                refine lv_aload_n hx hb dX3_obey_158 rfl (lv_at hl 0 rfl) ?_
                refine lv_iload_n hx hb dX3_obey_159 rfl (lv_at hl 2 rfl) ?_
                refine va_put (D := D) (ci := 2) (v := .int a1) (ty := .int) (C := RX3) (T := TX3) (N := 10) hx hb hts i_X3_obey_X3 tyX3 tyX3_ok nmX3 hown hE.1 hP hD hS 0 rfl rfl 4 (by decide) (hts _ q_X3_obey_0) (fun _ h9 => h9) rfl (by decide +kernel) rfl rfl (Nat.le_of_ble_eq_true rfl) dX3_obey_160 (fun H locs hP hD hS => ?_)
                have hP : va_P D vwCl [(h_m, .inr (2, [.ref h_p, .ref h_mc, .ref h_mr, .int v_m_rowLength, .int a1, .int v_m_tick, .int v_m_ending, .int v_m_readNow, .int v_m_writtenNow, .int v_m_writtenSince])), (h_mc, .inl (cI, 8, .inl v_mc)), (h_mr, .inl (cI, 12, .inl v_mr))] H := hP
                have hD : va_D A [(h_m, .inr (2, [.ref h_p, .ref h_mc, .ref h_mr, .int v_m_rowLength, .int a1, .int v_m_tick, .int v_m_ending, .int v_m_readNow, .int v_m_writtenNow, .int v_m_writtenSince])), (h_mc, .inl (cI, 8, .inl v_mc)), (h_mr, .inl (cI, 12, .inl v_mr))] := hD
                refine lv_goto (tgt := 284) hx hb dX3_obey_163 (by decide) ?_
                cases h
                exact r_v X hP hD hS rfl dX3_obey_284
              · have h := x_n c_21 h
                by_cases c_22 : a0 = (7 : Int32)
                · have h := x_p c_22 h
                  refine lv_tableIn (tgt := 166) hx hb dX3_obey_1 (by rw [c_22]; decide +kernel) (by rw [c_22]; decide +kernel) (by rw [c_22]; first | rfl | decide +kernel) (by decide) ?_
                  refine lv_aload_n hx hb dX3_obey_166 rfl (lv_at hl 0 rfl) ?_
                  refine lv_aload_n hx hb dX3_obey_167 rfl (lv_at hl 0 rfl) ?_
                  refine lv_iload_n hx hb dX3_obey_168 rfl (lv_at hl 2 rfl) ?_
                  obtain ⟨t_23, hc, h⟩ := x_b h
                  refine c_V (q0 := 0) (ci := 2) (na := 1) (rest := [.ref h_m]) (st1 := [.int t_23.1, .ref h_m]) (Wr := [(h_mr, .inl (cI, 12, .inl v_mr))]) (Wn := [(h_m, .inr (2, [.ref h_p, .ref h_mc, .ref h_mr, .int v_m_rowLength, .int v_m_next, .int v_m_tick, .int v_m_ending, .int t_23.2, .int v_m_writtenNow, .int v_m_writtenSince])), (h_mc, .inl (cI, 8, .inl v_mc)), (h_mr, .inl (cI, 12, .inl v_mr))]) X hP hD hS hl.1 (m_X3_read l D cI pt h_p h_m h_mc h_mr v_m_rowLength v_m_next v_m_tick v_m_ending v_m_readNow v_m_writtenNow v_m_writtenSince v_mc a1 fu _ hc) gX3_obey_X3_read rfl ⟨rfl, rfl⟩ rfl (by decide +kernel) ⟨Nat.le_of_ble_eq_true rfl, Nat.le_of_ble_eq_true rfl⟩ rfl rfl [0, 1] [2] [1, 2, 0] rfl rfl rfl rfl rfl (by decide) rfl rfl (Nat.le_of_ble_eq_true rfl) dX3_obey_169 ⟨Nat.zero_le _, Nat.zero_le _⟩ rfl rfl (fun H locs hP hD hS => ?_)
                  refine lv_if_eq (tgt := 179) hx hb dX3_obey_172 (by decide) (fun c_24 => ?_) (fun c_24 => ?_)
                  · have h := x_p c_24 h
                    refine lv_aload_n hx hb dX3_obey_179 rfl (lv_at hl 0 rfl) ?_
                    refine va_get (D := D) (ci := 2) (v := .int v_m_next) (C := RX3) (T := TX3) (N := 10) hx hb hts i_X3_obey_X3 hown hE.1 hP 0 rfl rfl 4 (by decide) (hts _ q_X3_obey_0) (fun _ h9 => h9) rfl dX3_obey_180 ?_
                    refine va_put (D := D) (ci := 2) (v := .int v_m_next) (ty := .int) (C := RX3) (T := TX3) (N := 10) hx hb hts i_X3_obey_X3 tyX3 tyX3_ok nmX3 hown hE.1 hP hD hS 0 rfl rfl 4 (by decide) (hts _ q_X3_obey_0) (fun _ h9 => h9) rfl (by decide +kernel) rfl rfl (Nat.le_of_ble_eq_true rfl) dX3_obey_183 (fun H locs hP hD hS => ?_)
                    have hP : va_P D vwCl [(h_m, .inr (2, [.ref h_p, .ref h_mc, .ref h_mr, .int v_m_rowLength, .int v_m_next, .int v_m_tick, .int v_m_ending, .int t_23.2, .int v_m_writtenNow, .int v_m_writtenSince])), (h_mc, .inl (cI, 8, .inl v_mc)), (h_mr, .inl (cI, 12, .inl v_mr))] H := hP
                    have hD : va_D A [(h_m, .inr (2, [.ref h_p, .ref h_mc, .ref h_mr, .int v_m_rowLength, .int v_m_next, .int v_m_tick, .int v_m_ending, .int t_23.2, .int v_m_writtenNow, .int v_m_writtenSince])), (h_mc, .inl (cI, 8, .inl v_mc)), (h_mr, .inl (cI, 12, .inl v_mr))] := hD
                    refine lv_goto (tgt := 284) hx hb dX3_obey_186 (by decide) ?_
                    cases h
                    exact r_v X hP hD hS rfl dX3_obey_284
                  · have h := x_n c_24 h
                    refine lv_iload_n hx hb dX3_obey_175 rfl (lv_at hl 3 rfl) ?_
                    refine lv_goto (tgt := 183) hx hb dX3_obey_176 (by decide) ?_
                    refine va_put (D := D) (ci := 2) (v := .int a2) (ty := .int) (C := RX3) (T := TX3) (N := 10) hx hb hts i_X3_obey_X3 tyX3 tyX3_ok nmX3 hown hE.1 hP hD hS 0 rfl rfl 4 (by decide) (hts _ q_X3_obey_0) (fun _ h9 => h9) rfl (by decide +kernel) rfl rfl (Nat.le_of_ble_eq_true rfl) dX3_obey_183 (fun H locs hP hD hS => ?_)
                    have hP : va_P D vwCl [(h_m, .inr (2, [.ref h_p, .ref h_mc, .ref h_mr, .int v_m_rowLength, .int a2, .int v_m_tick, .int v_m_ending, .int t_23.2, .int v_m_writtenNow, .int v_m_writtenSince])), (h_mc, .inl (cI, 8, .inl v_mc)), (h_mr, .inl (cI, 12, .inl v_mr))] H := hP
                    have hD : va_D A [(h_m, .inr (2, [.ref h_p, .ref h_mc, .ref h_mr, .int v_m_rowLength, .int a2, .int v_m_tick, .int v_m_ending, .int t_23.2, .int v_m_writtenNow, .int v_m_writtenSince])), (h_mc, .inl (cI, 8, .inl v_mc)), (h_mr, .inl (cI, 12, .inl v_mr))] := hD
                    refine lv_goto (tgt := 284) hx hb dX3_obey_186 (by decide) ?_
                    cases h
                    exact r_v X hP hD hS rfl dX3_obey_284
                · have h := x_n c_22 h
                  by_cases c_25 : a0 = (8 : Int32)
                  · have h := x_p c_25 h
                    refine lv_tableIn (tgt := 189) hx hb dX3_obey_1 (by rw [c_25]; decide +kernel) (by rw [c_25]; decide +kernel) (by rw [c_25]; first | rfl | decide +kernel) (by decide) ?_
                    refine lv_aload_n hx hb dX3_obey_189 rfl (lv_at hl 0 rfl) ?_
                    refine lv_aload_n hx hb dX3_obey_190 rfl (lv_at hl 0 rfl) ?_
                    refine lv_iload_n hx hb dX3_obey_191 rfl (lv_at hl 2 rfl) ?_
                    obtain ⟨t_26, hc, h⟩ := x_b h
                    refine c_V (q0 := 0) (ci := 2) (na := 1) (rest := [.ref h_m]) (st1 := [.int t_26.1, .ref h_m]) (Wr := [(h_mr, .inl (cI, 12, .inl v_mr))]) (Wn := [(h_m, .inr (2, [.ref h_p, .ref h_mc, .ref h_mr, .int v_m_rowLength, .int v_m_next, .int v_m_tick, .int v_m_ending, .int t_26.2, .int v_m_writtenNow, .int v_m_writtenSince])), (h_mc, .inl (cI, 8, .inl v_mc)), (h_mr, .inl (cI, 12, .inl v_mr))]) X hP hD hS hl.1 (m_X3_read l D cI pt h_p h_m h_mc h_mr v_m_rowLength v_m_next v_m_tick v_m_ending v_m_readNow v_m_writtenNow v_m_writtenSince v_mc a1 fu _ hc) gX3_obey_X3_read rfl ⟨rfl, rfl⟩ rfl (by decide +kernel) ⟨Nat.le_of_ble_eq_true rfl, Nat.le_of_ble_eq_true rfl⟩ rfl rfl [0, 1] [2] [1, 2, 0] rfl rfl rfl rfl rfl (by decide) rfl rfl (Nat.le_of_ble_eq_true rfl) dX3_obey_192 ⟨Nat.zero_le _, Nat.zero_le _⟩ rfl rfl (fun H locs hP hD hS => ?_)
                    obtain ⟨t_27, hc, h⟩ := x_b h
                    refine c_V (q0 := 0) (ci := 2) (na := 1) (rest := []) (st1 := []) (Wr := [(h_mc, .inl (cI, 8, .inl v_mc))]) (Wn := [(h_m, .inr (2, [.ref h_p, .ref h_mc, .ref h_mr, .int t_27.1, .int v_m_next, .int v_m_tick, .int t_27.2.1, .int t_26.2, .int v_m_writtenNow, .int v_m_writtenSince])), (h_mc, .inl (cI, 8, .inl v_mc)), (h_mr, .inl (cI, 12, .inl t_27.2.2))]) X hP hD hS hl.1 (m_X3_tell l D cI pt h_p h_m h_mc h_mr v_m_rowLength v_m_next v_m_tick v_m_ending t_26.2 v_m_writtenNow v_m_writtenSince v_mr t_26.1 fu _ hc) gX3_obey_X3_tell rfl ⟨rfl, rfl⟩ rfl (by decide +kernel) ⟨Nat.le_of_ble_eq_true rfl, Nat.le_of_ble_eq_true rfl⟩ rfl rfl [0, 2] [1] [1, 0, 2] rfl rfl rfl rfl rfl (by decide) rfl rfl (Nat.le_of_ble_eq_true rfl) dX3_obey_195 ⟨Nat.zero_le _, Nat.zero_le _⟩ rfl rfl (fun H locs hP hD hS => ?_)
                    refine lv_goto (tgt := 284) hx hb dX3_obey_198 (by decide) ?_
                    cases h
                    exact r_v X hP hD hS rfl dX3_obey_284
                  · have h := x_n c_25 h
                    by_cases c_28 : a0 = (9 : Int32)
                    · have h := x_p c_28 h
                      refine lv_tableIn (tgt := 201) hx hb dX3_obey_1 (by rw [c_28]; decide +kernel) (by rw [c_28]; decide +kernel) (by rw [c_28]; first | rfl | decide +kernel) (by decide) ?_
                      refine lv_aload_n hx hb dX3_obey_201 rfl (lv_at hl 0 rfl) ?_
                      refine lv_iload_n hx hb dX3_obey_202 rfl (lv_at hl 3 rfl) ?_
                      obtain ⟨t_29, hc, h⟩ := x_b h
                      refine c_V (q0 := 0) (ci := 2) (na := 1) (rest := []) (st1 := [.int t_29.1]) (Wr := [(h_mr, .inl (cI, 12, .inl v_mr))]) (Wn := [(h_m, .inr (2, [.ref h_p, .ref h_mc, .ref h_mr, .int v_m_rowLength, .int v_m_next, .int v_m_tick, .int v_m_ending, .int t_29.2, .int v_m_writtenNow, .int v_m_writtenSince])), (h_mc, .inl (cI, 8, .inl v_mc)), (h_mr, .inl (cI, 12, .inl v_mr))]) X hP hD hS hl.1 (m_X3_read l D cI pt h_p h_m h_mc h_mr v_m_rowLength v_m_next v_m_tick v_m_ending v_m_readNow v_m_writtenNow v_m_writtenSince v_mc a2 fu _ hc) gX3_obey_X3_read rfl ⟨rfl, rfl⟩ rfl (by decide +kernel) ⟨Nat.le_of_ble_eq_true rfl, Nat.le_of_ble_eq_true rfl⟩ rfl rfl [0, 1] [2] [1, 2, 0] rfl rfl rfl rfl rfl (by decide) rfl rfl (Nat.le_of_ble_eq_true rfl) dX3_obey_203 ⟨Nat.zero_le _, Nat.zero_le _⟩ rfl rfl (fun H locs hP hD hS => ?_)
                      refine lv_istore (lv' := [(4, .int t_29.1), (0, .ref h_m), (1, .int a0), (2, .int a1), (3, .int a2)]) hx hb dX3_obey_206 hl (by decide) rfl (fun ls hl => ?_)
                      refine lv_iload hx hb dX3_obey_208 (lv_at hl 0 rfl) ?_
                      obtain ⟨t_30, hc, h⟩ := x_b h
                      refine c_SN (na := 1) (rest := []) (st1 := [.int t_30]) (Wr := [(h_m, .inr (2, [.ref h_p, .ref h_mc, .ref h_mr, .int v_m_rowLength, .int v_m_next, .int v_m_tick, .int v_m_ending, .int t_29.2, .int v_m_writtenNow, .int v_m_writtenSince])), (h_mc, .inl (cI, 8, .inl v_mc)), (h_mr, .inl (cI, 12, .inl v_mr))]) (Wn := [(h_m, .inr (2, [.ref h_p, .ref h_mc, .ref h_mr, .int v_m_rowLength, .int v_m_next, .int v_m_tick, .int v_m_ending, .int t_29.2, .int v_m_writtenNow, .int v_m_writtenSince])), (h_mc, .inl (cI, 8, .inl v_mc)), (h_mr, .inl (cI, 12, .inl v_mr))]) X hP hD hS hl.1 (m_X6_isCell l D cI pt   t_29.1 fu _ hc) gX3_obey_X6_isCell_n81 rfl ⟨rfl, rfl⟩ hE.2.2.1 (hts _ q_X3_obey_2) (hts _ q_X3_obey_3) rfl (by decide +kernel) ⟨Nat.le_of_ble_eq_true rfl, Nat.le_of_ble_eq_true rfl⟩ [] [0, 1, 2] [0, 1, 2] rfl rfl rfl rfl (by decide) rfl rfl (Nat.le_of_ble_eq_true rfl) dX3_obey_210 ⟨Nat.zero_le _, Nat.zero_le _⟩ rfl rfl (fun H locs hP hD hS => ?_)
                      refine lv_if_eq (tgt := 230) hx hb dX3_obey_213 (by decide) (fun c_31 => ?_) (fun c_31 => ?_)
                      · have h := x_p c_31 h
                        refine lv_aload_n hx hb dX3_obey_230 rfl (lv_at hl 1 rfl) ?_
                        refine lv_iconst (v := (1 : Int32)) hx hb dX3_obey_231 (by decide) ?_
                        refine va_put (D := D) (ci := 2) (v := .int (1 : Int32)) (ty := .int) (C := RX3) (T := TX3) (N := 10) hx hb hts i_X3_obey_X3 tyX3 tyX3_ok nmX3 hown hE.1 hP hD hS 0 rfl rfl 6 (by decide) (hts _ q_X3_obey_4) (fun _ h9 => h9) rfl (by decide +kernel) rfl rfl (Nat.le_of_ble_eq_true rfl) dX3_obey_232 (fun H locs hP hD hS => ?_)
                        have hP : va_P D vwCl [(h_m, .inr (2, [.ref h_p, .ref h_mc, .ref h_mr, .int v_m_rowLength, .int v_m_next, .int v_m_tick, .int (1 : Int32), .int t_29.2, .int v_m_writtenNow, .int v_m_writtenSince])), (h_mc, .inl (cI, 8, .inl v_mc)), (h_mr, .inl (cI, 12, .inl v_mr))] H := hP
                        have hD : va_D A [(h_m, .inr (2, [.ref h_p, .ref h_mc, .ref h_mr, .int v_m_rowLength, .int v_m_next, .int v_m_tick, .int (1 : Int32), .int t_29.2, .int v_m_writtenNow, .int v_m_writtenSince])), (h_mc, .inl (cI, 8, .inl v_mc)), (h_mr, .inl (cI, 12, .inl v_mr))] := hD
                        refine lv_goto (tgt := 284) hx hb dX3_obey_235 (by decide) ?_
                        cases h
                        exact r_v X hP hD hS rfl dX3_obey_284
                      · have h := x_n c_31 h
                        refine lv_aload_n hx hb dX3_obey_216 rfl (lv_at hl 1 rfl) ?_
                        refine lv_iload_n hx hb dX3_obey_217 rfl (lv_at hl 3 rfl) ?_
                        refine lv_aload_n hx hb dX3_obey_218 rfl (lv_at hl 1 rfl) ?_
                        refine lv_iload hx hb dX3_obey_219 (lv_at hl 0 rfl) ?_
                        obtain ⟨t_32, hc, h⟩ := x_b h
                        refine c_V (q0 := 0) (ci := 2) (na := 1) (rest := [.int a1, .ref h_m]) (st1 := [.int t_32.1, .int a1, .ref h_m]) (Wr := [(h_mr, .inl (cI, 12, .inl v_mr))]) (Wn := [(h_m, .inr (2, [.ref h_p, .ref h_mc, .ref h_mr, .int v_m_rowLength, .int v_m_next, .int v_m_tick, .int v_m_ending, .int t_32.2, .int v_m_writtenNow, .int v_m_writtenSince])), (h_mc, .inl (cI, 8, .inl v_mc)), (h_mr, .inl (cI, 12, .inl v_mr))]) X hP hD hS hl.1 (m_X3_read l D cI pt h_p h_m h_mc h_mr v_m_rowLength v_m_next v_m_tick v_m_ending t_29.2 v_m_writtenNow v_m_writtenSince v_mc t_29.1 fu _ hc) gX3_obey_X3_read rfl ⟨rfl, rfl⟩ rfl (by decide +kernel) ⟨Nat.le_of_ble_eq_true rfl, Nat.le_of_ble_eq_true rfl⟩ rfl rfl [0, 1] [2] [1, 2, 0] rfl rfl rfl rfl rfl (by decide) rfl rfl (Nat.le_of_ble_eq_true rfl) dX3_obey_221 ⟨Nat.zero_le _, Nat.zero_le _⟩ rfl rfl (fun H locs hP hD hS => ?_)
                        obtain ⟨t_33, hc, h⟩ := x_b h
                        refine c_V (q0 := 0) (ci := 2) (na := 2) (rest := []) (st1 := []) (Wr := [(h_mr, .inl (cI, 12, .inl v_mr))]) (Wn := [(h_m, .inr (2, [.ref h_p, .ref h_mc, .ref h_mr, .int v_m_rowLength, .int v_m_next, .int v_m_tick, .int v_m_ending, .int t_32.2, .int t_33.1, .int v_m_writtenSince])), (h_mc, .inl (cI, 8, .inl t_33.2)), (h_mr, .inl (cI, 12, .inl v_mr))]) X hP hD hS hl.1 (m_X3_write l D cI pt h_p h_m h_mc h_mr v_m_rowLength v_m_next v_m_tick v_m_ending t_32.2 v_m_writtenNow v_m_writtenSince v_mc a1 t_32.1 fu _ hc) gX3_obey_X3_write rfl ⟨rfl, rfl⟩ rfl (by decide +kernel) ⟨Nat.le_of_ble_eq_true rfl, Nat.le_of_ble_eq_true rfl⟩ rfl rfl [0, 1] [2] [1, 2, 0] rfl rfl rfl rfl rfl (by decide) rfl rfl (Nat.le_of_ble_eq_true rfl) dX3_obey_224 ⟨Nat.zero_le _, Nat.zero_le _⟩ rfl rfl (fun H locs hP hD hS => ?_)
                        refine lv_goto (tgt := 284) hx hb dX3_obey_227 (by decide) ?_
                        cases h
                        exact r_v X hP hD hS rfl dX3_obey_284
                    · have h := x_n c_28 h
                      by_cases c_34 : a0 = (10 : Int32)
                      · have h := x_p c_34 h
                        refine lv_tableIn (tgt := 238) hx hb dX3_obey_1 (by rw [c_34]; decide +kernel) (by rw [c_34]; decide +kernel) (by rw [c_34]; first | rfl | decide +kernel) (by decide) ?_
                        refine lv_aload_n hx hb dX3_obey_238 rfl (lv_at hl 0 rfl) ?_
                        refine lv_iload_n hx hb dX3_obey_239 rfl (lv_at hl 2 rfl) ?_
                        obtain ⟨t_35, hc, h⟩ := x_b h
                        refine c_V (q0 := 0) (ci := 2) (na := 1) (rest := []) (st1 := [.int t_35.1]) (Wr := [(h_mr, .inl (cI, 12, .inl v_mr))]) (Wn := [(h_m, .inr (2, [.ref h_p, .ref h_mc, .ref h_mr, .int v_m_rowLength, .int v_m_next, .int v_m_tick, .int v_m_ending, .int t_35.2, .int v_m_writtenNow, .int v_m_writtenSince])), (h_mc, .inl (cI, 8, .inl v_mc)), (h_mr, .inl (cI, 12, .inl v_mr))]) X hP hD hS hl.1 (m_X3_read l D cI pt h_p h_m h_mc h_mr v_m_rowLength v_m_next v_m_tick v_m_ending v_m_readNow v_m_writtenNow v_m_writtenSince v_mc a1 fu _ hc) gX3_obey_X3_read rfl ⟨rfl, rfl⟩ rfl (by decide +kernel) ⟨Nat.le_of_ble_eq_true rfl, Nat.le_of_ble_eq_true rfl⟩ rfl rfl [0, 1] [2] [1, 2, 0] rfl rfl rfl rfl rfl (by decide) rfl rfl (Nat.le_of_ble_eq_true rfl) dX3_obey_240 ⟨Nat.zero_le _, Nat.zero_le _⟩ rfl rfl (fun H locs hP hD hS => ?_)
                        refine lv_istore (lv' := [(5, .int t_35.1), (0, .ref h_m), (1, .int a0), (2, .int a1), (3, .int a2)]) hx hb dX3_obey_243 hl (by decide) rfl (fun ls hl => ?_)
                        refine lv_aload_n hx hb dX3_obey_245 rfl (lv_at hl 1 rfl) ?_
                        refine lv_iload_n hx hb dX3_obey_246 rfl (lv_at hl 4 rfl) ?_
                        obtain ⟨t_36, hc, h⟩ := x_b h
                        refine c_V (q0 := 0) (ci := 2) (na := 1) (rest := []) (st1 := [.int t_36.1]) (Wr := [(h_mr, .inl (cI, 12, .inl v_mr))]) (Wn := [(h_m, .inr (2, [.ref h_p, .ref h_mc, .ref h_mr, .int v_m_rowLength, .int v_m_next, .int v_m_tick, .int v_m_ending, .int t_36.2, .int v_m_writtenNow, .int v_m_writtenSince])), (h_mc, .inl (cI, 8, .inl v_mc)), (h_mr, .inl (cI, 12, .inl v_mr))]) X hP hD hS hl.1 (m_X3_read l D cI pt h_p h_m h_mc h_mr v_m_rowLength v_m_next v_m_tick v_m_ending t_35.2 v_m_writtenNow v_m_writtenSince v_mc a2 fu _ hc) gX3_obey_X3_read rfl ⟨rfl, rfl⟩ rfl (by decide +kernel) ⟨Nat.le_of_ble_eq_true rfl, Nat.le_of_ble_eq_true rfl⟩ rfl rfl [0, 1] [2] [1, 2, 0] rfl rfl rfl rfl rfl (by decide) rfl rfl (Nat.le_of_ble_eq_true rfl) dX3_obey_247 ⟨Nat.zero_le _, Nat.zero_le _⟩ rfl rfl (fun H locs hP hD hS => ?_)
                        refine lv_istore (lv' := [(6, .int t_36.1), (5, .int t_35.1), (0, .ref h_m), (1, .int a0), (2, .int a1), (3, .int a2)]) hx hb dX3_obey_250 hl (by decide) rfl (fun ls hl => ?_)
                        refine lv_iload hx hb dX3_obey_252 (lv_at hl 1 rfl) ?_
                        obtain ⟨t_37, hc, h⟩ := x_b h
                        refine c_SN (na := 1) (rest := []) (st1 := [.int t_37]) (Wr := [(h_m, .inr (2, [.ref h_p, .ref h_mc, .ref h_mr, .int v_m_rowLength, .int v_m_next, .int v_m_tick, .int v_m_ending, .int t_36.2, .int v_m_writtenNow, .int v_m_writtenSince])), (h_mc, .inl (cI, 8, .inl v_mc)), (h_mr, .inl (cI, 12, .inl v_mr))]) (Wn := [(h_m, .inr (2, [.ref h_p, .ref h_mc, .ref h_mr, .int v_m_rowLength, .int v_m_next, .int v_m_tick, .int v_m_ending, .int t_36.2, .int v_m_writtenNow, .int v_m_writtenSince])), (h_mc, .inl (cI, 8, .inl v_mc)), (h_mr, .inl (cI, 12, .inl v_mr))]) X hP hD hS hl.1 (m_X6_isCell l D cI pt   t_35.1 fu _ hc) gX3_obey_X6_isCell_n81 rfl ⟨rfl, rfl⟩ hE.2.2.1 (hts _ q_X3_obey_2) (hts _ q_X3_obey_3) rfl (by decide +kernel) ⟨Nat.le_of_ble_eq_true rfl, Nat.le_of_ble_eq_true rfl⟩ [] [0, 1, 2] [0, 1, 2] rfl rfl rfl rfl (by decide) rfl rfl (Nat.le_of_ble_eq_true rfl) dX3_obey_254 ⟨Nat.zero_le _, Nat.zero_le _⟩ rfl rfl (fun H locs hP hD hS => ?_)
                        refine lv_if_eq (tgt := 271) hx hb dX3_obey_257 (by decide) (fun c_38 => ?_) (fun c_38 => ?_)
                        · have h := x_p c_38 h
                          refine lv_aload_n hx hb dX3_obey_271 rfl (lv_at hl 2 rfl) ?_
                          refine lv_iconst (v := (1 : Int32)) hx hb dX3_obey_272 (by decide) ?_
                          refine va_put (D := D) (ci := 2) (v := .int (1 : Int32)) (ty := .int) (C := RX3) (T := TX3) (N := 10) hx hb hts i_X3_obey_X3 tyX3 tyX3_ok nmX3 hown hE.1 hP hD hS 0 rfl rfl 6 (by decide) (hts _ q_X3_obey_4) (fun _ h9 => h9) rfl (by decide +kernel) rfl rfl (Nat.le_of_ble_eq_true rfl) dX3_obey_273 (fun H locs hP hD hS => ?_)
                          have hP : va_P D vwCl [(h_m, .inr (2, [.ref h_p, .ref h_mc, .ref h_mr, .int v_m_rowLength, .int v_m_next, .int v_m_tick, .int (1 : Int32), .int t_36.2, .int v_m_writtenNow, .int v_m_writtenSince])), (h_mc, .inl (cI, 8, .inl v_mc)), (h_mr, .inl (cI, 12, .inl v_mr))] H := hP
                          have hD : va_D A [(h_m, .inr (2, [.ref h_p, .ref h_mc, .ref h_mr, .int v_m_rowLength, .int v_m_next, .int v_m_tick, .int (1 : Int32), .int t_36.2, .int v_m_writtenNow, .int v_m_writtenSince])), (h_mc, .inl (cI, 8, .inl v_mc)), (h_mr, .inl (cI, 12, .inl v_mr))] := hD
                          refine lv_goto (tgt := 284) hx hb dX3_obey_276 (by decide) ?_
                          cases h
                          exact r_v X hP hD hS rfl dX3_obey_284
                        · have h := x_n c_38 h
                          refine lv_aload_n hx hb dX3_obey_260 rfl (lv_at hl 2 rfl) ?_
                          refine lv_iload hx hb dX3_obey_261 (lv_at hl 1 rfl) ?_
                          refine lv_iload hx hb dX3_obey_263 (lv_at hl 0 rfl) ?_
                          obtain ⟨t_39, hc, h⟩ := x_b h
                          refine c_V (q0 := 0) (ci := 2) (na := 2) (rest := []) (st1 := []) (Wr := [(h_mr, .inl (cI, 12, .inl v_mr))]) (Wn := [(h_m, .inr (2, [.ref h_p, .ref h_mc, .ref h_mr, .int v_m_rowLength, .int v_m_next, .int v_m_tick, .int v_m_ending, .int t_36.2, .int t_39.1, .int v_m_writtenSince])), (h_mc, .inl (cI, 8, .inl t_39.2)), (h_mr, .inl (cI, 12, .inl v_mr))]) X hP hD hS hl.1 (m_X3_write l D cI pt h_p h_m h_mc h_mr v_m_rowLength v_m_next v_m_tick v_m_ending t_36.2 v_m_writtenNow v_m_writtenSince v_mc t_35.1 t_36.1 fu _ hc) gX3_obey_X3_write rfl ⟨rfl, rfl⟩ rfl (by decide +kernel) ⟨Nat.le_of_ble_eq_true rfl, Nat.le_of_ble_eq_true rfl⟩ rfl rfl [0, 1] [2] [1, 2, 0] rfl rfl rfl rfl rfl (by decide) rfl rfl (Nat.le_of_ble_eq_true rfl) dX3_obey_265 ⟨Nat.zero_le _, Nat.zero_le _⟩ rfl rfl (fun H locs hP hD hS => ?_)
                          refine lv_goto (tgt := 284) hx hb dX3_obey_268 (by decide) ?_
                          cases h
                          exact r_v X hP hD hS rfl dX3_obey_284
                      · have h := x_n c_34 h
                        refine lv_tableOut (tgt := 279) hx hb dX3_obey_1 (x_sw (n := 10) (fun k hk => by rcases (show k = 0 ∨ k = 1 ∨ k = 2 ∨ k = 3 ∨ k = 4 ∨ k = 5 ∨ k = 6 ∨ k = 7 ∨ k = 8 ∨ k = 9 ∨ k = 10 by omega) with rfl | rfl | rfl | rfl | rfl | rfl | rfl | rfl | rfl | rfl | rfl <;> first | exact c_1 | exact c_3 | exact c_6 | exact c_10 | exact c_14 | exact c_18 | exact c_21 | exact c_22 | exact c_25 | exact c_28 | exact c_34)) (by decide) ?_
                        refine lv_aload_n hx hb dX3_obey_279 rfl (lv_at hl 0 rfl) ?_
                        refine lv_iconst (v := (0 : Int32)) hx hb dX3_obey_280 (by decide) ?_
                        refine va_put (D := D) (ci := 2) (v := .int (0 : Int32)) (ty := .int) (C := RX3) (T := TX3) (N := 10) hx hb hts i_X3_obey_X3 tyX3 tyX3_ok nmX3 hown hE.1 hP hD hS 0 rfl rfl 6 (by decide) (hts _ q_X3_obey_4) (fun _ h9 => h9) rfl (by decide +kernel) rfl rfl (Nat.le_of_ble_eq_true rfl) dX3_obey_281 (fun H locs hP hD hS => ?_)
                        have hP : va_P D vwCl [(h_m, .inr (2, [.ref h_p, .ref h_mc, .ref h_mr, .int v_m_rowLength, .int v_m_next, .int v_m_tick, .int (0 : Int32), .int v_m_readNow, .int v_m_writtenNow, .int v_m_writtenSince])), (h_mc, .inl (cI, 8, .inl v_mc)), (h_mr, .inl (cI, 12, .inl v_mr))] H := hP
                        have hD : va_D A [(h_m, .inr (2, [.ref h_p, .ref h_mc, .ref h_mr, .int v_m_rowLength, .int v_m_next, .int v_m_tick, .int (0 : Int32), .int v_m_readNow, .int v_m_writtenNow, .int v_m_writtenSince])), (h_mc, .inl (cI, 8, .inl v_mc)), (h_mr, .inl (cI, 12, .inl v_mr))] := hD
                        cases h
                        exact r_v X hP hD hS rfl dX3_obey_284

theorem q_X3_step_0 : (.fieldLink RX3 29 "StruckBits$Machine" "next" "I" : Cond) ∈ wsX3_step := by decide +kernel
theorem i_X3_step_X3 : ∀ w ∈ u_ws RX3 TX3 10, w ∈ wsX3_step := by decide +kernel
theorem q_X3_step_2 : (.fieldLink RX3 50 "StruckBits$Machine" "readNow" "I" : Cond) ∈ wsX3_step := by decide +kernel
theorem q_X3_step_3 : (.fieldLink RX3 53 "StruckBits$Machine" "writtenNow" "I" : Cond) ∈ wsX3_step := by decide +kernel
theorem q_X3_step_4 : (.fieldLink RX3 22 "StruckBits$Machine" "program" "LStruckBits$Program;" : Cond) ∈ wsX3_step := by decide +kernel
theorem q_X3_step_5 : (.fieldLink RX3 56 "StruckBits$Program" "ops" "[I" : Cond) ∈ wsX3_step := by decide +kernel
theorem i_X3_step_X4 : ∀ w ∈ u_ws RX4 TX4 4, w ∈ wsX3_step := by decide +kernel
theorem q_X3_step_7 : (.fieldLink RX3 59 "StruckBits$Program" "firsts" "[I" : Cond) ∈ wsX3_step := by decide +kernel
theorem q_X3_step_8 : (.fieldLink RX3 62 "StruckBits$Program" "seconds" "[I" : Cond) ∈ wsX3_step := by decide +kernel
theorem q_X3_step_9 : (.fieldLink RX3 26 "StruckBits$Machine" "tick" "I" : Cond) ∈ wsX3_step := by decide +kernel
theorem q_X3_step_10 : (.fieldLink RX3 35 "StruckBits$Machine" "writtenSince" "I" : Cond) ∈ wsX3_step := by decide +kernel
theorem q_X3_step_11 : (.fieldLink RX3 18 "StruckBits$Machine" "ending" "I" : Cond) ∈ wsX3_step := by decide +kernel
set_option maxHeartbeats 4000000 in
set_option maxRecDepth 100000 in
theorem m_X3_step (l : Launch) (D : va_G) (cI : ClassId) (pt : Nat) (h_p h_po h_pf h_ps h_m h_mc h_mr : Nat) (v_p_length : Int32) (v_po : Nat → Int32) (v_pf : Nat → Int32) (v_ps : Nat → Int32) (v_m_rowLength : Int32) (v_m_next : Int32) (v_m_tick : Int32) (v_m_ending : Int32) (v_m_readNow : Int32) (v_m_writtenNow : Int32) (v_m_writtenSince : Int32) (v_mc : Nat → Int32) (v_mr : Nat → Int32)  (fu : Nat) (res : Int32 × Int32 × Int32 × Int32 × Int32 × Int32 × Int32 × (Nat → Int32) × (Nat → Int32)) (h : f_X3_step fu v_p_length v_po v_pf v_ps v_m_rowLength v_m_next v_m_tick v_m_ending v_m_readNow v_m_writtenNow v_m_writtenSince v_mc v_mr  = some res) :
    MT l D cI pt yX3_step wsX3_step ({ frames := 2, cells := 0, slots := 0, locals := 48 } : Room) [.ref h_m] [(h_p, .inr (3, [.ref h_po, .ref h_pf, .ref h_ps, .int v_p_length])), (h_po, .inl (cI, 20, .inl v_po)), (h_pf, .inl (cI, 20, .inl v_pf)), (h_ps, .inl (cI, 20, .inl v_ps)), (h_m, .inr (2, [.ref h_p, .ref h_mc, .ref h_mr, .int v_m_rowLength, .int v_m_next, .int v_m_tick, .int v_m_ending, .int v_m_readNow, .int v_m_writtenNow, .int v_m_writtenSince])), (h_mc, .inl (cI, 8, .inl v_mc)), (h_mr, .inl (cI, 12, .inl v_mr))] none [(h_p, .inr (3, [.ref h_po, .ref h_pf, .ref h_ps, .int v_p_length])), (h_po, .inl (cI, 20, .inl v_po)), (h_pf, .inl (cI, 20, .inl v_pf)), (h_ps, .inl (cI, 20, .inl v_ps)), (h_m, .inr (2, [.ref h_p, .ref h_mc, .ref h_mr, .int res.1, .int res.2.1, .int res.2.2.1, .int res.2.2.2.1, .int res.2.2.2.2.1, .int res.2.2.2.2.2.1, .int res.2.2.2.2.2.2.1])), (h_mc, .inl (cI, 8, .inl res.2.2.2.2.2.2.2.1)), (h_mr, .inl (cI, 12, .inl res.2.2.2.2.2.2.2.2))] := by
  refine MT.mk (cc := cX3_step) (maxL := 2) (ret := none) (own := RX3) (by decide) rfl rfl (Nat.le_of_ble_eq_true rfl) rfl ?_
  intro p e s m args below meth c A ls X hP hD hS hl
  obtain ⟨hx, hb, hml, hown, hts, hr, hlk, hE, hH, hA⟩ := id X
  have hl : lv_has ls 2 [(0, .ref h_m)] := hl
  unfold f_X3_step at h
  refine lv_aload_n hx hb dX3_step_0 rfl (lv_at hl 0 rfl) ?_
  refine va_get (D := D) (ci := 2) (v := .int v_m_next) (C := RX3) (T := TX3) (N := 10) hx hb hts i_X3_step_X3 hown hE.1 hP 4 rfl rfl 4 (by decide) (hts _ q_X3_step_0) (fun _ h9 => h9) rfl dX3_step_1 ?_
  refine lv_istore_n (lv' := [(1, .int v_m_next), (0, .ref h_m)]) hx hb dX3_step_4 rfl hl (by decide) rfl (fun ls hl => ?_)
  refine lv_aload_n hx hb dX3_step_5 rfl (lv_at hl 1 rfl) ?_
  refine lv_iconst (v := (0 : Int32)) hx hb dX3_step_6 (by decide) ?_
  refine va_put (D := D) (ci := 2) (v := .int (0 : Int32)) (ty := .int) (C := RX3) (T := TX3) (N := 10) hx hb hts i_X3_step_X3 tyX3 tyX3_ok nmX3 hown hE.1 hP hD hS 4 rfl rfl 7 (by decide) (hts _ q_X3_step_2) (fun _ h9 => h9) rfl (by decide +kernel) rfl rfl (Nat.le_of_ble_eq_true rfl) dX3_step_7 (fun H locs hP hD hS => ?_)
  have hP : va_P D vwCl [(h_p, .inr (3, [.ref h_po, .ref h_pf, .ref h_ps, .int v_p_length])), (h_po, .inl (cI, 20, .inl v_po)), (h_pf, .inl (cI, 20, .inl v_pf)), (h_ps, .inl (cI, 20, .inl v_ps)), (h_m, .inr (2, [.ref h_p, .ref h_mc, .ref h_mr, .int v_m_rowLength, .int v_m_next, .int v_m_tick, .int v_m_ending, .int (0 : Int32), .int v_m_writtenNow, .int v_m_writtenSince])), (h_mc, .inl (cI, 8, .inl v_mc)), (h_mr, .inl (cI, 12, .inl v_mr))] H := hP
  have hD : va_D A [(h_p, .inr (3, [.ref h_po, .ref h_pf, .ref h_ps, .int v_p_length])), (h_po, .inl (cI, 20, .inl v_po)), (h_pf, .inl (cI, 20, .inl v_pf)), (h_ps, .inl (cI, 20, .inl v_ps)), (h_m, .inr (2, [.ref h_p, .ref h_mc, .ref h_mr, .int v_m_rowLength, .int v_m_next, .int v_m_tick, .int v_m_ending, .int (0 : Int32), .int v_m_writtenNow, .int v_m_writtenSince])), (h_mc, .inl (cI, 8, .inl v_mc)), (h_mr, .inl (cI, 12, .inl v_mr))] := hD
  refine lv_aload_n hx hb dX3_step_10 rfl (lv_at hl 1 rfl) ?_
  refine lv_iconst (v := (0 : Int32)) hx hb dX3_step_11 (by decide) ?_
  refine va_put (D := D) (ci := 2) (v := .int (0 : Int32)) (ty := .int) (C := RX3) (T := TX3) (N := 10) hx hb hts i_X3_step_X3 tyX3 tyX3_ok nmX3 hown hE.1 hP hD hS 4 rfl rfl 8 (by decide) (hts _ q_X3_step_3) (fun _ h9 => h9) rfl (by decide +kernel) rfl rfl (Nat.le_of_ble_eq_true rfl) dX3_step_12 (fun H locs hP hD hS => ?_)
  have hP : va_P D vwCl [(h_p, .inr (3, [.ref h_po, .ref h_pf, .ref h_ps, .int v_p_length])), (h_po, .inl (cI, 20, .inl v_po)), (h_pf, .inl (cI, 20, .inl v_pf)), (h_ps, .inl (cI, 20, .inl v_ps)), (h_m, .inr (2, [.ref h_p, .ref h_mc, .ref h_mr, .int v_m_rowLength, .int v_m_next, .int v_m_tick, .int v_m_ending, .int (0 : Int32), .int (0 : Int32), .int v_m_writtenSince])), (h_mc, .inl (cI, 8, .inl v_mc)), (h_mr, .inl (cI, 12, .inl v_mr))] H := hP
  have hD : va_D A [(h_p, .inr (3, [.ref h_po, .ref h_pf, .ref h_ps, .int v_p_length])), (h_po, .inl (cI, 20, .inl v_po)), (h_pf, .inl (cI, 20, .inl v_pf)), (h_ps, .inl (cI, 20, .inl v_ps)), (h_m, .inr (2, [.ref h_p, .ref h_mc, .ref h_mr, .int v_m_rowLength, .int v_m_next, .int v_m_tick, .int v_m_ending, .int (0 : Int32), .int (0 : Int32), .int v_m_writtenSince])), (h_mc, .inl (cI, 8, .inl v_mc)), (h_mr, .inl (cI, 12, .inl v_mr))] := hD
  refine lv_aload_n hx hb dX3_step_15 rfl (lv_at hl 1 rfl) ?_
  refine lv_iload_n hx hb dX3_step_16 rfl (lv_at hl 0 rfl) ?_
  refine lv_iconst (v := (1 : Int32)) hx hb dX3_step_17 (by decide) ?_
  refine lv_iadd hx hb dX3_step_18 ?_
  refine va_put (D := D) (ci := 2) (v := .int (v_m_next + (1 : Int32))) (ty := .int) (C := RX3) (T := TX3) (N := 10) hx hb hts i_X3_step_X3 tyX3 tyX3_ok nmX3 hown hE.1 hP hD hS 4 rfl rfl 4 (by decide) (hts _ q_X3_step_0) (fun _ h9 => h9) rfl (by decide +kernel) rfl rfl (Nat.le_of_ble_eq_true rfl) dX3_step_19 (fun H locs hP hD hS => ?_)
  have hP : va_P D vwCl [(h_p, .inr (3, [.ref h_po, .ref h_pf, .ref h_ps, .int v_p_length])), (h_po, .inl (cI, 20, .inl v_po)), (h_pf, .inl (cI, 20, .inl v_pf)), (h_ps, .inl (cI, 20, .inl v_ps)), (h_m, .inr (2, [.ref h_p, .ref h_mc, .ref h_mr, .int v_m_rowLength, .int (v_m_next + (1 : Int32)), .int v_m_tick, .int v_m_ending, .int (0 : Int32), .int (0 : Int32), .int v_m_writtenSince])), (h_mc, .inl (cI, 8, .inl v_mc)), (h_mr, .inl (cI, 12, .inl v_mr))] H := hP
  have hD : va_D A [(h_p, .inr (3, [.ref h_po, .ref h_pf, .ref h_ps, .int v_p_length])), (h_po, .inl (cI, 20, .inl v_po)), (h_pf, .inl (cI, 20, .inl v_pf)), (h_ps, .inl (cI, 20, .inl v_ps)), (h_m, .inr (2, [.ref h_p, .ref h_mc, .ref h_mr, .int v_m_rowLength, .int (v_m_next + (1 : Int32)), .int v_m_tick, .int v_m_ending, .int (0 : Int32), .int (0 : Int32), .int v_m_writtenSince])), (h_mc, .inl (cI, 8, .inl v_mc)), (h_mr, .inl (cI, 12, .inl v_mr))] := hD
  refine lv_aload_n hx hb dX3_step_22 rfl (lv_at hl 1 rfl) ?_
  refine lv_aload_n hx hb dX3_step_23 rfl (lv_at hl 1 rfl) ?_
  refine va_get (D := D) (ci := 2) (v := .ref h_p) (C := RX3) (T := TX3) (N := 10) hx hb hts i_X3_step_X3 hown hE.1 hP 4 rfl rfl 0 (by decide) (hts _ q_X3_step_4) (fun _ h9 => h9) rfl dX3_step_24 ?_
  refine va_get (D := D) (ci := 3) (v := .ref h_po) (C := RX4) (T := TX4) (N := 4) hx hb hts i_X3_step_X4 hown hE.1 hP 0 rfl rfl 0 (by decide) (hts _ q_X3_step_5) (fun _ h9 => h9) rfl dX3_step_27 ?_
  refine lv_iload_n hx hb dX3_step_30 rfl (lv_at hl 0 rfl) ?_
  obtain ⟨g_1, h⟩ := x_gd h
  refine va_iald hx hb hE.1 hP 1 0 rfl rfl g_1 dX3_step_31 ?_
  refine lv_aload_n hx hb dX3_step_32 rfl (lv_at hl 1 rfl) ?_
  refine va_get (D := D) (ci := 2) (v := .ref h_p) (C := RX3) (T := TX3) (N := 10) hx hb hts i_X3_step_X3 hown hE.1 hP 4 rfl rfl 0 (by decide) (hts _ q_X3_step_4) (fun _ h9 => h9) rfl dX3_step_33 ?_
  refine va_get (D := D) (ci := 3) (v := .ref h_pf) (C := RX4) (T := TX4) (N := 4) hx hb hts i_X3_step_X4 hown hE.1 hP 0 rfl rfl 1 (by decide) (hts _ q_X3_step_7) (fun _ h9 => h9) rfl dX3_step_36 ?_
  refine lv_iload_n hx hb dX3_step_39 rfl (lv_at hl 0 rfl) ?_
  obtain ⟨g_2, h⟩ := x_gd h
  refine va_iald hx hb hE.1 hP 2 0 rfl rfl g_2 dX3_step_40 ?_
  refine lv_aload_n hx hb dX3_step_41 rfl (lv_at hl 1 rfl) ?_
  refine va_get (D := D) (ci := 2) (v := .ref h_p) (C := RX3) (T := TX3) (N := 10) hx hb hts i_X3_step_X3 hown hE.1 hP 4 rfl rfl 0 (by decide) (hts _ q_X3_step_4) (fun _ h9 => h9) rfl dX3_step_42 ?_
  refine va_get (D := D) (ci := 3) (v := .ref h_ps) (C := RX4) (T := TX4) (N := 4) hx hb hts i_X3_step_X4 hown hE.1 hP 0 rfl rfl 2 (by decide) (hts _ q_X3_step_8) (fun _ h9 => h9) rfl dX3_step_45 ?_
  refine lv_iload_n hx hb dX3_step_48 rfl (lv_at hl 0 rfl) ?_
  obtain ⟨g_3, h⟩ := x_gd h
  refine va_iald hx hb hE.1 hP 3 0 rfl rfl g_3 dX3_step_49 ?_
  obtain ⟨t_4, hc, h⟩ := x_b h
  refine c_V (q0 := 0) (ci := 2) (na := 3) (rest := []) (st1 := []) (Wr := [(h_p, .inr (3, [.ref h_po, .ref h_pf, .ref h_ps, .int v_p_length])), (h_po, .inl (cI, 20, .inl v_po)), (h_pf, .inl (cI, 20, .inl v_pf)), (h_ps, .inl (cI, 20, .inl v_ps))]) (Wn := [(h_p, .inr (3, [.ref h_po, .ref h_pf, .ref h_ps, .int v_p_length])), (h_po, .inl (cI, 20, .inl v_po)), (h_pf, .inl (cI, 20, .inl v_pf)), (h_ps, .inl (cI, 20, .inl v_ps)), (h_m, .inr (2, [.ref h_p, .ref h_mc, .ref h_mr, .int t_4.1, .int t_4.2.1, .int v_m_tick, .int t_4.2.2.1, .int t_4.2.2.2.1, .int t_4.2.2.2.2.1, .int v_m_writtenSince])), (h_mc, .inl (cI, 8, .inl t_4.2.2.2.2.2.1)), (h_mr, .inl (cI, 12, .inl t_4.2.2.2.2.2.2))]) X hP hD hS hl.1 (m_X3_obey l D cI pt h_p h_m h_mc h_mr v_m_rowLength (v_m_next + (1 : Int32)) v_m_tick v_m_ending (0 : Int32) (0 : Int32) v_m_writtenSince v_mc v_mr (v_po v_m_next.toNatClampNeg) (v_pf v_m_next.toNatClampNeg) (v_ps v_m_next.toNatClampNeg) fu _ hc) gX3_step_X3_obey rfl ⟨rfl, rfl⟩ rfl (by decide +kernel) ⟨Nat.le_of_ble_eq_true rfl, Nat.le_of_ble_eq_true rfl⟩ rfl rfl [4, 5, 6] [0, 1, 2, 3] [0, 1, 2, 3, 4, 5, 6] rfl rfl rfl rfl rfl (by decide) rfl rfl (Nat.le_of_ble_eq_true rfl) dX3_step_50 ⟨Nat.zero_le _, Nat.zero_le _⟩ rfl rfl (fun H locs hP hD hS => ?_)
  refine lv_aload_n hx hb dX3_step_53 rfl (lv_at hl 1 rfl) ?_
  refine lv_dup hx hb dX3_step_54 rfl ?_
  refine va_get (D := D) (ci := 2) (v := .int v_m_tick) (C := RX3) (T := TX3) (N := 10) hx hb hts i_X3_step_X3 hown hE.1 hP 4 rfl rfl 5 (by decide) (hts _ q_X3_step_9) (fun _ h9 => h9) rfl dX3_step_55 ?_
  refine lv_iconst (v := (1 : Int32)) hx hb dX3_step_58 (by decide) ?_
  refine lv_iadd hx hb dX3_step_59 ?_
  refine va_put (D := D) (ci := 2) (v := .int (v_m_tick + (1 : Int32))) (ty := .int) (C := RX3) (T := TX3) (N := 10) hx hb hts i_X3_step_X3 tyX3 tyX3_ok nmX3 hown hE.1 hP hD hS 4 rfl rfl 5 (by decide) (hts _ q_X3_step_9) (fun _ h9 => h9) rfl (by decide +kernel) rfl rfl (Nat.le_of_ble_eq_true rfl) dX3_step_60 (fun H locs hP hD hS => ?_)
  have hP : va_P D vwCl [(h_p, .inr (3, [.ref h_po, .ref h_pf, .ref h_ps, .int v_p_length])), (h_po, .inl (cI, 20, .inl v_po)), (h_pf, .inl (cI, 20, .inl v_pf)), (h_ps, .inl (cI, 20, .inl v_ps)), (h_m, .inr (2, [.ref h_p, .ref h_mc, .ref h_mr, .int t_4.1, .int t_4.2.1, .int (v_m_tick + (1 : Int32)), .int t_4.2.2.1, .int t_4.2.2.2.1, .int t_4.2.2.2.2.1, .int v_m_writtenSince])), (h_mc, .inl (cI, 8, .inl t_4.2.2.2.2.2.1)), (h_mr, .inl (cI, 12, .inl t_4.2.2.2.2.2.2))] H := hP
  have hD : va_D A [(h_p, .inr (3, [.ref h_po, .ref h_pf, .ref h_ps, .int v_p_length])), (h_po, .inl (cI, 20, .inl v_po)), (h_pf, .inl (cI, 20, .inl v_pf)), (h_ps, .inl (cI, 20, .inl v_ps)), (h_m, .inr (2, [.ref h_p, .ref h_mc, .ref h_mr, .int t_4.1, .int t_4.2.1, .int (v_m_tick + (1 : Int32)), .int t_4.2.2.1, .int t_4.2.2.2.1, .int t_4.2.2.2.2.1, .int v_m_writtenSince])), (h_mc, .inl (cI, 8, .inl t_4.2.2.2.2.2.1)), (h_mr, .inl (cI, 12, .inl t_4.2.2.2.2.2.2))] := hD
  refine lv_aload_n hx hb dX3_step_63 rfl (lv_at hl 1 rfl) ?_
  refine lv_dup hx hb dX3_step_64 rfl ?_
  refine va_get (D := D) (ci := 2) (v := .int v_m_writtenSince) (C := RX3) (T := TX3) (N := 10) hx hb hts i_X3_step_X3 hown hE.1 hP 4 rfl rfl 9 (by decide) (hts _ q_X3_step_10) (fun _ h9 => h9) rfl dX3_step_65 ?_
  refine lv_aload_n hx hb dX3_step_68 rfl (lv_at hl 1 rfl) ?_
  refine va_get (D := D) (ci := 2) (v := .int t_4.2.2.2.2.1) (C := RX3) (T := TX3) (N := 10) hx hb hts i_X3_step_X3 hown hE.1 hP 4 rfl rfl 8 (by decide) (hts _ q_X3_step_3) (fun _ h9 => h9) rfl dX3_step_69 ?_
  refine lv_ior hx hb dX3_step_72 ?_
  refine va_put (D := D) (ci := 2) (v := .int (v_m_writtenSince ||| t_4.2.2.2.2.1)) (ty := .int) (C := RX3) (T := TX3) (N := 10) hx hb hts i_X3_step_X3 tyX3 tyX3_ok nmX3 hown hE.1 hP hD hS 4 rfl rfl 9 (by decide) (hts _ q_X3_step_10) (fun _ h9 => h9) rfl (by decide +kernel) rfl rfl (Nat.le_of_ble_eq_true rfl) dX3_step_73 (fun H locs hP hD hS => ?_)
  have hP : va_P D vwCl [(h_p, .inr (3, [.ref h_po, .ref h_pf, .ref h_ps, .int v_p_length])), (h_po, .inl (cI, 20, .inl v_po)), (h_pf, .inl (cI, 20, .inl v_pf)), (h_ps, .inl (cI, 20, .inl v_ps)), (h_m, .inr (2, [.ref h_p, .ref h_mc, .ref h_mr, .int t_4.1, .int t_4.2.1, .int (v_m_tick + (1 : Int32)), .int t_4.2.2.1, .int t_4.2.2.2.1, .int t_4.2.2.2.2.1, .int (v_m_writtenSince ||| t_4.2.2.2.2.1)])), (h_mc, .inl (cI, 8, .inl t_4.2.2.2.2.2.1)), (h_mr, .inl (cI, 12, .inl t_4.2.2.2.2.2.2))] H := hP
  have hD : va_D A [(h_p, .inr (3, [.ref h_po, .ref h_pf, .ref h_ps, .int v_p_length])), (h_po, .inl (cI, 20, .inl v_po)), (h_pf, .inl (cI, 20, .inl v_pf)), (h_ps, .inl (cI, 20, .inl v_ps)), (h_m, .inr (2, [.ref h_p, .ref h_mc, .ref h_mr, .int t_4.1, .int t_4.2.1, .int (v_m_tick + (1 : Int32)), .int t_4.2.2.1, .int t_4.2.2.2.1, .int t_4.2.2.2.2.1, .int (v_m_writtenSince ||| t_4.2.2.2.2.1)])), (h_mc, .inl (cI, 8, .inl t_4.2.2.2.2.2.1)), (h_mr, .inl (cI, 12, .inl t_4.2.2.2.2.2.2))] := hD
  refine lv_aload_n hx hb dX3_step_76 rfl (lv_at hl 1 rfl) ?_
  refine va_get (D := D) (ci := 2) (v := .int t_4.2.2.1) (C := RX3) (T := TX3) (N := 10) hx hb hts i_X3_step_X3 hown hE.1 hP 4 rfl rfl 6 (by decide) (hts _ q_X3_step_11) (fun _ h9 => h9) rfl dX3_step_77 ?_
  refine lv_iconst (v := (3 : Int32)) hx hb dX3_step_80 (by decide) ?_
  refine lv_icmp_ne (tgt := 103) hx hb dX3_step_81 (by decide) (fun c_5 => ?_) (fun c_5 => ?_)
  · have h := x_n c_5 h
    cases h
    exact r_v X hP hD hS rfl dX3_step_103
  · have h := x_p c_5 h
    refine lv_aload_n hx hb dX3_step_84 rfl (lv_at hl 1 rfl) ?_
    refine va_get (D := D) (ci := 2) (v := .ref h_p) (C := RX3) (T := TX3) (N := 10) hx hb hts i_X3_step_X3 hown hE.1 hP 4 rfl rfl 0 (by decide) (hts _ q_X3_step_4) (fun _ h9 => h9) rfl dX3_step_85 ?_
    refine lv_aload_n hx hb dX3_step_88 rfl (lv_at hl 1 rfl) ?_
    refine va_get (D := D) (ci := 2) (v := .int t_4.2.1) (C := RX3) (T := TX3) (N := 10) hx hb hts i_X3_step_X3 hown hE.1 hP 4 rfl rfl 4 (by decide) (hts _ q_X3_step_0) (fun _ h9 => h9) rfl dX3_step_89 ?_
    obtain ⟨t_6, hc, h⟩ := x_b h
    refine c_V (q0 := 0) (ci := 3) (na := 1) (rest := []) (st1 := [.int t_6]) (Wr := [(h_po, .inl (cI, 20, .inl v_po)), (h_pf, .inl (cI, 20, .inl v_pf)), (h_ps, .inl (cI, 20, .inl v_ps)), (h_m, .inr (2, [.ref h_p, .ref h_mc, .ref h_mr, .int t_4.1, .int t_4.2.1, .int (v_m_tick + (1 : Int32)), .int t_4.2.2.1, .int t_4.2.2.2.1, .int t_4.2.2.2.2.1, .int (v_m_writtenSince ||| t_4.2.2.2.2.1)])), (h_mc, .inl (cI, 8, .inl t_4.2.2.2.2.2.1)), (h_mr, .inl (cI, 12, .inl t_4.2.2.2.2.2.2))]) (Wn := [(h_p, .inr (3, [.ref h_po, .ref h_pf, .ref h_ps, .int v_p_length])), (h_po, .inl (cI, 20, .inl v_po)), (h_pf, .inl (cI, 20, .inl v_pf)), (h_ps, .inl (cI, 20, .inl v_ps)), (h_m, .inr (2, [.ref h_p, .ref h_mc, .ref h_mr, .int t_4.1, .int t_4.2.1, .int (v_m_tick + (1 : Int32)), .int t_4.2.2.1, .int t_4.2.2.2.1, .int t_4.2.2.2.2.1, .int (v_m_writtenSince ||| t_4.2.2.2.2.1)])), (h_mc, .inl (cI, 8, .inl t_4.2.2.2.2.2.1)), (h_mr, .inl (cI, 12, .inl t_4.2.2.2.2.2.2))]) X hP hD hS hl.1 (m_X4_has l D cI pt h_p h_po h_pf h_ps v_p_length t_4.2.1 fu _ hc) gX3_step_X4_has rfl ⟨rfl, rfl⟩ rfl (by decide +kernel) ⟨Nat.le_of_ble_eq_true rfl, Nat.le_of_ble_eq_true rfl⟩ rfl rfl [0] [1, 2, 3, 4, 5, 6] [6, 0, 1, 2, 3, 4, 5] rfl rfl rfl rfl rfl (by decide) rfl rfl (Nat.le_of_ble_eq_true rfl) dX3_step_92 ⟨Nat.zero_le _, Nat.zero_le _⟩ rfl rfl (fun H locs hP hD hS => ?_)
    refine lv_if_ne (tgt := 103) hx hb dX3_step_95 (by decide) (fun c_7 => ?_) (fun c_7 => ?_)
    · have h := x_n c_7 h
      cases h
      exact r_v X hP hD hS rfl dX3_step_103
    · have h := x_p c_7 h
      refine lv_aload_n hx hb dX3_step_98 rfl (lv_at hl 1 rfl) ?_
      refine lv_iconst (v := (0 : Int32)) hx hb dX3_step_99 (by decide) ?_
      refine va_put (D := D) (ci := 2) (v := .int (0 : Int32)) (ty := .int) (C := RX3) (T := TX3) (N := 10) hx hb hts i_X3_step_X3 tyX3 tyX3_ok nmX3 hown hE.1 hP hD hS 4 rfl rfl 6 (by decide) (hts _ q_X3_step_11) (fun _ h9 => h9) rfl (by decide +kernel) rfl rfl (Nat.le_of_ble_eq_true rfl) dX3_step_100 (fun H locs hP hD hS => ?_)
      have hP : va_P D vwCl [(h_p, .inr (3, [.ref h_po, .ref h_pf, .ref h_ps, .int v_p_length])), (h_po, .inl (cI, 20, .inl v_po)), (h_pf, .inl (cI, 20, .inl v_pf)), (h_ps, .inl (cI, 20, .inl v_ps)), (h_m, .inr (2, [.ref h_p, .ref h_mc, .ref h_mr, .int t_4.1, .int t_4.2.1, .int (v_m_tick + (1 : Int32)), .int (0 : Int32), .int t_4.2.2.2.1, .int t_4.2.2.2.2.1, .int (v_m_writtenSince ||| t_4.2.2.2.2.1)])), (h_mc, .inl (cI, 8, .inl t_4.2.2.2.2.2.1)), (h_mr, .inl (cI, 12, .inl t_4.2.2.2.2.2.2))] H := hP
      have hD : va_D A [(h_p, .inr (3, [.ref h_po, .ref h_pf, .ref h_ps, .int v_p_length])), (h_po, .inl (cI, 20, .inl v_po)), (h_pf, .inl (cI, 20, .inl v_pf)), (h_ps, .inl (cI, 20, .inl v_ps)), (h_m, .inr (2, [.ref h_p, .ref h_mc, .ref h_mr, .int t_4.1, .int t_4.2.1, .int (v_m_tick + (1 : Int32)), .int (0 : Int32), .int t_4.2.2.2.1, .int t_4.2.2.2.2.1, .int (v_m_writtenSince ||| t_4.2.2.2.2.1)])), (h_mc, .inl (cI, 8, .inl t_4.2.2.2.2.2.1)), (h_mr, .inl (cI, 12, .inl t_4.2.2.2.2.2.2))] := hD
      cases h
      exact r_v X hP hD hS rfl dX3_step_103

theorem q_X3_stopIfGoing_0 : (.fieldLink RX3 18 "StruckBits$Machine" "ending" "I" : Cond) ∈ wsX3_stopIfGoing := by decide +kernel
theorem i_X3_stopIfGoing_X3 : ∀ w ∈ u_ws RX3 TX3 10, w ∈ wsX3_stopIfGoing := by decide +kernel
set_option maxHeartbeats 4000000 in
set_option maxRecDepth 100000 in
theorem m_X3_stopIfGoing (l : Launch) (D : va_G) (cI : ClassId) (pt : Nat) (h_p h_m h_mc h_mr : Nat) (v_m_rowLength : Int32) (v_m_next : Int32) (v_m_tick : Int32) (v_m_ending : Int32) (v_m_readNow : Int32) (v_m_writtenNow : Int32) (v_m_writtenSince : Int32)  (fu : Nat) (res : Int32) (h : f_X3_stopIfGoing fu v_m_ending  = some res) :
    MT l D cI pt yX3_stopIfGoing wsX3_stopIfGoing ({ frames := 0, cells := 0, slots := 0, locals := 0 } : Room) [.ref h_m] [(h_m, .inr (2, [.ref h_p, .ref h_mc, .ref h_mr, .int v_m_rowLength, .int v_m_next, .int v_m_tick, .int v_m_ending, .int v_m_readNow, .int v_m_writtenNow, .int v_m_writtenSince]))] none [(h_m, .inr (2, [.ref h_p, .ref h_mc, .ref h_mr, .int v_m_rowLength, .int v_m_next, .int v_m_tick, .int res, .int v_m_readNow, .int v_m_writtenNow, .int v_m_writtenSince]))] := by
  refine MT.mk (cc := cX3_stopIfGoing) (maxL := 1) (ret := none) (own := RX3) (by decide) rfl rfl (Nat.le_of_ble_eq_true rfl) rfl ?_
  intro p e s m args below meth c A ls X hP hD hS hl
  obtain ⟨hx, hb, hml, hown, hts, hr, hlk, hE, hH, hA⟩ := id X
  have hl : lv_has ls 1 [(0, .ref h_m)] := hl
  unfold f_X3_stopIfGoing at h
  refine lv_aload_n hx hb dX3_stopIfGoing_0 rfl (lv_at hl 0 rfl) ?_
  refine va_get (D := D) (ci := 2) (v := .int v_m_ending) (C := RX3) (T := TX3) (N := 10) hx hb hts i_X3_stopIfGoing_X3 hown hE.1 hP 0 rfl rfl 6 (by decide) (hts _ q_X3_stopIfGoing_0) (fun _ h9 => h9) rfl dX3_stopIfGoing_1 ?_
  refine lv_iconst (v := (3 : Int32)) hx hb dX3_stopIfGoing_4 (by decide) ?_
  refine lv_icmp_ne (tgt := 13) hx hb dX3_stopIfGoing_5 (by decide) (fun c_1 => ?_) (fun c_1 => ?_)
  · have h := x_n c_1 h
    cases h
    exact r_v X hP hD hS rfl dX3_stopIfGoing_13
  · have h := x_p c_1 h
    refine lv_aload_n hx hb dX3_stopIfGoing_8 rfl (lv_at hl 0 rfl) ?_
    refine lv_iconst (v := (2 : Int32)) hx hb dX3_stopIfGoing_9 (by decide) ?_
    refine va_put (D := D) (ci := 2) (v := .int (2 : Int32)) (ty := .int) (C := RX3) (T := TX3) (N := 10) hx hb hts i_X3_stopIfGoing_X3 tyX3 tyX3_ok nmX3 hown hE.1 hP hD hS 0 rfl rfl 6 (by decide) (hts _ q_X3_stopIfGoing_0) (fun _ h9 => h9) rfl (by decide +kernel) rfl rfl (Nat.le_of_ble_eq_true rfl) dX3_stopIfGoing_10 (fun H locs hP hD hS => ?_)
    have hP : va_P D vwCl [(h_m, .inr (2, [.ref h_p, .ref h_mc, .ref h_mr, .int v_m_rowLength, .int v_m_next, .int v_m_tick, .int (2 : Int32), .int v_m_readNow, .int v_m_writtenNow, .int v_m_writtenSince]))] H := hP
    have hD : va_D A [(h_m, .inr (2, [.ref h_p, .ref h_mc, .ref h_mr, .int v_m_rowLength, .int v_m_next, .int v_m_tick, .int (2 : Int32), .int v_m_readNow, .int v_m_writtenNow, .int v_m_writtenSince]))] := hD
    cases h
    exact r_v X hP hD hS rfl dX3_stopIfGoing_13

theorem q_X3_goOn_0 : (.fieldLink RX3 26 "StruckBits$Machine" "tick" "I" : Cond) ∈ wsX3_goOn := by decide +kernel
theorem i_X3_goOn_X3 : ∀ w ∈ u_ws RX3 TX3 10, w ∈ wsX3_goOn := by decide +kernel
theorem q_X3_goOn_2 : (.fieldLink RX3 18 "StruckBits$Machine" "ending" "I" : Cond) ∈ wsX3_goOn := by decide +kernel
set_option maxHeartbeats 4000000 in
set_option maxRecDepth 100000 in
theorem tr_X3_goOn_5 {p : Program} {l : Launch} {e : Env} {s : State} {m : MethodId} {args : Array Value} {below : List Frame} {meth : Method} {c : Code} {D : va_G} {cI : ClassId} {pt : Nat} {A : Nat → Prop} (X : CX p s m args meth c D cI pt A cX3_goOn 2 none wsX3_goOn RX3) (h_p h_po h_pf h_ps h_m h_mc h_mr : Nat) (v_p_length : Int32) (v_po : Nat → Int32) (v_pf : Nat → Int32) (v_ps : Nat → Int32)   (fu : Nat) (k29 : Int32 → Int32 → Int32 → Int32 → Int32 → Int32 → Int32 → (Nat → Int32) → (Nat → Int32) → Option (Int32 × Int32 × Int32 × Int32 × Int32 × Int32 × Int32 × (Nat → Int32) × (Nat → Int32))) (res : Int32 × Int32 × Int32 × Int32 × Int32 × Int32 × Int32 × (Nat → Int32) × (Nat → Int32)) (hk29 : ∀ (e29_m_rowLength : Int32) (e29_m_next : Int32) (e29_m_tick : Int32) (e29_m_ending : Int32) (e29_m_readNow : Int32) (e29_m_writtenNow : Int32) (e29_m_writtenSince : Int32) (e29_mc : Nat → Int32) (e29_mr : Nat → Int32), k29 e29_m_rowLength e29_m_next e29_m_tick e29_m_ending e29_m_readNow e29_m_writtenNow e29_m_writtenSince e29_mc e29_mr = some res → ∀ (H : Heap) (locs : List Loc) (ls : Array Slot), va_P D vwCl [(h_p, .inr (3, [.ref h_po, .ref h_pf, .ref h_ps, .int v_p_length])), (h_po, .inl (cI, 20, .inl v_po)), (h_pf, .inl (cI, 20, .inl v_pf)), (h_ps, .inl (cI, 20, .inl v_ps)), (h_m, .inr (2, [.ref h_p, .ref h_mc, .ref h_mr, .int e29_m_rowLength, .int e29_m_next, .int e29_m_tick, .int e29_m_ending, .int e29_m_readNow, .int e29_m_writtenNow, .int e29_m_writtenSince])), (h_mc, .inl (cI, 8, .inl e29_mc)), (h_mr, .inl (cI, 12, .inl e29_mr))] H → va_D A [(h_p, .inr (3, [.ref h_po, .ref h_pf, .ref h_ps, .int v_p_length])), (h_po, .inl (cI, 20, .inl v_po)), (h_pf, .inl (cI, 20, .inl v_pf)), (h_ps, .inl (cI, 20, .inl v_ps)), (h_m, .inr (2, [.ref h_p, .ref h_mc, .ref h_mr, .int e29_m_rowLength, .int e29_m_next, .int e29_m_tick, .int e29_m_ending, .int e29_m_readNow, .int e29_m_writtenNow, .int e29_m_writtenSince])), (h_mc, .inl (cI, 8, .inl e29_mc)), (h_mr, .inl (cI, 12, .inl e29_mr))] → va_S A s.heap H locs → lv_has ls 2 [(0, .ref h_m)] → W p l e ({ frames := 3, cells := 0, slots := 0, locals := 69 } : Room) s m args below meth c H locs 0 0 (MQ below (Qg D A none [(h_p, .inr (3, [.ref h_po, .ref h_pf, .ref h_ps, .int v_p_length])), (h_po, .inl (cI, 20, .inl v_po)), (h_pf, .inl (cI, 20, .inl v_pf)), (h_ps, .inl (cI, 20, .inl v_ps)), (h_m, .inr (2, [.ref h_p, .ref h_mc, .ref h_mr, .int res.1, .int res.2.1, .int res.2.2.1, .int res.2.2.2.1, .int res.2.2.2.2.1, .int res.2.2.2.2.2.1, .int res.2.2.2.2.2.2.1])), (h_mc, .inl (cI, 8, .inl res.2.2.2.2.2.2.2.1)), (h_mr, .inl (cI, 12, .inl res.2.2.2.2.2.2.2.2))]) args s 0 0 A) (F0 m 29 ls [])) :
    ∀ (n : Nat) (u5_m_rowLength : Int32) (u5_m_next : Int32) (u5_m_tick : Int32) (u5_m_ending : Int32) (u5_m_readNow : Int32) (u5_m_writtenNow : Int32) (u5_m_writtenSince : Int32) (u5_mc : Nat → Int32) (u5_mr : Nat → Int32) (y5_1 : Int32), fr_X3_goOn_5 fu v_p_length v_po v_pf v_ps k29 n u5_m_rowLength u5_m_next u5_m_tick u5_m_ending u5_m_readNow u5_m_writtenNow u5_m_writtenSince u5_mc u5_mr y5_1 = some res → ∀ (H : Heap) (locs : List Loc) (ls : Array Slot), va_P D vwCl [(h_p, .inr (3, [.ref h_po, .ref h_pf, .ref h_ps, .int v_p_length])), (h_po, .inl (cI, 20, .inl v_po)), (h_pf, .inl (cI, 20, .inl v_pf)), (h_ps, .inl (cI, 20, .inl v_ps)), (h_m, .inr (2, [.ref h_p, .ref h_mc, .ref h_mr, .int u5_m_rowLength, .int u5_m_next, .int u5_m_tick, .int u5_m_ending, .int u5_m_readNow, .int u5_m_writtenNow, .int u5_m_writtenSince])), (h_mc, .inl (cI, 8, .inl u5_mc)), (h_mr, .inl (cI, 12, .inl u5_mr))] H → va_D A [(h_p, .inr (3, [.ref h_po, .ref h_pf, .ref h_ps, .int v_p_length])), (h_po, .inl (cI, 20, .inl v_po)), (h_pf, .inl (cI, 20, .inl v_pf)), (h_ps, .inl (cI, 20, .inl v_ps)), (h_m, .inr (2, [.ref h_p, .ref h_mc, .ref h_mr, .int u5_m_rowLength, .int u5_m_next, .int u5_m_tick, .int u5_m_ending, .int u5_m_readNow, .int u5_m_writtenNow, .int u5_m_writtenSince])), (h_mc, .inl (cI, 8, .inl u5_mc)), (h_mr, .inl (cI, 12, .inl u5_mr))] → va_S A s.heap H locs → lv_has ls 2 [(0, .ref h_m), (1, .int y5_1)] → W p l e ({ frames := 3, cells := 0, slots := 0, locals := 69 } : Room) s m args below meth c H locs 0 0 (MQ below (Qg D A none [(h_p, .inr (3, [.ref h_po, .ref h_pf, .ref h_ps, .int v_p_length])), (h_po, .inl (cI, 20, .inl v_po)), (h_pf, .inl (cI, 20, .inl v_pf)), (h_ps, .inl (cI, 20, .inl v_ps)), (h_m, .inr (2, [.ref h_p, .ref h_mc, .ref h_mr, .int res.1, .int res.2.1, .int res.2.2.1, .int res.2.2.2.1, .int res.2.2.2.2.1, .int res.2.2.2.2.2.1, .int res.2.2.2.2.2.2.1])), (h_mc, .inl (cI, 8, .inl res.2.2.2.2.2.2.2.1)), (h_mr, .inl (cI, 12, .inl res.2.2.2.2.2.2.2.2))]) args s 0 0 A) (F0 m 5 ls []) := by
  obtain ⟨hx, hb, hml, hown, hts, hr, hlk, hE, hH, hA⟩ := id X
  intro n
  induction n with
  | zero =>
    intro u5_m_rowLength u5_m_next u5_m_tick u5_m_ending u5_m_readNow u5_m_writtenNow u5_m_writtenSince u5_mc u5_mr y5_1 h
    cases (show none = some res from h)
  | succ n ih =>
    intro u5_m_rowLength u5_m_next u5_m_tick u5_m_ending u5_m_readNow u5_m_writtenNow u5_m_writtenSince u5_mc u5_mr y5_1 h H locs ls hP hD hS hl
    rw [fr_X3_goOn_5] at h
    refine lv_iload_n hx hb dX3_goOn_5 rfl (lv_at hl 1 rfl) ?_
    refine lv_bipush (v := (100 : Int32)) hx hb dX3_goOn_6 (by decide) ?_
    refine lv_icmp_ge (tgt := 29) hx hb dX3_goOn_8 (by decide) (fun c_1 => ?_) (fun c_1 => ?_)
    · have h := x_p c_1 h
      exact hk29 u5_m_rowLength u5_m_next u5_m_tick u5_m_ending u5_m_readNow u5_m_writtenNow u5_m_writtenSince u5_mc u5_mr h _ _ _ hP hD hS (lv_sub hl [0] rfl)
    · have h := x_n c_1 h
      refine lv_aload_n hx hb dX3_goOn_11 rfl (lv_at hl 0 rfl) ?_
      refine va_get (D := D) (ci := 2) (v := .int u5_m_ending) (C := RX3) (T := TX3) (N := 10) hx hb hts i_X3_goOn_X3 hown hE.1 hP 4 rfl rfl 6 (by decide) (hts _ q_X3_goOn_2) (fun _ h9 => h9) rfl dX3_goOn_12 ?_
      refine lv_iconst (v := (3 : Int32)) hx hb dX3_goOn_15 (by decide) ?_
      refine lv_icmp_ne (tgt := 29) hx hb dX3_goOn_16 (by decide) (fun c_2 => ?_) (fun c_2 => ?_)
      · have h := x_n c_2 h
        exact hk29 u5_m_rowLength u5_m_next u5_m_tick u5_m_ending u5_m_readNow u5_m_writtenNow u5_m_writtenSince u5_mc u5_mr h _ _ _ hP hD hS (lv_sub hl [0] rfl)
      · have h := x_p c_2 h
        refine lv_aload_n hx hb dX3_goOn_19 rfl (lv_at hl 0 rfl) ?_
        obtain ⟨t_3, hc, h⟩ := x_b h
        refine c_V (q0 := 4) (ci := 2) (na := 0) (rest := []) (st1 := []) (Wr := []) (Wn := [(h_p, .inr (3, [.ref h_po, .ref h_pf, .ref h_ps, .int v_p_length])), (h_po, .inl (cI, 20, .inl v_po)), (h_pf, .inl (cI, 20, .inl v_pf)), (h_ps, .inl (cI, 20, .inl v_ps)), (h_m, .inr (2, [.ref h_p, .ref h_mc, .ref h_mr, .int t_3.1, .int t_3.2.1, .int t_3.2.2.1, .int t_3.2.2.2.1, .int t_3.2.2.2.2.1, .int t_3.2.2.2.2.2.1, .int t_3.2.2.2.2.2.2.1])), (h_mc, .inl (cI, 8, .inl t_3.2.2.2.2.2.2.2.1)), (h_mr, .inl (cI, 12, .inl t_3.2.2.2.2.2.2.2.2))]) X hP hD hS hl.1 (m_X3_step l D cI pt h_p h_po h_pf h_ps h_m h_mc h_mr v_p_length v_po v_pf v_ps u5_m_rowLength u5_m_next u5_m_tick u5_m_ending u5_m_readNow u5_m_writtenNow u5_m_writtenSince u5_mc u5_mr  fu _ hc) gX3_goOn_X3_step rfl ⟨rfl, rfl⟩ rfl (by decide +kernel) ⟨Nat.le_of_ble_eq_true rfl, Nat.le_of_ble_eq_true rfl⟩ rfl rfl [0, 1, 2, 3, 4, 5, 6] [] [0, 1, 2, 3, 4, 5, 6] rfl rfl rfl rfl rfl (by decide) rfl rfl (Nat.le_of_ble_eq_true rfl) dX3_goOn_20 ⟨Nat.zero_le _, Nat.zero_le _⟩ rfl rfl (fun H locs hP hD hS => ?_)
        refine lv_iinc (v := (y5_1 + (1 : Int32))) (lv' := [(1, .int (y5_1 + (1 : Int32))), (0, .ref h_m)]) hx hb dX3_goOn_23 hl (k := 1) rfl rfl (by decide) rfl (fun ls hl => ?_)
        refine lv_goto (tgt := 5) hx hb dX3_goOn_26 (by decide) ?_
        exact ih t_3.1 t_3.2.1 t_3.2.2.1 t_3.2.2.2.1 t_3.2.2.2.2.1 t_3.2.2.2.2.2.1 t_3.2.2.2.2.2.2.1 t_3.2.2.2.2.2.2.2.1 t_3.2.2.2.2.2.2.2.2 (y5_1 + (1 : Int32)) h _ _ _ hP hD hS (lv_sub hl [1, 0] rfl)
set_option maxHeartbeats 4000000 in
set_option maxRecDepth 100000 in
theorem m_X3_goOn (l : Launch) (D : va_G) (cI : ClassId) (pt : Nat) (h_p h_po h_pf h_ps h_m h_mc h_mr : Nat) (v_p_length : Int32) (v_po : Nat → Int32) (v_pf : Nat → Int32) (v_ps : Nat → Int32) (v_m_rowLength : Int32) (v_m_next : Int32) (v_m_tick : Int32) (v_m_ending : Int32) (v_m_readNow : Int32) (v_m_writtenNow : Int32) (v_m_writtenSince : Int32) (v_mc : Nat → Int32) (v_mr : Nat → Int32)  (fu : Nat) (res : Int32 × Int32 × Int32 × Int32 × Int32 × Int32 × Int32 × (Nat → Int32) × (Nat → Int32)) (h : f_X3_goOn fu v_p_length v_po v_pf v_ps v_m_rowLength v_m_next v_m_tick v_m_ending v_m_readNow v_m_writtenNow v_m_writtenSince v_mc v_mr  = some res) :
    MT l D cI pt yX3_goOn wsX3_goOn ({ frames := 3, cells := 0, slots := 0, locals := 69 } : Room) [.ref h_m] [(h_p, .inr (3, [.ref h_po, .ref h_pf, .ref h_ps, .int v_p_length])), (h_po, .inl (cI, 20, .inl v_po)), (h_pf, .inl (cI, 20, .inl v_pf)), (h_ps, .inl (cI, 20, .inl v_ps)), (h_m, .inr (2, [.ref h_p, .ref h_mc, .ref h_mr, .int v_m_rowLength, .int v_m_next, .int v_m_tick, .int v_m_ending, .int v_m_readNow, .int v_m_writtenNow, .int v_m_writtenSince])), (h_mc, .inl (cI, 8, .inl v_mc)), (h_mr, .inl (cI, 12, .inl v_mr))] none [(h_p, .inr (3, [.ref h_po, .ref h_pf, .ref h_ps, .int v_p_length])), (h_po, .inl (cI, 20, .inl v_po)), (h_pf, .inl (cI, 20, .inl v_pf)), (h_ps, .inl (cI, 20, .inl v_ps)), (h_m, .inr (2, [.ref h_p, .ref h_mc, .ref h_mr, .int res.1, .int res.2.1, .int res.2.2.1, .int res.2.2.2.1, .int res.2.2.2.2.1, .int res.2.2.2.2.2.1, .int res.2.2.2.2.2.2.1])), (h_mc, .inl (cI, 8, .inl res.2.2.2.2.2.2.2.1)), (h_mr, .inl (cI, 12, .inl res.2.2.2.2.2.2.2.2))] := by
  refine MT.mk (cc := cX3_goOn) (maxL := 2) (ret := none) (own := RX3) (by decide) rfl rfl (Nat.le_of_ble_eq_true rfl) rfl ?_
  intro p e s m args below meth c A ls X hP hD hS hl
  obtain ⟨hx, hb, hml, hown, hts, hr, hlk, hE, hH, hA⟩ := id X
  have hl : lv_has ls 2 [(0, .ref h_m)] := hl
  unfold f_X3_goOn at h
  refine lv_aload_n hx hb dX3_goOn_0 rfl (lv_at hl 0 rfl) ?_
  refine va_get (D := D) (ci := 2) (v := .int v_m_tick) (C := RX3) (T := TX3) (N := 10) hx hb hts i_X3_goOn_X3 hown hE.1 hP 4 rfl rfl 5 (by decide) (hts _ q_X3_goOn_0) (fun _ h9 => h9) rfl dX3_goOn_1 ?_
  refine lv_istore_n (lv' := [(1, .int v_m_tick), (0, .ref h_m)]) hx hb dX3_goOn_4 rfl hl (by decide) rfl (fun ls hl => ?_)
  refine tr_X3_goOn_5 X h_p h_po h_pf h_ps h_m h_mc h_mr v_p_length v_po v_pf v_ps  fu _ res ?_ fu v_m_rowLength v_m_next v_m_tick v_m_ending v_m_readNow v_m_writtenNow v_m_writtenSince v_mc v_mr v_m_tick h _ _ _ hP hD hS (lv_sub hl [1, 0] rfl)
  · intro e5_29_m_rowLength e5_29_m_next e5_29_m_tick e5_29_m_ending e5_29_m_readNow e5_29_m_writtenNow e5_29_m_writtenSince e5_29_mc e5_29_mr h H locs ls hP hD hS hl
    refine lv_aload_n hx hb dX3_goOn_29 rfl (lv_at hl 0 rfl) ?_
    obtain ⟨t_4, hc, h⟩ := x_b h
    refine c_V (q0 := 0) (ci := 2) (na := 0) (rest := []) (st1 := []) (Wr := [(h_p, .inr (3, [.ref h_po, .ref h_pf, .ref h_ps, .int v_p_length])), (h_po, .inl (cI, 20, .inl v_po)), (h_pf, .inl (cI, 20, .inl v_pf)), (h_ps, .inl (cI, 20, .inl v_ps)), (h_mc, .inl (cI, 8, .inl e5_29_mc)), (h_mr, .inl (cI, 12, .inl e5_29_mr))]) (Wn := [(h_p, .inr (3, [.ref h_po, .ref h_pf, .ref h_ps, .int v_p_length])), (h_po, .inl (cI, 20, .inl v_po)), (h_pf, .inl (cI, 20, .inl v_pf)), (h_ps, .inl (cI, 20, .inl v_ps)), (h_m, .inr (2, [.ref h_p, .ref h_mc, .ref h_mr, .int e5_29_m_rowLength, .int e5_29_m_next, .int e5_29_m_tick, .int t_4, .int e5_29_m_readNow, .int e5_29_m_writtenNow, .int e5_29_m_writtenSince])), (h_mc, .inl (cI, 8, .inl e5_29_mc)), (h_mr, .inl (cI, 12, .inl e5_29_mr))]) X hP hD hS hl.1 (m_X3_stopIfGoing l D cI pt h_p h_m h_mc h_mr e5_29_m_rowLength e5_29_m_next e5_29_m_tick e5_29_m_ending e5_29_m_readNow e5_29_m_writtenNow e5_29_m_writtenSince  fu _ hc) gX3_goOn_X3_stopIfGoing rfl ⟨rfl, rfl⟩ rfl (by decide +kernel) ⟨Nat.le_of_ble_eq_true rfl, Nat.le_of_ble_eq_true rfl⟩ rfl rfl [4] [0, 1, 2, 3, 5, 6] [0, 1, 2, 3, 6, 4, 5] rfl rfl rfl rfl rfl (by decide) rfl rfl (Nat.le_of_ble_eq_true rfl) dX3_goOn_30 ⟨Nat.zero_le _, Nat.zero_le _⟩ rfl rfl (fun H locs hP hD hS => ?_)
    cases h
    exact r_v X hP hD hS rfl dX3_goOn_33

theorem q_X3_standAt_0 : (.fieldLink RX3 26 "StruckBits$Machine" "tick" "I" : Cond) ∈ wsX3_standAt := by decide +kernel
theorem i_X3_standAt_X3 : ∀ w ∈ u_ws RX3 TX3 10, w ∈ wsX3_standAt := by decide +kernel
theorem q_X3_standAt_2 : (.fieldLink RX3 29 "StruckBits$Machine" "next" "I" : Cond) ∈ wsX3_standAt := by decide +kernel
theorem q_X3_standAt_3 : (.fieldLink RX3 32 "StruckBits$Machine" "rowLength" "I" : Cond) ∈ wsX3_standAt := by decide +kernel
theorem q_X3_standAt_4 : (.fieldLink RX3 35 "StruckBits$Machine" "writtenSince" "I" : Cond) ∈ wsX3_standAt := by decide +kernel
theorem q_X3_standAt_5 : (.fieldLink RX3 22 "StruckBits$Machine" "program" "LStruckBits$Program;" : Cond) ∈ wsX3_standAt := by decide +kernel
theorem q_X3_standAt_6 : (.fieldLink RX3 18 "StruckBits$Machine" "ending" "I" : Cond) ∈ wsX3_standAt := by decide +kernel
set_option maxHeartbeats 4000000 in
set_option maxRecDepth 100000 in
theorem m_X3_standAt (l : Launch) (D : va_G) (cI : ClassId) (pt : Nat) (h_p h_po h_pf h_ps h_m h_mc h_mr : Nat) (v_p_length : Int32) (v_m_rowLength : Int32) (v_m_next : Int32) (v_m_tick : Int32) (v_m_ending : Int32) (v_m_readNow : Int32) (v_m_writtenNow : Int32) (v_m_writtenSince : Int32) (a0 : Int32) (a1 : Int32) (a2 : Int32) (fu : Nat) (res : Int32 × Int32 × Int32 × Int32 × Int32) (h : f_X3_standAt fu v_p_length v_m_rowLength v_m_next v_m_tick v_m_ending v_m_writtenSince a0 a1 a2 = some res) :
    MT l D cI pt yX3_standAt wsX3_standAt ({ frames := 1, cells := 0, slots := 0, locals := 21 } : Room) [.ref h_m, .int a0, .int a1, .int a2] [(h_p, .inr (3, [.ref h_po, .ref h_pf, .ref h_ps, .int v_p_length])), (h_m, .inr (2, [.ref h_p, .ref h_mc, .ref h_mr, .int v_m_rowLength, .int v_m_next, .int v_m_tick, .int v_m_ending, .int v_m_readNow, .int v_m_writtenNow, .int v_m_writtenSince]))] none [(h_p, .inr (3, [.ref h_po, .ref h_pf, .ref h_ps, .int v_p_length])), (h_m, .inr (2, [.ref h_p, .ref h_mc, .ref h_mr, .int res.1, .int res.2.1, .int res.2.2.1, .int res.2.2.2.1, .int v_m_readNow, .int v_m_writtenNow, .int res.2.2.2.2]))] := by
  refine MT.mk (cc := cX3_standAt) (maxL := 4) (ret := none) (own := RX3) (by decide) rfl rfl (Nat.le_of_ble_eq_true rfl) rfl ?_
  intro p e s m args below meth c A ls X hP hD hS hl
  obtain ⟨hx, hb, hml, hown, hts, hr, hlk, hE, hH, hA⟩ := id X
  have hl : lv_has ls 4 [(0, .ref h_m), (1, .int a0), (2, .int a1), (3, .int a2)] := hl
  unfold f_X3_standAt at h
  refine lv_aload_n hx hb dX3_standAt_0 rfl (lv_at hl 0 rfl) ?_
  refine lv_iload_n hx hb dX3_standAt_1 rfl (lv_at hl 1 rfl) ?_
  refine va_put (D := D) (ci := 2) (v := .int a0) (ty := .int) (C := RX3) (T := TX3) (N := 10) hx hb hts i_X3_standAt_X3 tyX3 tyX3_ok nmX3 hown hE.1 hP hD hS 1 rfl rfl 5 (by decide) (hts _ q_X3_standAt_0) (fun _ h9 => h9) rfl (by decide +kernel) rfl rfl (Nat.le_of_ble_eq_true rfl) dX3_standAt_2 (fun H locs hP hD hS => ?_)
  have hP : va_P D vwCl [(h_p, .inr (3, [.ref h_po, .ref h_pf, .ref h_ps, .int v_p_length])), (h_m, .inr (2, [.ref h_p, .ref h_mc, .ref h_mr, .int v_m_rowLength, .int v_m_next, .int a0, .int v_m_ending, .int v_m_readNow, .int v_m_writtenNow, .int v_m_writtenSince]))] H := hP
  have hD : va_D A [(h_p, .inr (3, [.ref h_po, .ref h_pf, .ref h_ps, .int v_p_length])), (h_m, .inr (2, [.ref h_p, .ref h_mc, .ref h_mr, .int v_m_rowLength, .int v_m_next, .int a0, .int v_m_ending, .int v_m_readNow, .int v_m_writtenNow, .int v_m_writtenSince]))] := hD
  refine lv_aload_n hx hb dX3_standAt_5 rfl (lv_at hl 0 rfl) ?_
  refine lv_iload_n hx hb dX3_standAt_6 rfl (lv_at hl 2 rfl) ?_
  refine va_put (D := D) (ci := 2) (v := .int a1) (ty := .int) (C := RX3) (T := TX3) (N := 10) hx hb hts i_X3_standAt_X3 tyX3 tyX3_ok nmX3 hown hE.1 hP hD hS 1 rfl rfl 4 (by decide) (hts _ q_X3_standAt_2) (fun _ h9 => h9) rfl (by decide +kernel) rfl rfl (Nat.le_of_ble_eq_true rfl) dX3_standAt_7 (fun H locs hP hD hS => ?_)
  have hP : va_P D vwCl [(h_p, .inr (3, [.ref h_po, .ref h_pf, .ref h_ps, .int v_p_length])), (h_m, .inr (2, [.ref h_p, .ref h_mc, .ref h_mr, .int v_m_rowLength, .int a1, .int a0, .int v_m_ending, .int v_m_readNow, .int v_m_writtenNow, .int v_m_writtenSince]))] H := hP
  have hD : va_D A [(h_p, .inr (3, [.ref h_po, .ref h_pf, .ref h_ps, .int v_p_length])), (h_m, .inr (2, [.ref h_p, .ref h_mc, .ref h_mr, .int v_m_rowLength, .int a1, .int a0, .int v_m_ending, .int v_m_readNow, .int v_m_writtenNow, .int v_m_writtenSince]))] := hD
  refine lv_aload_n hx hb dX3_standAt_10 rfl (lv_at hl 0 rfl) ?_
  refine lv_iload_n hx hb dX3_standAt_11 rfl (lv_at hl 3 rfl) ?_
  refine va_put (D := D) (ci := 2) (v := .int a2) (ty := .int) (C := RX3) (T := TX3) (N := 10) hx hb hts i_X3_standAt_X3 tyX3 tyX3_ok nmX3 hown hE.1 hP hD hS 1 rfl rfl 3 (by decide) (hts _ q_X3_standAt_3) (fun _ h9 => h9) rfl (by decide +kernel) rfl rfl (Nat.le_of_ble_eq_true rfl) dX3_standAt_12 (fun H locs hP hD hS => ?_)
  have hP : va_P D vwCl [(h_p, .inr (3, [.ref h_po, .ref h_pf, .ref h_ps, .int v_p_length])), (h_m, .inr (2, [.ref h_p, .ref h_mc, .ref h_mr, .int a2, .int a1, .int a0, .int v_m_ending, .int v_m_readNow, .int v_m_writtenNow, .int v_m_writtenSince]))] H := hP
  have hD : va_D A [(h_p, .inr (3, [.ref h_po, .ref h_pf, .ref h_ps, .int v_p_length])), (h_m, .inr (2, [.ref h_p, .ref h_mc, .ref h_mr, .int a2, .int a1, .int a0, .int v_m_ending, .int v_m_readNow, .int v_m_writtenNow, .int v_m_writtenSince]))] := hD
  refine lv_aload_n hx hb dX3_standAt_15 rfl (lv_at hl 0 rfl) ?_
  refine lv_iconst (v := (0 : Int32)) hx hb dX3_standAt_16 (by decide) ?_
  refine va_put (D := D) (ci := 2) (v := .int (0 : Int32)) (ty := .int) (C := RX3) (T := TX3) (N := 10) hx hb hts i_X3_standAt_X3 tyX3 tyX3_ok nmX3 hown hE.1 hP hD hS 1 rfl rfl 9 (by decide) (hts _ q_X3_standAt_4) (fun _ h9 => h9) rfl (by decide +kernel) rfl rfl (Nat.le_of_ble_eq_true rfl) dX3_standAt_17 (fun H locs hP hD hS => ?_)
  have hP : va_P D vwCl [(h_p, .inr (3, [.ref h_po, .ref h_pf, .ref h_ps, .int v_p_length])), (h_m, .inr (2, [.ref h_p, .ref h_mc, .ref h_mr, .int a2, .int a1, .int a0, .int v_m_ending, .int v_m_readNow, .int v_m_writtenNow, .int (0 : Int32)]))] H := hP
  have hD : va_D A [(h_p, .inr (3, [.ref h_po, .ref h_pf, .ref h_ps, .int v_p_length])), (h_m, .inr (2, [.ref h_p, .ref h_mc, .ref h_mr, .int a2, .int a1, .int a0, .int v_m_ending, .int v_m_readNow, .int v_m_writtenNow, .int (0 : Int32)]))] := hD
  refine lv_aload_n hx hb dX3_standAt_20 rfl (lv_at hl 0 rfl) ?_
  refine lv_aload_n hx hb dX3_standAt_21 rfl (lv_at hl 0 rfl) ?_
  refine va_get (D := D) (ci := 2) (v := .ref h_p) (C := RX3) (T := TX3) (N := 10) hx hb hts i_X3_standAt_X3 hown hE.1 hP 1 rfl rfl 0 (by decide) (hts _ q_X3_standAt_5) (fun _ h9 => h9) rfl dX3_standAt_22 ?_
  refine lv_iload_n hx hb dX3_standAt_25 rfl (lv_at hl 2 rfl) ?_
  obtain ⟨t_1, hc, h⟩ := x_b h
  refine c_V (q0 := 0) (ci := 3) (na := 1) (rest := [.ref h_m]) (st1 := [.int t_1, .ref h_m]) (Wr := [(h_m, .inr (2, [.ref h_p, .ref h_mc, .ref h_mr, .int a2, .int a1, .int a0, .int v_m_ending, .int v_m_readNow, .int v_m_writtenNow, .int (0 : Int32)]))]) (Wn := [(h_p, .inr (3, [.ref h_po, .ref h_pf, .ref h_ps, .int v_p_length])), (h_m, .inr (2, [.ref h_p, .ref h_mc, .ref h_mr, .int a2, .int a1, .int a0, .int v_m_ending, .int v_m_readNow, .int v_m_writtenNow, .int (0 : Int32)]))]) X hP hD hS hl.1 (m_X4_has l D cI pt h_p h_po h_pf h_ps v_p_length a1 fu _ hc) gX3_standAt_X4_has rfl ⟨rfl, rfl⟩ rfl (by decide +kernel) ⟨Nat.le_of_ble_eq_true rfl, Nat.le_of_ble_eq_true rfl⟩ rfl rfl [0] [1] [1, 0] rfl rfl rfl rfl rfl (by decide) rfl rfl (Nat.le_of_ble_eq_true rfl) dX3_standAt_26 ⟨Nat.zero_le _, Nat.zero_le _⟩ rfl rfl (fun H locs hP hD hS => ?_)
  refine lv_if_eq (tgt := 36) hx hb dX3_standAt_29 (by decide) (fun c_2 => ?_) (fun c_2 => ?_)
  · have h := x_p c_2 h
    refine lv_iconst (v := (0 : Int32)) hx hb dX3_standAt_36 (by decide) ?_
    refine va_put (D := D) (ci := 2) (v := .int (0 : Int32)) (ty := .int) (C := RX3) (T := TX3) (N := 10) hx hb hts i_X3_standAt_X3 tyX3 tyX3_ok nmX3 hown hE.1 hP hD hS 1 rfl rfl 6 (by decide) (hts _ q_X3_standAt_6) (fun _ h9 => h9) rfl (by decide +kernel) rfl rfl (Nat.le_of_ble_eq_true rfl) dX3_standAt_37 (fun H locs hP hD hS => ?_)
    have hP : va_P D vwCl [(h_p, .inr (3, [.ref h_po, .ref h_pf, .ref h_ps, .int v_p_length])), (h_m, .inr (2, [.ref h_p, .ref h_mc, .ref h_mr, .int a2, .int a1, .int a0, .int (0 : Int32), .int v_m_readNow, .int v_m_writtenNow, .int (0 : Int32)]))] H := hP
    have hD : va_D A [(h_p, .inr (3, [.ref h_po, .ref h_pf, .ref h_ps, .int v_p_length])), (h_m, .inr (2, [.ref h_p, .ref h_mc, .ref h_mr, .int a2, .int a1, .int a0, .int (0 : Int32), .int v_m_readNow, .int v_m_writtenNow, .int (0 : Int32)]))] := hD
    cases h
    exact r_v X hP hD hS rfl dX3_standAt_40
  · have h := x_n c_2 h
    refine lv_iconst (v := (3 : Int32)) hx hb dX3_standAt_32 (by decide) ?_
    refine lv_goto (tgt := 37) hx hb dX3_standAt_33 (by decide) ?_
    refine va_put (D := D) (ci := 2) (v := .int (3 : Int32)) (ty := .int) (C := RX3) (T := TX3) (N := 10) hx hb hts i_X3_standAt_X3 tyX3 tyX3_ok nmX3 hown hE.1 hP hD hS 1 rfl rfl 6 (by decide) (hts _ q_X3_standAt_6) (fun _ h9 => h9) rfl (by decide +kernel) rfl rfl (Nat.le_of_ble_eq_true rfl) dX3_standAt_37 (fun H locs hP hD hS => ?_)
    have hP : va_P D vwCl [(h_p, .inr (3, [.ref h_po, .ref h_pf, .ref h_ps, .int v_p_length])), (h_m, .inr (2, [.ref h_p, .ref h_mc, .ref h_mr, .int a2, .int a1, .int a0, .int (3 : Int32), .int v_m_readNow, .int v_m_writtenNow, .int (0 : Int32)]))] H := hP
    have hD : va_D A [(h_p, .inr (3, [.ref h_po, .ref h_pf, .ref h_ps, .int v_p_length])), (h_m, .inr (2, [.ref h_p, .ref h_mc, .ref h_mr, .int a2, .int a1, .int a0, .int (3 : Int32), .int v_m_readNow, .int v_m_writtenNow, .int (0 : Int32)]))] := hD
    cases h
    exact r_v X hP hD hS rfl dX3_standAt_40
