set_option maxHeartbeats 4000000 in
set_option maxRecDepth 100000 in
theorem m_X4_isTarget (l : Launch) (D : va_G) (cI : ClassId) (pt : Nat)   (a0 : Int32) (fu : Nat) (res : Int32) (h : f_X4_isTarget fu  a0 = some res) :
    MT l D cI pt yX4_isTarget wsX4_isTarget ({ frames := 0, cells := 0, slots := 0, locals := 0 } : Room) [.int a0] [] (some (.int res)) [] := by
  refine MT.mk (cc := cX4_isTarget) (maxL := 1) (ret := (some .boolean)) (own := RX4) (by decide) rfl rfl (Nat.le_of_ble_eq_true rfl) rfl ?_
  intro p e s m args below meth c A ls X hP hD hS hl
  obtain ⟨hx, hb, hml, hown, hts, hr, hlk, hE, hH, hA⟩ := id X
  have hl : lv_has ls 1 [(0, .int a0)] := hl
  unfold f_X4_isTarget at h
  refine lv_iload_n hx hb dX4_isTarget_0 rfl (lv_at hl 0 rfl) ?_
  refine lv_if_lt (tgt := 14) hx hb dX4_isTarget_1 (by decide) (fun c_1 => ?_) (fun c_1 => ?_)
  · have h := x_p c_1 h
    refine lv_iconst (v := (0 : Int32)) hx hb dX4_isTarget_14 (by decide) ?_
    cases h
    exact r_z X hP hD hS rfl (Or.inl rfl) dX4_isTarget_15
  · have h := x_n c_1 h
    refine lv_iload_n hx hb dX4_isTarget_4 rfl (lv_at hl 0 rfl) ?_
    refine lv_bipush (v := (20 : Int32)) hx hb dX4_isTarget_5 (by decide) ?_
    refine lv_icmp_ge (tgt := 14) hx hb dX4_isTarget_7 (by decide) (fun c_2 => ?_) (fun c_2 => ?_)
    · have h := x_p c_2 h
      refine lv_iconst (v := (0 : Int32)) hx hb dX4_isTarget_14 (by decide) ?_
      cases h
      exact r_z X hP hD hS rfl (Or.inl rfl) dX4_isTarget_15
    · have h := x_n c_2 h
      refine lv_iconst (v := (1 : Int32)) hx hb dX4_isTarget_10 (by decide) ?_
      refine lv_goto (tgt := 15) hx hb dX4_isTarget_11 (by decide) ?_
      cases h
      exact r_z X hP hD hS rfl (Or.inr rfl) dX4_isTarget_15

theorem q_X4_fits_0 : (.initialized RX6 : Cond) ∈ wsX4_fits := by decide +kernel
theorem q_X4_fits_1 : (.static yX6_isCell : Cond) ∈ wsX4_fits := by decide +kernel
set_option maxHeartbeats 4000000 in
set_option maxRecDepth 100000 in
theorem m_X4_fits (l : Launch) (D : va_G) (cI : ClassId) (pt : Nat)   (a0 : Int32) (a1 : Int32) (a2 : Int32) (fu : Nat) (res : Int32) (h : f_X4_fits fu  a0 a1 a2 = some res) :
    MT l D cI pt yX4_fits wsX4_fits ({ frames := 1, cells := 0, slots := 0, locals := 20 } : Room) [.int a0, .int a1, .int a2] [] (some (.int res)) [] := by
  refine MT.mk (cc := cX4_fits) (maxL := 3) (ret := (some .boolean)) (own := RX4) (by decide) rfl rfl (Nat.le_of_ble_eq_true rfl) rfl ?_
  intro p e s m args below meth c A ls X hP hD hS hl
  obtain ⟨hx, hb, hml, hown, hts, hr, hlk, hE, hH, hA⟩ := id X
  have hl : lv_has ls 3 [(0, .int a0), (1, .int a1), (2, .int a2)] := hl
  unfold f_X4_fits at h
  refine lv_iload_n hx hb dX4_fits_0 rfl (lv_at hl 0 rfl) ?_
  by_cases c_1 : a0 = (0 : Int32)
  · have h := x_p c_1 h
    refine lv_tableIn (tgt := 60) hx hb dX4_fits_1 (by rw [c_1]; decide +kernel) (by rw [c_1]; decide +kernel) (by rw [c_1]; first | rfl | decide +kernel) (by decide) ?_
    refine lv_iload_n hx hb dX4_fits_60 rfl (lv_at hl 1 rfl) ?_
    obtain ⟨t_2, hc, h⟩ := x_b h
    refine c_SN (na := 1) (rest := []) (st1 := [.int t_2]) (Wr := []) (Wn := []) X hP hD hS hl.1 (m_X6_isCell l D cI pt   a1 fu _ hc) gX4_fits_X6_isCell_n21 rfl ⟨rfl, rfl⟩ hE.2.1 (hts _ q_X4_fits_0) (hts _ q_X4_fits_1) rfl (by decide +kernel) ⟨Nat.le_of_ble_eq_true rfl, Nat.le_of_ble_eq_true rfl⟩ [] [] [] rfl rfl rfl rfl (by decide) rfl rfl (Nat.le_of_ble_eq_true rfl) dX4_fits_61 ⟨Nat.zero_le _, Nat.zero_le _⟩ rfl rfl (fun H locs hP hD hS => ?_)
    refine lv_if_eq (tgt := 82) hx hb dX4_fits_64 (by decide) (fun c_3 => ?_) (fun c_3 => ?_)
    · have h := x_p c_3 h
      refine lv_iconst (v := (0 : Int32)) hx hb dX4_fits_82 (by decide) ?_
      cases h
      exact r_z X hP hD hS rfl (Or.inl rfl) dX4_fits_83
    · have h := x_n c_3 h
      refine lv_iload_n hx hb dX4_fits_67 rfl (lv_at hl 2 rfl) ?_
      refine lv_if_lt (tgt := 82) hx hb dX4_fits_68 (by decide) (fun c_4 => ?_) (fun c_4 => ?_)
      · have h := x_p c_4 h
        refine lv_iconst (v := (0 : Int32)) hx hb dX4_fits_82 (by decide) ?_
        cases h
        exact r_z X hP hD hS rfl (Or.inl rfl) dX4_fits_83
      · have h := x_n c_4 h
        refine lv_iload_n hx hb dX4_fits_71 rfl (lv_at hl 2 rfl) ?_
        refine lv_sipush (v := (255 : Int32)) hx hb dX4_fits_72 (by decide) ?_
        refine lv_icmp_gt (tgt := 82) hx hb dX4_fits_75 (by decide) (fun c_5 => ?_) (fun c_5 => ?_)
        · have h := x_p c_5 h
          refine lv_iconst (v := (0 : Int32)) hx hb dX4_fits_82 (by decide) ?_
          cases h
          exact r_z X hP hD hS rfl (Or.inl rfl) dX4_fits_83
        · have h := x_n c_5 h
          refine lv_iconst (v := (1 : Int32)) hx hb dX4_fits_78 (by decide) ?_
          refine lv_goto (tgt := 83) hx hb dX4_fits_79 (by decide) ?_
          cases h
          exact r_z X hP hD hS rfl (Or.inr rfl) dX4_fits_83
  · have h := x_n c_1 h
    by_cases c_6 : a0 = (1 : Int32)
    · have h := x_p c_6 h
      refine lv_tableIn (tgt := 84) hx hb dX4_fits_1 (by rw [c_6]; decide +kernel) (by rw [c_6]; decide +kernel) (by rw [c_6]; first | rfl | decide +kernel) (by decide) ?_
      refine lv_iload_n hx hb dX4_fits_84 rfl (lv_at hl 1 rfl) ?_
      obtain ⟨t_7, hc, h⟩ := x_b h
      refine c_SN (na := 1) (rest := []) (st1 := [.int t_7]) (Wr := []) (Wn := []) X hP hD hS hl.1 (m_X6_isCell l D cI pt   a1 fu _ hc) gX4_fits_X6_isCell_n21 rfl ⟨rfl, rfl⟩ hE.2.1 (hts _ q_X4_fits_0) (hts _ q_X4_fits_1) rfl (by decide +kernel) ⟨Nat.le_of_ble_eq_true rfl, Nat.le_of_ble_eq_true rfl⟩ [] [] [] rfl rfl rfl rfl (by decide) rfl rfl (Nat.le_of_ble_eq_true rfl) dX4_fits_85 ⟨Nat.zero_le _, Nat.zero_le _⟩ rfl rfl (fun H locs hP hD hS => ?_)
      refine lv_if_eq (tgt := 102) hx hb dX4_fits_88 (by decide) (fun c_8 => ?_) (fun c_8 => ?_)
      · have h := x_p c_8 h
        refine lv_iconst (v := (0 : Int32)) hx hb dX4_fits_102 (by decide) ?_
        cases h
        exact r_z X hP hD hS rfl (Or.inl rfl) dX4_fits_103
      · have h := x_n c_8 h
        refine lv_iload_n hx hb dX4_fits_91 rfl (lv_at hl 2 rfl) ?_
        obtain ⟨t_9, hc, h⟩ := x_b h
        refine c_SN (na := 1) (rest := []) (st1 := [.int t_9]) (Wr := []) (Wn := []) X hP hD hS hl.1 (m_X6_isCell l D cI pt   a2 fu _ hc) gX4_fits_X6_isCell_n21 rfl ⟨rfl, rfl⟩ hE.2.1 (hts _ q_X4_fits_0) (hts _ q_X4_fits_1) rfl (by decide +kernel) ⟨Nat.le_of_ble_eq_true rfl, Nat.le_of_ble_eq_true rfl⟩ [] [] [] rfl rfl rfl rfl (by decide) rfl rfl (Nat.le_of_ble_eq_true rfl) dX4_fits_92 ⟨Nat.zero_le _, Nat.zero_le _⟩ rfl rfl (fun H locs hP hD hS => ?_)
        refine lv_if_eq (tgt := 102) hx hb dX4_fits_95 (by decide) (fun c_10 => ?_) (fun c_10 => ?_)
        · have h := x_p c_10 h
          refine lv_iconst (v := (0 : Int32)) hx hb dX4_fits_102 (by decide) ?_
          cases h
          exact r_z X hP hD hS rfl (Or.inl rfl) dX4_fits_103
        · have h := x_n c_10 h
          refine lv_iconst (v := (1 : Int32)) hx hb dX4_fits_98 (by decide) ?_
          refine lv_goto (tgt := 103) hx hb dX4_fits_99 (by decide) ?_
          cases h
          exact r_z X hP hD hS rfl (Or.inr rfl) dX4_fits_103
    · have h := x_n c_6 h
      by_cases c_11 : a0 = (2 : Int32)
      · have h := x_p c_11 h
        refine lv_tableIn (tgt := 84) hx hb dX4_fits_1 (by rw [c_11]; decide +kernel) (by rw [c_11]; decide +kernel) (by rw [c_11]; first | rfl | decide +kernel) (by decide) ?_
        refine lv_iload_n hx hb dX4_fits_84 rfl (lv_at hl 1 rfl) ?_
        obtain ⟨t_12, hc, h⟩ := x_b h
        refine c_SN (na := 1) (rest := []) (st1 := [.int t_12]) (Wr := []) (Wn := []) X hP hD hS hl.1 (m_X6_isCell l D cI pt   a1 fu _ hc) gX4_fits_X6_isCell_n21 rfl ⟨rfl, rfl⟩ hE.2.1 (hts _ q_X4_fits_0) (hts _ q_X4_fits_1) rfl (by decide +kernel) ⟨Nat.le_of_ble_eq_true rfl, Nat.le_of_ble_eq_true rfl⟩ [] [] [] rfl rfl rfl rfl (by decide) rfl rfl (Nat.le_of_ble_eq_true rfl) dX4_fits_85 ⟨Nat.zero_le _, Nat.zero_le _⟩ rfl rfl (fun H locs hP hD hS => ?_)
        refine lv_if_eq (tgt := 102) hx hb dX4_fits_88 (by decide) (fun c_13 => ?_) (fun c_13 => ?_)
        · have h := x_p c_13 h
          refine lv_iconst (v := (0 : Int32)) hx hb dX4_fits_102 (by decide) ?_
          cases h
          exact r_z X hP hD hS rfl (Or.inl rfl) dX4_fits_103
        · have h := x_n c_13 h
          refine lv_iload_n hx hb dX4_fits_91 rfl (lv_at hl 2 rfl) ?_
          obtain ⟨t_14, hc, h⟩ := x_b h
          refine c_SN (na := 1) (rest := []) (st1 := [.int t_14]) (Wr := []) (Wn := []) X hP hD hS hl.1 (m_X6_isCell l D cI pt   a2 fu _ hc) gX4_fits_X6_isCell_n21 rfl ⟨rfl, rfl⟩ hE.2.1 (hts _ q_X4_fits_0) (hts _ q_X4_fits_1) rfl (by decide +kernel) ⟨Nat.le_of_ble_eq_true rfl, Nat.le_of_ble_eq_true rfl⟩ [] [] [] rfl rfl rfl rfl (by decide) rfl rfl (Nat.le_of_ble_eq_true rfl) dX4_fits_92 ⟨Nat.zero_le _, Nat.zero_le _⟩ rfl rfl (fun H locs hP hD hS => ?_)
          refine lv_if_eq (tgt := 102) hx hb dX4_fits_95 (by decide) (fun c_15 => ?_) (fun c_15 => ?_)
          · have h := x_p c_15 h
            refine lv_iconst (v := (0 : Int32)) hx hb dX4_fits_102 (by decide) ?_
            cases h
            exact r_z X hP hD hS rfl (Or.inl rfl) dX4_fits_103
          · have h := x_n c_15 h
            refine lv_iconst (v := (1 : Int32)) hx hb dX4_fits_98 (by decide) ?_
            refine lv_goto (tgt := 103) hx hb dX4_fits_99 (by decide) ?_
            cases h
            exact r_z X hP hD hS rfl (Or.inr rfl) dX4_fits_103
      · have h := x_n c_11 h
        by_cases c_16 : a0 = (3 : Int32)
        · have h := x_p c_16 h
          refine lv_tableIn (tgt := 84) hx hb dX4_fits_1 (by rw [c_16]; decide +kernel) (by rw [c_16]; decide +kernel) (by rw [c_16]; first | rfl | decide +kernel) (by decide) ?_
          refine lv_iload_n hx hb dX4_fits_84 rfl (lv_at hl 1 rfl) ?_
          obtain ⟨t_17, hc, h⟩ := x_b h
          refine c_SN (na := 1) (rest := []) (st1 := [.int t_17]) (Wr := []) (Wn := []) X hP hD hS hl.1 (m_X6_isCell l D cI pt   a1 fu _ hc) gX4_fits_X6_isCell_n21 rfl ⟨rfl, rfl⟩ hE.2.1 (hts _ q_X4_fits_0) (hts _ q_X4_fits_1) rfl (by decide +kernel) ⟨Nat.le_of_ble_eq_true rfl, Nat.le_of_ble_eq_true rfl⟩ [] [] [] rfl rfl rfl rfl (by decide) rfl rfl (Nat.le_of_ble_eq_true rfl) dX4_fits_85 ⟨Nat.zero_le _, Nat.zero_le _⟩ rfl rfl (fun H locs hP hD hS => ?_)
          refine lv_if_eq (tgt := 102) hx hb dX4_fits_88 (by decide) (fun c_18 => ?_) (fun c_18 => ?_)
          · have h := x_p c_18 h
            refine lv_iconst (v := (0 : Int32)) hx hb dX4_fits_102 (by decide) ?_
            cases h
            exact r_z X hP hD hS rfl (Or.inl rfl) dX4_fits_103
          · have h := x_n c_18 h
            refine lv_iload_n hx hb dX4_fits_91 rfl (lv_at hl 2 rfl) ?_
            obtain ⟨t_19, hc, h⟩ := x_b h
            refine c_SN (na := 1) (rest := []) (st1 := [.int t_19]) (Wr := []) (Wn := []) X hP hD hS hl.1 (m_X6_isCell l D cI pt   a2 fu _ hc) gX4_fits_X6_isCell_n21 rfl ⟨rfl, rfl⟩ hE.2.1 (hts _ q_X4_fits_0) (hts _ q_X4_fits_1) rfl (by decide +kernel) ⟨Nat.le_of_ble_eq_true rfl, Nat.le_of_ble_eq_true rfl⟩ [] [] [] rfl rfl rfl rfl (by decide) rfl rfl (Nat.le_of_ble_eq_true rfl) dX4_fits_92 ⟨Nat.zero_le _, Nat.zero_le _⟩ rfl rfl (fun H locs hP hD hS => ?_)
            refine lv_if_eq (tgt := 102) hx hb dX4_fits_95 (by decide) (fun c_20 => ?_) (fun c_20 => ?_)
            · have h := x_p c_20 h
              refine lv_iconst (v := (0 : Int32)) hx hb dX4_fits_102 (by decide) ?_
              cases h
              exact r_z X hP hD hS rfl (Or.inl rfl) dX4_fits_103
            · have h := x_n c_20 h
              refine lv_iconst (v := (1 : Int32)) hx hb dX4_fits_98 (by decide) ?_
              refine lv_goto (tgt := 103) hx hb dX4_fits_99 (by decide) ?_
              cases h
              exact r_z X hP hD hS rfl (Or.inr rfl) dX4_fits_103
        · have h := x_n c_16 h
          by_cases c_21 : a0 = (4 : Int32)
          · have h := x_p c_21 h
            refine lv_tableIn (tgt := 84) hx hb dX4_fits_1 (by rw [c_21]; decide +kernel) (by rw [c_21]; decide +kernel) (by rw [c_21]; first | rfl | decide +kernel) (by decide) ?_
            refine lv_iload_n hx hb dX4_fits_84 rfl (lv_at hl 1 rfl) ?_
            obtain ⟨t_22, hc, h⟩ := x_b h
            refine c_SN (na := 1) (rest := []) (st1 := [.int t_22]) (Wr := []) (Wn := []) X hP hD hS hl.1 (m_X6_isCell l D cI pt   a1 fu _ hc) gX4_fits_X6_isCell_n21 rfl ⟨rfl, rfl⟩ hE.2.1 (hts _ q_X4_fits_0) (hts _ q_X4_fits_1) rfl (by decide +kernel) ⟨Nat.le_of_ble_eq_true rfl, Nat.le_of_ble_eq_true rfl⟩ [] [] [] rfl rfl rfl rfl (by decide) rfl rfl (Nat.le_of_ble_eq_true rfl) dX4_fits_85 ⟨Nat.zero_le _, Nat.zero_le _⟩ rfl rfl (fun H locs hP hD hS => ?_)
            refine lv_if_eq (tgt := 102) hx hb dX4_fits_88 (by decide) (fun c_23 => ?_) (fun c_23 => ?_)
            · have h := x_p c_23 h
              refine lv_iconst (v := (0 : Int32)) hx hb dX4_fits_102 (by decide) ?_
              cases h
              exact r_z X hP hD hS rfl (Or.inl rfl) dX4_fits_103
            · have h := x_n c_23 h
              refine lv_iload_n hx hb dX4_fits_91 rfl (lv_at hl 2 rfl) ?_
              obtain ⟨t_24, hc, h⟩ := x_b h
              refine c_SN (na := 1) (rest := []) (st1 := [.int t_24]) (Wr := []) (Wn := []) X hP hD hS hl.1 (m_X6_isCell l D cI pt   a2 fu _ hc) gX4_fits_X6_isCell_n21 rfl ⟨rfl, rfl⟩ hE.2.1 (hts _ q_X4_fits_0) (hts _ q_X4_fits_1) rfl (by decide +kernel) ⟨Nat.le_of_ble_eq_true rfl, Nat.le_of_ble_eq_true rfl⟩ [] [] [] rfl rfl rfl rfl (by decide) rfl rfl (Nat.le_of_ble_eq_true rfl) dX4_fits_92 ⟨Nat.zero_le _, Nat.zero_le _⟩ rfl rfl (fun H locs hP hD hS => ?_)
              refine lv_if_eq (tgt := 102) hx hb dX4_fits_95 (by decide) (fun c_25 => ?_) (fun c_25 => ?_)
              · have h := x_p c_25 h
                refine lv_iconst (v := (0 : Int32)) hx hb dX4_fits_102 (by decide) ?_
                cases h
                exact r_z X hP hD hS rfl (Or.inl rfl) dX4_fits_103
              · have h := x_n c_25 h
                refine lv_iconst (v := (1 : Int32)) hx hb dX4_fits_98 (by decide) ?_
                refine lv_goto (tgt := 103) hx hb dX4_fits_99 (by decide) ?_
                cases h
                exact r_z X hP hD hS rfl (Or.inr rfl) dX4_fits_103
          · have h := x_n c_21 h
            by_cases c_26 : a0 = (5 : Int32)
            · have h := x_p c_26 h
              refine lv_tableIn (tgt := 104) hx hb dX4_fits_1 (by rw [c_26]; decide +kernel) (by rw [c_26]; decide +kernel) (by rw [c_26]; first | rfl | decide +kernel) (by decide) ?_
              refine lv_iload_n hx hb dX4_fits_104 rfl (lv_at hl 1 rfl) ?_
              obtain ⟨t_27, hc, h⟩ := x_b h
              refine c_SN (na := 1) (rest := []) (st1 := [.int t_27]) (Wr := []) (Wn := []) X hP hD hS hl.1 (m_X6_isCell l D cI pt   a1 fu _ hc) gX4_fits_X6_isCell_n21 rfl ⟨rfl, rfl⟩ hE.2.1 (hts _ q_X4_fits_0) (hts _ q_X4_fits_1) rfl (by decide +kernel) ⟨Nat.le_of_ble_eq_true rfl, Nat.le_of_ble_eq_true rfl⟩ [] [] [] rfl rfl rfl rfl (by decide) rfl rfl (Nat.le_of_ble_eq_true rfl) dX4_fits_105 ⟨Nat.zero_le _, Nat.zero_le _⟩ rfl rfl (fun H locs hP hD hS => ?_)
              obtain ⟨g_28, h⟩ := x_gd h
              cases h
              exact r_z X hP hD hS rfl g_28 dX4_fits_108
            · have h := x_n c_26 h
              by_cases c_29 : a0 = (6 : Int32)
              · have h := x_p c_29 h
                refine lv_tableIn (tgt := 109) hx hb dX4_fits_1 (by rw [c_29]; decide +kernel) (by rw [c_29]; decide +kernel) (by rw [c_29]; first | rfl | decide +kernel) (by decide) ?_
                refine lv_iload_n hx hb dX4_fits_109 rfl (lv_at hl 1 rfl) ?_
                obtain ⟨t_30, hc, h⟩ := x_b h
                refine c_S (na := 1) (rest := []) (st1 := [.int t_30]) (Wr := []) (Wn := []) X hP hD hS hl.1 (m_X4_isTarget l D cI pt   a1 fu _ hc) gX4_fits_X4_isTarget rfl ⟨rfl, rfl⟩ rfl (by decide +kernel) ⟨Nat.le_of_ble_eq_true rfl, Nat.le_of_ble_eq_true rfl⟩ [] [] [] rfl rfl rfl rfl (by decide) rfl rfl (Nat.le_of_ble_eq_true rfl) dX4_fits_110 ⟨Nat.zero_le _, Nat.zero_le _⟩ rfl rfl (fun H locs hP hD hS => ?_)
                obtain ⟨g_31, h⟩ := x_gd h
                cases h
                exact r_z X hP hD hS rfl g_31 dX4_fits_113
              · have h := x_n c_29 h
                by_cases c_32 : a0 = (7 : Int32)
                · have h := x_p c_32 h
                  refine lv_tableIn (tgt := 114) hx hb dX4_fits_1 (by rw [c_32]; decide +kernel) (by rw [c_32]; decide +kernel) (by rw [c_32]; first | rfl | decide +kernel) (by decide) ?_
                  refine lv_iload_n hx hb dX4_fits_114 rfl (lv_at hl 1 rfl) ?_
                  obtain ⟨t_33, hc, h⟩ := x_b h
                  refine c_SN (na := 1) (rest := []) (st1 := [.int t_33]) (Wr := []) (Wn := []) X hP hD hS hl.1 (m_X6_isCell l D cI pt   a1 fu _ hc) gX4_fits_X6_isCell_n21 rfl ⟨rfl, rfl⟩ hE.2.1 (hts _ q_X4_fits_0) (hts _ q_X4_fits_1) rfl (by decide +kernel) ⟨Nat.le_of_ble_eq_true rfl, Nat.le_of_ble_eq_true rfl⟩ [] [] [] rfl rfl rfl rfl (by decide) rfl rfl (Nat.le_of_ble_eq_true rfl) dX4_fits_115 ⟨Nat.zero_le _, Nat.zero_le _⟩ rfl rfl (fun H locs hP hD hS => ?_)
                  refine lv_if_eq (tgt := 132) hx hb dX4_fits_118 (by decide) (fun c_34 => ?_) (fun c_34 => ?_)
                  · have h := x_p c_34 h
                    refine lv_iconst (v := (0 : Int32)) hx hb dX4_fits_132 (by decide) ?_
                    cases h
                    exact r_z X hP hD hS rfl (Or.inl rfl) dX4_fits_133
                  · have h := x_n c_34 h
                    refine lv_iload_n hx hb dX4_fits_121 rfl (lv_at hl 2 rfl) ?_
                    obtain ⟨t_35, hc, h⟩ := x_b h
                    refine c_S (na := 1) (rest := []) (st1 := [.int t_35]) (Wr := []) (Wn := []) X hP hD hS hl.1 (m_X4_isTarget l D cI pt   a2 fu _ hc) gX4_fits_X4_isTarget rfl ⟨rfl, rfl⟩ rfl (by decide +kernel) ⟨Nat.le_of_ble_eq_true rfl, Nat.le_of_ble_eq_true rfl⟩ [] [] [] rfl rfl rfl rfl (by decide) rfl rfl (Nat.le_of_ble_eq_true rfl) dX4_fits_122 ⟨Nat.zero_le _, Nat.zero_le _⟩ rfl rfl (fun H locs hP hD hS => ?_)
                    refine lv_if_eq (tgt := 132) hx hb dX4_fits_125 (by decide) (fun c_36 => ?_) (fun c_36 => ?_)
                    · have h := x_p c_36 h
                      refine lv_iconst (v := (0 : Int32)) hx hb dX4_fits_132 (by decide) ?_
                      cases h
                      exact r_z X hP hD hS rfl (Or.inl rfl) dX4_fits_133
                    · have h := x_n c_36 h
                      refine lv_iconst (v := (1 : Int32)) hx hb dX4_fits_128 (by decide) ?_
                      refine lv_goto (tgt := 133) hx hb dX4_fits_129 (by decide) ?_
                      cases h
                      exact r_z X hP hD hS rfl (Or.inr rfl) dX4_fits_133
                · have h := x_n c_32 h
                  by_cases c_37 : a0 = (8 : Int32)
                  · have h := x_p c_37 h
                    refine lv_tableIn (tgt := 104) hx hb dX4_fits_1 (by rw [c_37]; decide +kernel) (by rw [c_37]; decide +kernel) (by rw [c_37]; first | rfl | decide +kernel) (by decide) ?_
                    refine lv_iload_n hx hb dX4_fits_104 rfl (lv_at hl 1 rfl) ?_
                    obtain ⟨t_38, hc, h⟩ := x_b h
                    refine c_SN (na := 1) (rest := []) (st1 := [.int t_38]) (Wr := []) (Wn := []) X hP hD hS hl.1 (m_X6_isCell l D cI pt   a1 fu _ hc) gX4_fits_X6_isCell_n21 rfl ⟨rfl, rfl⟩ hE.2.1 (hts _ q_X4_fits_0) (hts _ q_X4_fits_1) rfl (by decide +kernel) ⟨Nat.le_of_ble_eq_true rfl, Nat.le_of_ble_eq_true rfl⟩ [] [] [] rfl rfl rfl rfl (by decide) rfl rfl (Nat.le_of_ble_eq_true rfl) dX4_fits_105 ⟨Nat.zero_le _, Nat.zero_le _⟩ rfl rfl (fun H locs hP hD hS => ?_)
                    obtain ⟨g_39, h⟩ := x_gd h
                    cases h
                    exact r_z X hP hD hS rfl g_39 dX4_fits_108
                  · have h := x_n c_37 h
                    by_cases c_40 : a0 = (9 : Int32)
                    · have h := x_p c_40 h
                      refine lv_tableIn (tgt := 84) hx hb dX4_fits_1 (by rw [c_40]; decide +kernel) (by rw [c_40]; decide +kernel) (by rw [c_40]; first | rfl | decide +kernel) (by decide) ?_
                      refine lv_iload_n hx hb dX4_fits_84 rfl (lv_at hl 1 rfl) ?_
                      obtain ⟨t_41, hc, h⟩ := x_b h
                      refine c_SN (na := 1) (rest := []) (st1 := [.int t_41]) (Wr := []) (Wn := []) X hP hD hS hl.1 (m_X6_isCell l D cI pt   a1 fu _ hc) gX4_fits_X6_isCell_n21 rfl ⟨rfl, rfl⟩ hE.2.1 (hts _ q_X4_fits_0) (hts _ q_X4_fits_1) rfl (by decide +kernel) ⟨Nat.le_of_ble_eq_true rfl, Nat.le_of_ble_eq_true rfl⟩ [] [] [] rfl rfl rfl rfl (by decide) rfl rfl (Nat.le_of_ble_eq_true rfl) dX4_fits_85 ⟨Nat.zero_le _, Nat.zero_le _⟩ rfl rfl (fun H locs hP hD hS => ?_)
                      refine lv_if_eq (tgt := 102) hx hb dX4_fits_88 (by decide) (fun c_42 => ?_) (fun c_42 => ?_)
                      · have h := x_p c_42 h
                        refine lv_iconst (v := (0 : Int32)) hx hb dX4_fits_102 (by decide) ?_
                        cases h
                        exact r_z X hP hD hS rfl (Or.inl rfl) dX4_fits_103
                      · have h := x_n c_42 h
                        refine lv_iload_n hx hb dX4_fits_91 rfl (lv_at hl 2 rfl) ?_
                        obtain ⟨t_43, hc, h⟩ := x_b h
                        refine c_SN (na := 1) (rest := []) (st1 := [.int t_43]) (Wr := []) (Wn := []) X hP hD hS hl.1 (m_X6_isCell l D cI pt   a2 fu _ hc) gX4_fits_X6_isCell_n21 rfl ⟨rfl, rfl⟩ hE.2.1 (hts _ q_X4_fits_0) (hts _ q_X4_fits_1) rfl (by decide +kernel) ⟨Nat.le_of_ble_eq_true rfl, Nat.le_of_ble_eq_true rfl⟩ [] [] [] rfl rfl rfl rfl (by decide) rfl rfl (Nat.le_of_ble_eq_true rfl) dX4_fits_92 ⟨Nat.zero_le _, Nat.zero_le _⟩ rfl rfl (fun H locs hP hD hS => ?_)
                        refine lv_if_eq (tgt := 102) hx hb dX4_fits_95 (by decide) (fun c_44 => ?_) (fun c_44 => ?_)
                        · have h := x_p c_44 h
                          refine lv_iconst (v := (0 : Int32)) hx hb dX4_fits_102 (by decide) ?_
                          cases h
                          exact r_z X hP hD hS rfl (Or.inl rfl) dX4_fits_103
                        · have h := x_n c_44 h
                          refine lv_iconst (v := (1 : Int32)) hx hb dX4_fits_98 (by decide) ?_
                          refine lv_goto (tgt := 103) hx hb dX4_fits_99 (by decide) ?_
                          cases h
                          exact r_z X hP hD hS rfl (Or.inr rfl) dX4_fits_103
                    · have h := x_n c_40 h
                      by_cases c_45 : a0 = (10 : Int32)
                      · have h := x_p c_45 h
                        refine lv_tableIn (tgt := 84) hx hb dX4_fits_1 (by rw [c_45]; decide +kernel) (by rw [c_45]; decide +kernel) (by rw [c_45]; first | rfl | decide +kernel) (by decide) ?_
                        refine lv_iload_n hx hb dX4_fits_84 rfl (lv_at hl 1 rfl) ?_
                        obtain ⟨t_46, hc, h⟩ := x_b h
                        refine c_SN (na := 1) (rest := []) (st1 := [.int t_46]) (Wr := []) (Wn := []) X hP hD hS hl.1 (m_X6_isCell l D cI pt   a1 fu _ hc) gX4_fits_X6_isCell_n21 rfl ⟨rfl, rfl⟩ hE.2.1 (hts _ q_X4_fits_0) (hts _ q_X4_fits_1) rfl (by decide +kernel) ⟨Nat.le_of_ble_eq_true rfl, Nat.le_of_ble_eq_true rfl⟩ [] [] [] rfl rfl rfl rfl (by decide) rfl rfl (Nat.le_of_ble_eq_true rfl) dX4_fits_85 ⟨Nat.zero_le _, Nat.zero_le _⟩ rfl rfl (fun H locs hP hD hS => ?_)
                        refine lv_if_eq (tgt := 102) hx hb dX4_fits_88 (by decide) (fun c_47 => ?_) (fun c_47 => ?_)
                        · have h := x_p c_47 h
                          refine lv_iconst (v := (0 : Int32)) hx hb dX4_fits_102 (by decide) ?_
                          cases h
                          exact r_z X hP hD hS rfl (Or.inl rfl) dX4_fits_103
                        · have h := x_n c_47 h
                          refine lv_iload_n hx hb dX4_fits_91 rfl (lv_at hl 2 rfl) ?_
                          obtain ⟨t_48, hc, h⟩ := x_b h
                          refine c_SN (na := 1) (rest := []) (st1 := [.int t_48]) (Wr := []) (Wn := []) X hP hD hS hl.1 (m_X6_isCell l D cI pt   a2 fu _ hc) gX4_fits_X6_isCell_n21 rfl ⟨rfl, rfl⟩ hE.2.1 (hts _ q_X4_fits_0) (hts _ q_X4_fits_1) rfl (by decide +kernel) ⟨Nat.le_of_ble_eq_true rfl, Nat.le_of_ble_eq_true rfl⟩ [] [] [] rfl rfl rfl rfl (by decide) rfl rfl (Nat.le_of_ble_eq_true rfl) dX4_fits_92 ⟨Nat.zero_le _, Nat.zero_le _⟩ rfl rfl (fun H locs hP hD hS => ?_)
                          refine lv_if_eq (tgt := 102) hx hb dX4_fits_95 (by decide) (fun c_49 => ?_) (fun c_49 => ?_)
                          · have h := x_p c_49 h
                            refine lv_iconst (v := (0 : Int32)) hx hb dX4_fits_102 (by decide) ?_
                            cases h
                            exact r_z X hP hD hS rfl (Or.inl rfl) dX4_fits_103
                          · have h := x_n c_49 h
                            refine lv_iconst (v := (1 : Int32)) hx hb dX4_fits_98 (by decide) ?_
                            refine lv_goto (tgt := 103) hx hb dX4_fits_99 (by decide) ?_
                            cases h
                            exact r_z X hP hD hS rfl (Or.inr rfl) dX4_fits_103
                      · have h := x_n c_45 h
                        refine lv_tableOut (tgt := 134) hx hb dX4_fits_1 (x_sw (n := 10) (fun k hk => by rcases (show k = 0 ∨ k = 1 ∨ k = 2 ∨ k = 3 ∨ k = 4 ∨ k = 5 ∨ k = 6 ∨ k = 7 ∨ k = 8 ∨ k = 9 ∨ k = 10 by omega) with rfl | rfl | rfl | rfl | rfl | rfl | rfl | rfl | rfl | rfl | rfl <;> first | exact c_1 | exact c_6 | exact c_11 | exact c_16 | exact c_21 | exact c_26 | exact c_29 | exact c_32 | exact c_37 | exact c_40 | exact c_45)) (by decide) ?_
                        refine lv_iload_n hx hb dX4_fits_134 rfl (lv_at hl 0 rfl) ?_
                        refine lv_bipush (v := (11 : Int32)) hx hb dX4_fits_135 (by decide) ?_
                        refine lv_icmp_ne (tgt := 144) hx hb dX4_fits_137 (by decide) (fun c_50 => ?_) (fun c_50 => ?_)
                        · have h := x_n c_50 h
                          refine lv_iconst (v := (0 : Int32)) hx hb dX4_fits_144 (by decide) ?_
                          cases h
                          exact r_z X hP hD hS rfl (Or.inl rfl) dX4_fits_145
                        · have h := x_p c_50 h
                          refine lv_iconst (v := (1 : Int32)) hx hb dX4_fits_140 (by decide) ?_
                          refine lv_goto (tgt := 145) hx hb dX4_fits_141 (by decide) ?_
                          cases h
                          exact r_z X hP hD hS rfl (Or.inr rfl) dX4_fits_145

theorem q_X4_put_0 : (.fieldLink RX4 9 "StruckBits$Program" "ops" "[I" : Cond) ∈ wsX4_put := by decide +kernel
theorem i_X4_put_X4 : ∀ w ∈ u_ws RX4 TX4 4, w ∈ wsX4_put := by decide +kernel
theorem q_X4_put_2 : (.fieldLink RX4 15 "StruckBits$Program" "firsts" "[I" : Cond) ∈ wsX4_put := by decide +kernel
theorem q_X4_put_3 : (.fieldLink RX4 18 "StruckBits$Program" "seconds" "[I" : Cond) ∈ wsX4_put := by decide +kernel
set_option maxHeartbeats 4000000 in
set_option maxRecDepth 100000 in
theorem tr_X4_put_39 {p : Program} {l : Launch} {e : Env} {s : State} {m : MethodId} {args : Array Value} {below : List Frame} {meth : Method} {c : Code} {D : va_G} {cI : ClassId} {pt : Nat} {A : Nat → Prop} (X : CX p s m args meth c D cI pt A cX4_put 7 none wsX4_put RX4) (h_p h_po h_pf h_ps : Nat) (v_p_length : Int32)   (fu : Nat)  (res : (Nat → Int32) × (Nat → Int32) × (Nat → Int32))  :
    ∀ (u39_po : Nat → Int32) (u39_pf : Nat → Int32) (u39_ps : Nat → Int32) (y39_1 : Int32) (y39_2 : Int32) (y39_3 : Int32) (y39_4 : Int32) (y39_5 : Int32), fr_X4_put_39 fu    u39_po u39_pf u39_ps y39_1 y39_2 y39_3 y39_4 y39_5 = some res → ∀ (H : Heap) (locs : List Loc) (ls : Array Slot), va_P D vwCl [(h_p, .inr (3, [.ref h_po, .ref h_pf, .ref h_ps, .int v_p_length])), (h_po, .inl (cI, 20, .inl u39_po)), (h_pf, .inl (cI, 20, .inl u39_pf)), (h_ps, .inl (cI, 20, .inl u39_ps))] H → va_D A [(h_p, .inr (3, [.ref h_po, .ref h_pf, .ref h_ps, .int v_p_length])), (h_po, .inl (cI, 20, .inl u39_po)), (h_pf, .inl (cI, 20, .inl u39_pf)), (h_ps, .inl (cI, 20, .inl u39_ps))] → va_S A s.heap H locs → lv_has ls 7 [(0, .ref h_p), (1, .int y39_1), (2, .int y39_2), (3, .int y39_3), (4, .int y39_4), (5, .int y39_5)] → W p l e ({ frames := 0, cells := 0, slots := 0, locals := 0 } : Room) s m args below meth c H locs 0 0 (MQ below (Qg D A none [(h_p, .inr (3, [.ref h_po, .ref h_pf, .ref h_ps, .int v_p_length])), (h_po, .inl (cI, 20, .inl res.1)), (h_pf, .inl (cI, 20, .inl res.2.1)), (h_ps, .inl (cI, 20, .inl res.2.2))]) args s 0 0 A) (F0 m 39 ls []) := by
  obtain ⟨hx, hb, hml, hown, hts, hr, hlk, hE, hH, hA⟩ := id X
  intro u39_po u39_pf u39_ps y39_1 y39_2 y39_3 y39_4 y39_5 h H locs ls hP hD hS hl
  unfold fr_X4_put_39 at h
  refine lv_iconst (v := (0 : Int32)) hx hb dX4_put_39 (by decide) ?_
  refine lv_istore (lv' := [(6, .int (0 : Int32)), (0, .ref h_p), (1, .int y39_1), (2, .int y39_2), (3, .int y39_3), (4, .int y39_4), (5, .int y39_5)]) hx hb dX4_put_40 hl (by decide) rfl (fun ls hl => ?_)
  refine lv_aload_n hx hb dX4_put_42 rfl (lv_at hl 1 rfl) ?_
  refine va_get (D := D) (ci := 3) (v := .ref h_po) (C := RX4) (T := TX4) (N := 4) hx hb hts i_X4_put_X4 hown hE.1 hP 0 rfl rfl 0 (by decide) (hts _ q_X4_put_0) (fun _ h9 => h9) rfl dX4_put_43 ?_
  refine lv_iload_n hx hb dX4_put_46 rfl (lv_at hl 2 rfl) ?_
  refine lv_iload_n hx hb dX4_put_47 rfl (lv_at hl 3 rfl) ?_
  obtain ⟨g_2, h⟩ := x_gd h
  refine va_iast hx hb hE.1 hP hD hS 1 0 rfl rfl g_2 dX4_put_48 (fun H locs hP hD hS => ?_)
  have hP : va_P D vwCl [(h_p, .inr (3, [.ref h_po, .ref h_pf, .ref h_ps, .int v_p_length])), (h_po, .inl (cI, 20, .inl (upd u39_po y39_1.toNatClampNeg y39_2))), (h_pf, .inl (cI, 20, .inl u39_pf)), (h_ps, .inl (cI, 20, .inl u39_ps))] H := hP
  have hD : va_D A [(h_p, .inr (3, [.ref h_po, .ref h_pf, .ref h_ps, .int v_p_length])), (h_po, .inl (cI, 20, .inl (upd u39_po y39_1.toNatClampNeg y39_2))), (h_pf, .inl (cI, 20, .inl u39_pf)), (h_ps, .inl (cI, 20, .inl u39_ps))] := hD
  refine lv_aload_n hx hb dX4_put_49 rfl (lv_at hl 1 rfl) ?_
  refine va_get (D := D) (ci := 3) (v := .ref h_pf) (C := RX4) (T := TX4) (N := 4) hx hb hts i_X4_put_X4 hown hE.1 hP 0 rfl rfl 1 (by decide) (hts _ q_X4_put_2) (fun _ h9 => h9) rfl dX4_put_50 ?_
  refine lv_iload_n hx hb dX4_put_53 rfl (lv_at hl 2 rfl) ?_
  refine lv_iload hx hb dX4_put_54 (lv_at hl 6 rfl) ?_
  refine lv_if_eq (tgt := 63) hx hb dX4_put_56 (by decide) (fun c_3 => ?_) (fun c_3 => ?_)
  · have h := x_p c_3 h
    refine lv_iconst (v := (0 : Int32)) hx hb dX4_put_63 (by decide) ?_
    obtain ⟨g_4, h⟩ := x_gd h
    refine va_iast hx hb hE.1 hP hD hS 2 0 rfl rfl g_4 dX4_put_64 (fun H locs hP hD hS => ?_)
    have hP : va_P D vwCl [(h_p, .inr (3, [.ref h_po, .ref h_pf, .ref h_ps, .int v_p_length])), (h_po, .inl (cI, 20, .inl (upd u39_po y39_1.toNatClampNeg y39_2))), (h_pf, .inl (cI, 20, .inl (upd u39_pf y39_1.toNatClampNeg (0 : Int32)))), (h_ps, .inl (cI, 20, .inl u39_ps))] H := hP
    have hD : va_D A [(h_p, .inr (3, [.ref h_po, .ref h_pf, .ref h_ps, .int v_p_length])), (h_po, .inl (cI, 20, .inl (upd u39_po y39_1.toNatClampNeg y39_2))), (h_pf, .inl (cI, 20, .inl (upd u39_pf y39_1.toNatClampNeg (0 : Int32)))), (h_ps, .inl (cI, 20, .inl u39_ps))] := hD
    refine lv_aload_n hx hb dX4_put_65 rfl (lv_at hl 1 rfl) ?_
    refine va_get (D := D) (ci := 3) (v := .ref h_ps) (C := RX4) (T := TX4) (N := 4) hx hb hts i_X4_put_X4 hown hE.1 hP 0 rfl rfl 2 (by decide) (hts _ q_X4_put_3) (fun _ h9 => h9) rfl dX4_put_66 ?_
    refine lv_iload_n hx hb dX4_put_69 rfl (lv_at hl 2 rfl) ?_
    refine lv_iload hx hb dX4_put_70 (lv_at hl 0 rfl) ?_
    refine lv_if_eq (tgt := 80) hx hb dX4_put_72 (by decide) (fun _ => ?_) (fun c_ => absurd c_ (by decide))
    refine lv_iconst (v := (0 : Int32)) hx hb dX4_put_80 (by decide) ?_
    obtain ⟨g_5, h⟩ := x_gd h
    refine va_iast hx hb hE.1 hP hD hS 3 0 rfl rfl g_5 dX4_put_81 (fun H locs hP hD hS => ?_)
    have hP : va_P D vwCl [(h_p, .inr (3, [.ref h_po, .ref h_pf, .ref h_ps, .int v_p_length])), (h_po, .inl (cI, 20, .inl (upd u39_po y39_1.toNatClampNeg y39_2))), (h_pf, .inl (cI, 20, .inl (upd u39_pf y39_1.toNatClampNeg (0 : Int32)))), (h_ps, .inl (cI, 20, .inl (upd u39_ps y39_1.toNatClampNeg (0 : Int32))))] H := hP
    have hD : va_D A [(h_p, .inr (3, [.ref h_po, .ref h_pf, .ref h_ps, .int v_p_length])), (h_po, .inl (cI, 20, .inl (upd u39_po y39_1.toNatClampNeg y39_2))), (h_pf, .inl (cI, 20, .inl (upd u39_pf y39_1.toNatClampNeg (0 : Int32)))), (h_ps, .inl (cI, 20, .inl (upd u39_ps y39_1.toNatClampNeg (0 : Int32))))] := hD
    cases h
    exact r_v X hP hD hS rfl dX4_put_82
  · have h := x_n c_3 h
    refine lv_iload_n hx hb dX4_put_59 rfl (lv_at hl 4 rfl) ?_
    refine lv_goto (tgt := 64) hx hb dX4_put_60 (by decide) ?_
    obtain ⟨g_6, h⟩ := x_gd h
    refine va_iast hx hb hE.1 hP hD hS 2 0 rfl rfl g_6 dX4_put_64 (fun H locs hP hD hS => ?_)
    have hP : va_P D vwCl [(h_p, .inr (3, [.ref h_po, .ref h_pf, .ref h_ps, .int v_p_length])), (h_po, .inl (cI, 20, .inl (upd u39_po y39_1.toNatClampNeg y39_2))), (h_pf, .inl (cI, 20, .inl (upd u39_pf y39_1.toNatClampNeg y39_3))), (h_ps, .inl (cI, 20, .inl u39_ps))] H := hP
    have hD : va_D A [(h_p, .inr (3, [.ref h_po, .ref h_pf, .ref h_ps, .int v_p_length])), (h_po, .inl (cI, 20, .inl (upd u39_po y39_1.toNatClampNeg y39_2))), (h_pf, .inl (cI, 20, .inl (upd u39_pf y39_1.toNatClampNeg y39_3))), (h_ps, .inl (cI, 20, .inl u39_ps))] := hD
    refine lv_aload_n hx hb dX4_put_65 rfl (lv_at hl 1 rfl) ?_
    refine va_get (D := D) (ci := 3) (v := .ref h_ps) (C := RX4) (T := TX4) (N := 4) hx hb hts i_X4_put_X4 hown hE.1 hP 0 rfl rfl 2 (by decide) (hts _ q_X4_put_3) (fun _ h9 => h9) rfl dX4_put_66 ?_
    refine lv_iload_n hx hb dX4_put_69 rfl (lv_at hl 2 rfl) ?_
    refine lv_iload hx hb dX4_put_70 (lv_at hl 0 rfl) ?_
    refine lv_if_eq (tgt := 80) hx hb dX4_put_72 (by decide) (fun _ => ?_) (fun c_ => absurd c_ (by decide))
    refine lv_iconst (v := (0 : Int32)) hx hb dX4_put_80 (by decide) ?_
    obtain ⟨g_7, h⟩ := x_gd h
    refine va_iast hx hb hE.1 hP hD hS 3 0 rfl rfl g_7 dX4_put_81 (fun H locs hP hD hS => ?_)
    have hP : va_P D vwCl [(h_p, .inr (3, [.ref h_po, .ref h_pf, .ref h_ps, .int v_p_length])), (h_po, .inl (cI, 20, .inl (upd u39_po y39_1.toNatClampNeg y39_2))), (h_pf, .inl (cI, 20, .inl (upd u39_pf y39_1.toNatClampNeg y39_3))), (h_ps, .inl (cI, 20, .inl (upd u39_ps y39_1.toNatClampNeg (0 : Int32))))] H := hP
    have hD : va_D A [(h_p, .inr (3, [.ref h_po, .ref h_pf, .ref h_ps, .int v_p_length])), (h_po, .inl (cI, 20, .inl (upd u39_po y39_1.toNatClampNeg y39_2))), (h_pf, .inl (cI, 20, .inl (upd u39_pf y39_1.toNatClampNeg y39_3))), (h_ps, .inl (cI, 20, .inl (upd u39_ps y39_1.toNatClampNeg (0 : Int32))))] := hD
    cases h
    exact r_v X hP hD hS rfl dX4_put_82
set_option maxHeartbeats 4000000 in
set_option maxRecDepth 100000 in
theorem m_X4_put (l : Launch) (D : va_G) (cI : ClassId) (pt : Nat) (h_p h_po h_pf h_ps : Nat) (v_p_length : Int32) (v_po : Nat → Int32) (v_pf : Nat → Int32) (v_ps : Nat → Int32) (a0 : Int32) (a1 : Int32) (a2 : Int32) (a3 : Int32) (fu : Nat) (res : (Nat → Int32) × (Nat → Int32) × (Nat → Int32)) (h : f_X4_put fu v_po v_pf v_ps a0 a1 a2 a3 = some res) :
    MT l D cI pt yX4_put wsX4_put ({ frames := 0, cells := 0, slots := 0, locals := 0 } : Room) [.ref h_p, .int a0, .int a1, .int a2, .int a3] [(h_p, .inr (3, [.ref h_po, .ref h_pf, .ref h_ps, .int v_p_length])), (h_po, .inl (cI, 20, .inl v_po)), (h_pf, .inl (cI, 20, .inl v_pf)), (h_ps, .inl (cI, 20, .inl v_ps))] none [(h_p, .inr (3, [.ref h_po, .ref h_pf, .ref h_ps, .int v_p_length])), (h_po, .inl (cI, 20, .inl res.1)), (h_pf, .inl (cI, 20, .inl res.2.1)), (h_ps, .inl (cI, 20, .inl res.2.2))] := by
  refine MT.mk (cc := cX4_put) (maxL := 7) (ret := none) (own := RX4) (by decide) rfl rfl (Nat.le_of_ble_eq_true rfl) rfl ?_
  intro p e s m args below meth c A ls X hP hD hS hl
  obtain ⟨hx, hb, hml, hown, hts, hr, hlk, hE, hH, hA⟩ := id X
  have hl : lv_has ls 7 [(0, .ref h_p), (1, .int a0), (2, .int a1), (3, .int a2), (4, .int a3)] := hl
  unfold f_X4_put at h
  refine lv_iload_n hx hb dX4_put_0 rfl (lv_at hl 2 rfl) ?_
  refine lv_bipush (v := (11 : Int32)) hx hb dX4_put_1 (by decide) ?_
  refine lv_icmp_eq (tgt := 10) hx hb dX4_put_3 (by decide) (fun c_1 => ?_) (fun c_1 => ?_)
  · have h := x_p c_1 h
    refine lv_iconst (v := (0 : Int32)) hx hb dX4_put_10 (by decide) ?_
    refine lv_istore (lv' := [(5, .int (0 : Int32)), (0, .ref h_p), (1, .int a0), (2, .int a1), (3, .int a2), (4, .int a3)]) hx hb dX4_put_11 hl (by decide) rfl (fun ls hl => ?_)
    refine lv_iload hx hb dX4_put_13 (lv_at hl 0 rfl) ?_
    refine lv_if_eq (tgt := 39) hx hb dX4_put_15 (by decide) (fun _ => ?_) (fun c_ => absurd c_ (by decide))
    refine tr_X4_put_39 X h_p h_po h_pf h_ps v_p_length  fu  res   v_po v_pf v_ps a0 a1 a2 a3 (0 : Int32) h _ _ _ hP hD hS (lv_sub hl [1, 2, 3, 4, 5, 0] rfl)
  · have h := x_n c_1 h
    refine lv_iconst (v := (1 : Int32)) hx hb dX4_put_6 (by decide) ?_
    refine lv_goto (tgt := 11) hx hb dX4_put_7 (by decide) ?_
    refine lv_istore (lv' := [(5, .int (1 : Int32)), (0, .ref h_p), (1, .int a0), (2, .int a1), (3, .int a2), (4, .int a3)]) hx hb dX4_put_11 hl (by decide) rfl (fun ls hl => ?_)
    refine lv_iload hx hb dX4_put_13 (lv_at hl 0 rfl) ?_
    refine lv_if_eq (tgt := 39) hx hb dX4_put_15 (by decide) (fun c_ => absurd c_ (by decide)) (fun _ => ?_)
    refine lv_iload_n hx hb dX4_put_18 rfl (lv_at hl 3 rfl) ?_
    refine lv_iconst (v := (5 : Int32)) hx hb dX4_put_19 (by decide) ?_
    refine lv_icmp_eq (tgt := 39) hx hb dX4_put_20 (by decide) (fun c_8 => ?_) (fun c_8 => ?_)
    · have h := x_p c_8 h
      refine tr_X4_put_39 X h_p h_po h_pf h_ps v_p_length  fu  res   v_po v_pf v_ps a0 a1 a2 a3 (1 : Int32) h _ _ _ hP hD hS (lv_sub hl [1, 2, 3, 4, 5, 0] rfl)
    · have h := x_n c_8 h
      refine lv_iload_n hx hb dX4_put_23 rfl (lv_at hl 3 rfl) ?_
      refine lv_bipush (v := (8 : Int32)) hx hb dX4_put_24 (by decide) ?_
      refine lv_icmp_eq (tgt := 39) hx hb dX4_put_26 (by decide) (fun c_9 => ?_) (fun c_9 => ?_)
      · have h := x_p c_9 h
        refine tr_X4_put_39 X h_p h_po h_pf h_ps v_p_length  fu  res   v_po v_pf v_ps a0 a1 a2 a3 (1 : Int32) h _ _ _ hP hD hS (lv_sub hl [1, 2, 3, 4, 5, 0] rfl)
      · have h := x_n c_9 h
        refine lv_iload_n hx hb dX4_put_29 rfl (lv_at hl 3 rfl) ?_
        refine lv_bipush (v := (6 : Int32)) hx hb dX4_put_30 (by decide) ?_
        refine lv_icmp_eq (tgt := 39) hx hb dX4_put_32 (by decide) (fun c_10 => ?_) (fun c_10 => ?_)
        · have h := x_p c_10 h
          refine tr_X4_put_39 X h_p h_po h_pf h_ps v_p_length  fu  res   v_po v_pf v_ps a0 a1 a2 a3 (1 : Int32) h _ _ _ hP hD hS (lv_sub hl [1, 2, 3, 4, 5, 0] rfl)
        · have h := x_n c_10 h
          refine lv_iconst (v := (1 : Int32)) hx hb dX4_put_35 (by decide) ?_
          refine lv_goto (tgt := 40) hx hb dX4_put_36 (by decide) ?_
          refine lv_istore (lv' := [(6, .int (1 : Int32)), (5, .int (1 : Int32)), (0, .ref h_p), (1, .int a0), (2, .int a1), (3, .int a2), (4, .int a3)]) hx hb dX4_put_40 hl (by decide) rfl (fun ls hl => ?_)
          refine lv_aload_n hx hb dX4_put_42 rfl (lv_at hl 2 rfl) ?_
          refine va_get (D := D) (ci := 3) (v := .ref h_po) (C := RX4) (T := TX4) (N := 4) hx hb hts i_X4_put_X4 hown hE.1 hP 0 rfl rfl 0 (by decide) (hts _ q_X4_put_0) (fun _ h9 => h9) rfl dX4_put_43 ?_
          refine lv_iload_n hx hb dX4_put_46 rfl (lv_at hl 3 rfl) ?_
          refine lv_iload_n hx hb dX4_put_47 rfl (lv_at hl 4 rfl) ?_
          obtain ⟨g_11, h⟩ := x_gd h
          refine va_iast hx hb hE.1 hP hD hS 1 0 rfl rfl g_11 dX4_put_48 (fun H locs hP hD hS => ?_)
          have hP : va_P D vwCl [(h_p, .inr (3, [.ref h_po, .ref h_pf, .ref h_ps, .int v_p_length])), (h_po, .inl (cI, 20, .inl (upd v_po a0.toNatClampNeg a1))), (h_pf, .inl (cI, 20, .inl v_pf)), (h_ps, .inl (cI, 20, .inl v_ps))] H := hP
          have hD : va_D A [(h_p, .inr (3, [.ref h_po, .ref h_pf, .ref h_ps, .int v_p_length])), (h_po, .inl (cI, 20, .inl (upd v_po a0.toNatClampNeg a1))), (h_pf, .inl (cI, 20, .inl v_pf)), (h_ps, .inl (cI, 20, .inl v_ps))] := hD
          refine lv_aload_n hx hb dX4_put_49 rfl (lv_at hl 2 rfl) ?_
          refine va_get (D := D) (ci := 3) (v := .ref h_pf) (C := RX4) (T := TX4) (N := 4) hx hb hts i_X4_put_X4 hown hE.1 hP 0 rfl rfl 1 (by decide) (hts _ q_X4_put_2) (fun _ h9 => h9) rfl dX4_put_50 ?_
          refine lv_iload_n hx hb dX4_put_53 rfl (lv_at hl 3 rfl) ?_
          refine lv_iload hx hb dX4_put_54 (lv_at hl 1 rfl) ?_
          refine lv_if_eq (tgt := 63) hx hb dX4_put_56 (by decide) (fun c_ => absurd c_ (by decide)) (fun _ => ?_)
          refine lv_iload_n hx hb dX4_put_59 rfl (lv_at hl 5 rfl) ?_
          refine lv_goto (tgt := 64) hx hb dX4_put_60 (by decide) ?_
          obtain ⟨g_12, h⟩ := x_gd h
          refine va_iast hx hb hE.1 hP hD hS 2 0 rfl rfl g_12 dX4_put_64 (fun H locs hP hD hS => ?_)
          have hP : va_P D vwCl [(h_p, .inr (3, [.ref h_po, .ref h_pf, .ref h_ps, .int v_p_length])), (h_po, .inl (cI, 20, .inl (upd v_po a0.toNatClampNeg a1))), (h_pf, .inl (cI, 20, .inl (upd v_pf a0.toNatClampNeg a2))), (h_ps, .inl (cI, 20, .inl v_ps))] H := hP
          have hD : va_D A [(h_p, .inr (3, [.ref h_po, .ref h_pf, .ref h_ps, .int v_p_length])), (h_po, .inl (cI, 20, .inl (upd v_po a0.toNatClampNeg a1))), (h_pf, .inl (cI, 20, .inl (upd v_pf a0.toNatClampNeg a2))), (h_ps, .inl (cI, 20, .inl v_ps))] := hD
          refine lv_aload_n hx hb dX4_put_65 rfl (lv_at hl 2 rfl) ?_
          refine va_get (D := D) (ci := 3) (v := .ref h_ps) (C := RX4) (T := TX4) (N := 4) hx hb hts i_X4_put_X4 hown hE.1 hP 0 rfl rfl 2 (by decide) (hts _ q_X4_put_3) (fun _ h9 => h9) rfl dX4_put_66 ?_
          refine lv_iload_n hx hb dX4_put_69 rfl (lv_at hl 3 rfl) ?_
          refine lv_iload hx hb dX4_put_70 (lv_at hl 0 rfl) ?_
          refine lv_if_eq (tgt := 80) hx hb dX4_put_72 (by decide) (fun c_ => absurd c_ (by decide)) (fun _ => ?_)
          refine lv_iload hx hb dX4_put_75 (lv_at hl 6 rfl) ?_
          refine lv_goto (tgt := 81) hx hb dX4_put_77 (by decide) ?_
          obtain ⟨g_13, h⟩ := x_gd h
          refine va_iast hx hb hE.1 hP hD hS 3 0 rfl rfl g_13 dX4_put_81 (fun H locs hP hD hS => ?_)
          have hP : va_P D vwCl [(h_p, .inr (3, [.ref h_po, .ref h_pf, .ref h_ps, .int v_p_length])), (h_po, .inl (cI, 20, .inl (upd v_po a0.toNatClampNeg a1))), (h_pf, .inl (cI, 20, .inl (upd v_pf a0.toNatClampNeg a2))), (h_ps, .inl (cI, 20, .inl (upd v_ps a0.toNatClampNeg a3)))] H := hP
          have hD : va_D A [(h_p, .inr (3, [.ref h_po, .ref h_pf, .ref h_ps, .int v_p_length])), (h_po, .inl (cI, 20, .inl (upd v_po a0.toNatClampNeg a1))), (h_pf, .inl (cI, 20, .inl (upd v_pf a0.toNatClampNeg a2))), (h_ps, .inl (cI, 20, .inl (upd v_ps a0.toNatClampNeg a3)))] := hD
          cases h
          exact r_v X hP hD hS rfl dX4_put_82

theorem q_X5_nextUse_0 : (.fieldLink RX5 32 "StruckBits$Trace" "plain" "LStruckBits$Machine;" : Cond) ∈ wsX5_nextUse := by decide +kernel
theorem i_X5_nextUse_X5 : ∀ w ∈ u_ws RX5 TX5 6, w ∈ wsX5_nextUse := by decide +kernel
theorem q_X5_nextUse_2 : (.fieldLink RX5 74 "StruckBits$Machine" "tick" "I" : Cond) ∈ wsX5_nextUse := by decide +kernel
theorem i_X5_nextUse_X3 : ∀ w ∈ u_ws RX3 TX3 10, w ∈ wsX5_nextUse := by decide +kernel
theorem q_X5_nextUse_4 : (.fieldLink RX5 21 "StruckBits$Trace" "reads" "[I" : Cond) ∈ wsX5_nextUse := by decide +kernel
theorem q_X5_nextUse_5 : (.fieldLink RX5 24 "StruckBits$Trace" "writes" "[I" : Cond) ∈ wsX5_nextUse := by decide +kernel
set_option maxHeartbeats 4000000 in
set_option maxRecDepth 100000 in
theorem tr_X5_nextUse_2 {p : Program} {l : Launch} {e : Env} {s : State} {m : MethodId} {args : Array Value} {below : List Frame} {meth : Method} {c : Code} {D : va_G} {cI : ClassId} {pt : Nat} {A : Nat → Prop} (X : CX p s m args meth c D cI pt A cX5_nextUse 4 (some .int) wsX5_nextUse RX5) (h_p h_t h_m h_mc h_mr h_tc h_tn h_tt h_tr h_tw : Nat) (v_m_rowLength : Int32) (v_m_next : Int32) (v_m_tick : Int32) (v_m_ending : Int32) (v_m_readNow : Int32) (v_m_writtenNow : Int32) (v_m_writtenSince : Int32) (v_tr : Nat → Int32) (v_tw : Nat → Int32)  (y2_1 : Int32) (fu : Nat) (k33 : Int32 → Option (Int32)) (k41 : Option (Int32)) (res : Int32) (hk33 : ∀ (ye33_3 : Int32), k33 ye33_3 = some res → ∀ (H : Heap) (locs : List Loc) (ls : Array Slot), va_P D vwCl [(h_t, .inr (4, [.ref h_m, .ref h_tc, .ref h_tn, .ref h_tt, .ref h_tr, .ref h_tw])), (h_m, .inr (2, [.ref h_p, .ref h_mc, .ref h_mr, .int v_m_rowLength, .int v_m_next, .int v_m_tick, .int v_m_ending, .int v_m_readNow, .int v_m_writtenNow, .int v_m_writtenSince])), (h_tr, .inl (cI, 100, .inl v_tr)), (h_tw, .inl (cI, 100, .inl v_tw))] H → va_D A [(h_t, .inr (4, [.ref h_m, .ref h_tc, .ref h_tn, .ref h_tt, .ref h_tr, .ref h_tw])), (h_m, .inr (2, [.ref h_p, .ref h_mc, .ref h_mr, .int v_m_rowLength, .int v_m_next, .int v_m_tick, .int v_m_ending, .int v_m_readNow, .int v_m_writtenNow, .int v_m_writtenSince])), (h_tr, .inl (cI, 100, .inl v_tr)), (h_tw, .inl (cI, 100, .inl v_tw))] → va_S A s.heap H locs → lv_has ls 4 [(3, .int ye33_3)] → W p l e ({ frames := 0, cells := 0, slots := 0, locals := 0 } : Room) s m args below meth c H locs 0 0 (MQ below (Qg D A (some (.int res)) [(h_t, .inr (4, [.ref h_m, .ref h_tc, .ref h_tn, .ref h_tt, .ref h_tr, .ref h_tw])), (h_m, .inr (2, [.ref h_p, .ref h_mc, .ref h_mr, .int v_m_rowLength, .int v_m_next, .int v_m_tick, .int v_m_ending, .int v_m_readNow, .int v_m_writtenNow, .int v_m_writtenSince])), (h_tr, .inl (cI, 100, .inl v_tr)), (h_tw, .inl (cI, 100, .inl v_tw))]) args s 0 0 A) (F0 m 33 ls [])) (hk41 : k41  = some res → ∀ (H : Heap) (locs : List Loc) (ls : Array Slot), va_P D vwCl [(h_t, .inr (4, [.ref h_m, .ref h_tc, .ref h_tn, .ref h_tt, .ref h_tr, .ref h_tw])), (h_m, .inr (2, [.ref h_p, .ref h_mc, .ref h_mr, .int v_m_rowLength, .int v_m_next, .int v_m_tick, .int v_m_ending, .int v_m_readNow, .int v_m_writtenNow, .int v_m_writtenSince])), (h_tr, .inl (cI, 100, .inl v_tr)), (h_tw, .inl (cI, 100, .inl v_tw))] H → va_D A [(h_t, .inr (4, [.ref h_m, .ref h_tc, .ref h_tn, .ref h_tt, .ref h_tr, .ref h_tw])), (h_m, .inr (2, [.ref h_p, .ref h_mc, .ref h_mr, .int v_m_rowLength, .int v_m_next, .int v_m_tick, .int v_m_ending, .int v_m_readNow, .int v_m_writtenNow, .int v_m_writtenSince])), (h_tr, .inl (cI, 100, .inl v_tr)), (h_tw, .inl (cI, 100, .inl v_tw))] → va_S A s.heap H locs → lv_has ls 4 [(0, .ref h_t)] → W p l e ({ frames := 0, cells := 0, slots := 0, locals := 0 } : Room) s m args below meth c H locs 0 0 (MQ below (Qg D A (some (.int res)) [(h_t, .inr (4, [.ref h_m, .ref h_tc, .ref h_tn, .ref h_tt, .ref h_tr, .ref h_tw])), (h_m, .inr (2, [.ref h_p, .ref h_mc, .ref h_mr, .int v_m_rowLength, .int v_m_next, .int v_m_tick, .int v_m_ending, .int v_m_readNow, .int v_m_writtenNow, .int v_m_writtenSince])), (h_tr, .inl (cI, 100, .inl v_tr)), (h_tw, .inl (cI, 100, .inl v_tw))]) args s 0 0 A) (F0 m 41 ls [])) :
    ∀ (n : Nat) (y2_3 : Int32), fr_X5_nextUse_2 fu v_m_tick v_tr v_tw y2_1 k33 k41 n y2_3 = some res → ∀ (H : Heap) (locs : List Loc) (ls : Array Slot), va_P D vwCl [(h_t, .inr (4, [.ref h_m, .ref h_tc, .ref h_tn, .ref h_tt, .ref h_tr, .ref h_tw])), (h_m, .inr (2, [.ref h_p, .ref h_mc, .ref h_mr, .int v_m_rowLength, .int v_m_next, .int v_m_tick, .int v_m_ending, .int v_m_readNow, .int v_m_writtenNow, .int v_m_writtenSince])), (h_tr, .inl (cI, 100, .inl v_tr)), (h_tw, .inl (cI, 100, .inl v_tw))] H → va_D A [(h_t, .inr (4, [.ref h_m, .ref h_tc, .ref h_tn, .ref h_tt, .ref h_tr, .ref h_tw])), (h_m, .inr (2, [.ref h_p, .ref h_mc, .ref h_mr, .int v_m_rowLength, .int v_m_next, .int v_m_tick, .int v_m_ending, .int v_m_readNow, .int v_m_writtenNow, .int v_m_writtenSince])), (h_tr, .inl (cI, 100, .inl v_tr)), (h_tw, .inl (cI, 100, .inl v_tw))] → va_S A s.heap H locs → lv_has ls 4 [(0, .ref h_t), (1, .int y2_1), (3, .int y2_3)] → W p l e ({ frames := 0, cells := 0, slots := 0, locals := 0 } : Room) s m args below meth c H locs 0 0 (MQ below (Qg D A (some (.int res)) [(h_t, .inr (4, [.ref h_m, .ref h_tc, .ref h_tn, .ref h_tt, .ref h_tr, .ref h_tw])), (h_m, .inr (2, [.ref h_p, .ref h_mc, .ref h_mr, .int v_m_rowLength, .int v_m_next, .int v_m_tick, .int v_m_ending, .int v_m_readNow, .int v_m_writtenNow, .int v_m_writtenSince])), (h_tr, .inl (cI, 100, .inl v_tr)), (h_tw, .inl (cI, 100, .inl v_tw))]) args s 0 0 A) (F0 m 2 ls []) := by
  obtain ⟨hx, hb, hml, hown, hts, hr, hlk, hE, hH, hA⟩ := id X
  intro n
  induction n with
  | zero =>
    intro y2_3 h
    cases (show none = some res from h)
  | succ n ih =>
    intro y2_3 h H locs ls hP hD hS hl
    rw [fr_X5_nextUse_2] at h
    refine lv_iload_n hx hb dX5_nextUse_2 rfl (lv_at hl 2 rfl) ?_
    refine lv_aload_n hx hb dX5_nextUse_3 rfl (lv_at hl 0 rfl) ?_
    refine va_get (D := D) (ci := 4) (v := .ref h_m) (C := RX5) (T := TX5) (N := 6) hx hb hts i_X5_nextUse_X5 hown hE.1 hP 0 rfl rfl 0 (by decide) (hts _ q_X5_nextUse_0) (fun _ h9 => h9) rfl dX5_nextUse_4 ?_
    refine va_get (D := D) (ci := 2) (v := .int v_m_tick) (C := RX3) (T := TX3) (N := 10) hx hb hts i_X5_nextUse_X3 hown hE.1 hP 1 rfl rfl 5 (by decide) (hts _ q_X5_nextUse_2) (fun _ h9 => h9) rfl dX5_nextUse_7 ?_
    refine lv_icmp_ge (tgt := 41) hx hb dX5_nextUse_10 (by decide) (fun c_1 => ?_) (fun c_1 => ?_)
    · have h := x_p c_1 h
      exact hk41  h _ _ _ hP hD hS (lv_sub hl [0] rfl)
    · have h := x_n c_1 h
      refine lv_aload_n hx hb dX5_nextUse_13 rfl (lv_at hl 0 rfl) ?_
      refine va_get (D := D) (ci := 4) (v := .ref h_tr) (C := RX5) (T := TX5) (N := 6) hx hb hts i_X5_nextUse_X5 hown hE.1 hP 0 rfl rfl 4 (by decide) (hts _ q_X5_nextUse_4) (fun _ h9 => h9) rfl dX5_nextUse_14 ?_
      refine lv_iload_n hx hb dX5_nextUse_17 rfl (lv_at hl 2 rfl) ?_
      obtain ⟨g_2, h⟩ := x_gd h
      refine va_iald hx hb hE.1 hP 2 0 rfl rfl g_2 dX5_nextUse_18 ?_
      refine lv_aload_n hx hb dX5_nextUse_19 rfl (lv_at hl 0 rfl) ?_
      refine va_get (D := D) (ci := 4) (v := .ref h_tw) (C := RX5) (T := TX5) (N := 6) hx hb hts i_X5_nextUse_X5 hown hE.1 hP 0 rfl rfl 5 (by decide) (hts _ q_X5_nextUse_5) (fun _ h9 => h9) rfl dX5_nextUse_20 ?_
      refine lv_iload_n hx hb dX5_nextUse_23 rfl (lv_at hl 2 rfl) ?_
      obtain ⟨g_3, h⟩ := x_gd h
      refine va_iald hx hb hE.1 hP 3 0 rfl rfl g_3 dX5_nextUse_24 ?_
      refine lv_ior hx hb dX5_nextUse_25 ?_
      refine lv_iload_n hx hb dX5_nextUse_26 rfl (lv_at hl 1 rfl) ?_
      refine lv_ishr hx hb dX5_nextUse_27 ?_
      refine lv_iconst (v := (1 : Int32)) hx hb dX5_nextUse_28 (by decide) ?_
      refine lv_iand hx hb dX5_nextUse_29 ?_
      refine lv_if_eq (tgt := 35) hx hb dX5_nextUse_30 (by decide) (fun c_4 => ?_) (fun c_4 => ?_)
      · have h := x_p c_4 h
        refine lv_iinc (v := (y2_3 + (1 : Int32))) (lv' := [(3, .int (y2_3 + (1 : Int32))), (0, .ref h_t), (1, .int y2_1)]) hx hb dX5_nextUse_35 hl (k := 2) rfl rfl (by decide) rfl (fun ls hl => ?_)
        refine lv_goto (tgt := 2) hx hb dX5_nextUse_38 (by decide) ?_
        exact ih (y2_3 + (1 : Int32)) h _ _ _ hP hD hS (lv_sub hl [1, 2, 0] rfl)
      · have h := x_n c_4 h
        exact hk33 y2_3 h _ _ _ hP hD hS (lv_sub hl [2] rfl)
set_option maxHeartbeats 4000000 in
set_option maxRecDepth 100000 in
theorem m_X5_nextUse (l : Launch) (D : va_G) (cI : ClassId) (pt : Nat) (h_p h_t h_m h_mc h_mr h_tc h_tn h_tt h_tr h_tw : Nat) (v_m_rowLength : Int32) (v_m_next : Int32) (v_m_tick : Int32) (v_m_ending : Int32) (v_m_readNow : Int32) (v_m_writtenNow : Int32) (v_m_writtenSince : Int32) (v_tr : Nat → Int32) (v_tw : Nat → Int32) (a0 : Int32) (a1 : Int32) (fu : Nat) (res : Int32) (h : f_X5_nextUse fu v_m_tick v_tr v_tw a0 a1 = some res) :
    MT l D cI pt yX5_nextUse wsX5_nextUse ({ frames := 0, cells := 0, slots := 0, locals := 0 } : Room) [.ref h_t, .int a0, .int a1] [(h_t, .inr (4, [.ref h_m, .ref h_tc, .ref h_tn, .ref h_tt, .ref h_tr, .ref h_tw])), (h_m, .inr (2, [.ref h_p, .ref h_mc, .ref h_mr, .int v_m_rowLength, .int v_m_next, .int v_m_tick, .int v_m_ending, .int v_m_readNow, .int v_m_writtenNow, .int v_m_writtenSince])), (h_tr, .inl (cI, 100, .inl v_tr)), (h_tw, .inl (cI, 100, .inl v_tw))] (some (.int res)) [(h_t, .inr (4, [.ref h_m, .ref h_tc, .ref h_tn, .ref h_tt, .ref h_tr, .ref h_tw])), (h_m, .inr (2, [.ref h_p, .ref h_mc, .ref h_mr, .int v_m_rowLength, .int v_m_next, .int v_m_tick, .int v_m_ending, .int v_m_readNow, .int v_m_writtenNow, .int v_m_writtenSince])), (h_tr, .inl (cI, 100, .inl v_tr)), (h_tw, .inl (cI, 100, .inl v_tw))] := by
  refine MT.mk (cc := cX5_nextUse) (maxL := 4) (ret := (some .int)) (own := RX5) (by decide) rfl rfl (Nat.le_of_ble_eq_true rfl) rfl ?_
  intro p e s m args below meth c A ls X hP hD hS hl
  obtain ⟨hx, hb, hml, hown, hts, hr, hlk, hE, hH, hA⟩ := id X
  have hl : lv_has ls 4 [(0, .ref h_t), (1, .int a0), (2, .int a1)] := hl
  unfold f_X5_nextUse at h
  refine lv_iload_n hx hb dX5_nextUse_0 rfl (lv_at hl 2 rfl) ?_
  refine lv_istore_n (lv' := [(3, .int a1), (0, .ref h_t), (1, .int a0), (2, .int a1)]) hx hb dX5_nextUse_1 rfl hl (by decide) rfl (fun ls hl => ?_)
  refine tr_X5_nextUse_2 X h_p h_t h_m h_mc h_mr h_tc h_tn h_tt h_tr h_tw v_m_rowLength v_m_next v_m_tick v_m_ending v_m_readNow v_m_writtenNow v_m_writtenSince v_tr v_tw a0 fu _ _ res ?_ ?_ fu a1 h _ _ _ hP hD hS (lv_sub hl [1, 2, 0] rfl)
  · intro ye2_33_3 h H locs ls hP hD hS hl
    refine lv_iload_n hx hb dX5_nextUse_33 rfl (lv_at hl 0 rfl) ?_
    cases h
    exact r_i X hP hD hS rfl dX5_nextUse_34
  · intro  h H locs ls hP hD hS hl
    refine lv_aload_n hx hb dX5_nextUse_41 rfl (lv_at hl 0 rfl) ?_
    refine va_get (D := D) (ci := 4) (v := .ref h_m) (C := RX5) (T := TX5) (N := 6) hx hb hts i_X5_nextUse_X5 hown hE.1 hP 0 rfl rfl 0 (by decide) (hts _ q_X5_nextUse_0) (fun _ h9 => h9) rfl dX5_nextUse_42 ?_
    refine va_get (D := D) (ci := 2) (v := .int v_m_tick) (C := RX3) (T := TX3) (N := 10) hx hb hts i_X5_nextUse_X3 hown hE.1 hP 1 rfl rfl 5 (by decide) (hts _ q_X5_nextUse_2) (fun _ h9 => h9) rfl dX5_nextUse_45 ?_
    cases h
    exact r_i X hP hD hS rfl dX5_nextUse_48

theorem q_X5_isRead_0 : (.fieldLink RX5 32 "StruckBits$Trace" "plain" "LStruckBits$Machine;" : Cond) ∈ wsX5_isRead := by decide +kernel
theorem i_X5_isRead_X5 : ∀ w ∈ u_ws RX5 TX5 6, w ∈ wsX5_isRead := by decide +kernel
theorem q_X5_isRead_2 : (.fieldLink RX5 74 "StruckBits$Machine" "tick" "I" : Cond) ∈ wsX5_isRead := by decide +kernel
theorem i_X5_isRead_X3 : ∀ w ∈ u_ws RX3 TX3 10, w ∈ wsX5_isRead := by decide +kernel
theorem q_X5_isRead_4 : (.fieldLink RX5 21 "StruckBits$Trace" "reads" "[I" : Cond) ∈ wsX5_isRead := by decide +kernel
set_option maxHeartbeats 4000000 in
set_option maxRecDepth 100000 in
theorem m_X5_isRead (l : Launch) (D : va_G) (cI : ClassId) (pt : Nat) (h_p h_t h_m h_mc h_mr h_tc h_tn h_tt h_tr h_tw : Nat) (v_m_rowLength : Int32) (v_m_next : Int32) (v_m_tick : Int32) (v_m_ending : Int32) (v_m_readNow : Int32) (v_m_writtenNow : Int32) (v_m_writtenSince : Int32) (v_tr : Nat → Int32) (a0 : Int32) (a1 : Int32) (fu : Nat) (res : Int32) (h : f_X5_isRead fu v_m_tick v_tr a0 a1 = some res) :
    MT l D cI pt yX5_isRead wsX5_isRead ({ frames := 0, cells := 0, slots := 0, locals := 0 } : Room) [.ref h_t, .int a0, .int a1] [(h_t, .inr (4, [.ref h_m, .ref h_tc, .ref h_tn, .ref h_tt, .ref h_tr, .ref h_tw])), (h_m, .inr (2, [.ref h_p, .ref h_mc, .ref h_mr, .int v_m_rowLength, .int v_m_next, .int v_m_tick, .int v_m_ending, .int v_m_readNow, .int v_m_writtenNow, .int v_m_writtenSince])), (h_tr, .inl (cI, 100, .inl v_tr))] (some (.int res)) [(h_t, .inr (4, [.ref h_m, .ref h_tc, .ref h_tn, .ref h_tt, .ref h_tr, .ref h_tw])), (h_m, .inr (2, [.ref h_p, .ref h_mc, .ref h_mr, .int v_m_rowLength, .int v_m_next, .int v_m_tick, .int v_m_ending, .int v_m_readNow, .int v_m_writtenNow, .int v_m_writtenSince])), (h_tr, .inl (cI, 100, .inl v_tr))] := by
  refine MT.mk (cc := cX5_isRead) (maxL := 3) (ret := (some .boolean)) (own := RX5) (by decide) rfl rfl (Nat.le_of_ble_eq_true rfl) rfl ?_
  intro p e s m args below meth c A ls X hP hD hS hl
  obtain ⟨hx, hb, hml, hown, hts, hr, hlk, hE, hH, hA⟩ := id X
  have hl : lv_has ls 3 [(0, .ref h_t), (1, .int a0), (2, .int a1)] := hl
  unfold f_X5_isRead at h
  refine lv_iload_n hx hb dX5_isRead_0 rfl (lv_at hl 2 rfl) ?_
  refine lv_aload_n hx hb dX5_isRead_1 rfl (lv_at hl 0 rfl) ?_
  refine va_get (D := D) (ci := 4) (v := .ref h_m) (C := RX5) (T := TX5) (N := 6) hx hb hts i_X5_isRead_X5 hown hE.1 hP 0 rfl rfl 0 (by decide) (hts _ q_X5_isRead_0) (fun _ h9 => h9) rfl dX5_isRead_2 ?_
  refine va_get (D := D) (ci := 2) (v := .int v_m_tick) (C := RX3) (T := TX3) (N := 10) hx hb hts i_X5_isRead_X3 hown hE.1 hP 1 rfl rfl 5 (by decide) (hts _ q_X5_isRead_2) (fun _ h9 => h9) rfl dX5_isRead_5 ?_
  refine lv_icmp_ge (tgt := 28) hx hb dX5_isRead_8 (by decide) (fun c_1 => ?_) (fun c_1 => ?_)
  · have h := x_p c_1 h
    refine lv_iconst (v := (0 : Int32)) hx hb dX5_isRead_28 (by decide) ?_
    cases h
    exact r_z X hP hD hS rfl (Or.inl rfl) dX5_isRead_29
  · have h := x_n c_1 h
    refine lv_aload_n hx hb dX5_isRead_11 rfl (lv_at hl 0 rfl) ?_
    refine va_get (D := D) (ci := 4) (v := .ref h_tr) (C := RX5) (T := TX5) (N := 6) hx hb hts i_X5_isRead_X5 hown hE.1 hP 0 rfl rfl 4 (by decide) (hts _ q_X5_isRead_4) (fun _ h9 => h9) rfl dX5_isRead_12 ?_
    refine lv_iload_n hx hb dX5_isRead_15 rfl (lv_at hl 2 rfl) ?_
    obtain ⟨g_2, h⟩ := x_gd h
    refine va_iald hx hb hE.1 hP 2 0 rfl rfl g_2 dX5_isRead_16 ?_
    refine lv_iload_n hx hb dX5_isRead_17 rfl (lv_at hl 1 rfl) ?_
    refine lv_ishr hx hb dX5_isRead_18 ?_
    refine lv_iconst (v := (1 : Int32)) hx hb dX5_isRead_19 (by decide) ?_
    refine lv_iand hx hb dX5_isRead_20 ?_
    refine lv_if_eq (tgt := 28) hx hb dX5_isRead_21 (by decide) (fun c_3 => ?_) (fun c_3 => ?_)
    · have h := x_p c_3 h
      refine lv_iconst (v := (0 : Int32)) hx hb dX5_isRead_28 (by decide) ?_
      cases h
      exact r_z X hP hD hS rfl (Or.inl rfl) dX5_isRead_29
    · have h := x_n c_3 h
      refine lv_iconst (v := (1 : Int32)) hx hb dX5_isRead_24 (by decide) ?_
      refine lv_goto (tgt := 29) hx hb dX5_isRead_25 (by decide) ?_
      cases h
      exact r_z X hP hD hS rfl (Or.inr rfl) dX5_isRead_29

theorem q_X5_isWritten_0 : (.fieldLink RX5 32 "StruckBits$Trace" "plain" "LStruckBits$Machine;" : Cond) ∈ wsX5_isWritten := by decide +kernel
theorem i_X5_isWritten_X5 : ∀ w ∈ u_ws RX5 TX5 6, w ∈ wsX5_isWritten := by decide +kernel
theorem q_X5_isWritten_2 : (.fieldLink RX5 74 "StruckBits$Machine" "tick" "I" : Cond) ∈ wsX5_isWritten := by decide +kernel
theorem i_X5_isWritten_X3 : ∀ w ∈ u_ws RX3 TX3 10, w ∈ wsX5_isWritten := by decide +kernel
theorem q_X5_isWritten_4 : (.fieldLink RX5 24 "StruckBits$Trace" "writes" "[I" : Cond) ∈ wsX5_isWritten := by decide +kernel
set_option maxHeartbeats 4000000 in
set_option maxRecDepth 100000 in
theorem m_X5_isWritten (l : Launch) (D : va_G) (cI : ClassId) (pt : Nat) (h_p h_t h_m h_mc h_mr h_tc h_tn h_tt h_tr h_tw : Nat) (v_m_rowLength : Int32) (v_m_next : Int32) (v_m_tick : Int32) (v_m_ending : Int32) (v_m_readNow : Int32) (v_m_writtenNow : Int32) (v_m_writtenSince : Int32) (v_tw : Nat → Int32) (a0 : Int32) (a1 : Int32) (fu : Nat) (res : Int32) (h : f_X5_isWritten fu v_m_tick v_tw a0 a1 = some res) :
    MT l D cI pt yX5_isWritten wsX5_isWritten ({ frames := 0, cells := 0, slots := 0, locals := 0 } : Room) [.ref h_t, .int a0, .int a1] [(h_t, .inr (4, [.ref h_m, .ref h_tc, .ref h_tn, .ref h_tt, .ref h_tr, .ref h_tw])), (h_m, .inr (2, [.ref h_p, .ref h_mc, .ref h_mr, .int v_m_rowLength, .int v_m_next, .int v_m_tick, .int v_m_ending, .int v_m_readNow, .int v_m_writtenNow, .int v_m_writtenSince])), (h_tw, .inl (cI, 100, .inl v_tw))] (some (.int res)) [(h_t, .inr (4, [.ref h_m, .ref h_tc, .ref h_tn, .ref h_tt, .ref h_tr, .ref h_tw])), (h_m, .inr (2, [.ref h_p, .ref h_mc, .ref h_mr, .int v_m_rowLength, .int v_m_next, .int v_m_tick, .int v_m_ending, .int v_m_readNow, .int v_m_writtenNow, .int v_m_writtenSince])), (h_tw, .inl (cI, 100, .inl v_tw))] := by
  refine MT.mk (cc := cX5_isWritten) (maxL := 3) (ret := (some .boolean)) (own := RX5) (by decide) rfl rfl (Nat.le_of_ble_eq_true rfl) rfl ?_
  intro p e s m args below meth c A ls X hP hD hS hl
  obtain ⟨hx, hb, hml, hown, hts, hr, hlk, hE, hH, hA⟩ := id X
  have hl : lv_has ls 3 [(0, .ref h_t), (1, .int a0), (2, .int a1)] := hl
  unfold f_X5_isWritten at h
  refine lv_iload_n hx hb dX5_isWritten_0 rfl (lv_at hl 2 rfl) ?_
  refine lv_aload_n hx hb dX5_isWritten_1 rfl (lv_at hl 0 rfl) ?_
  refine va_get (D := D) (ci := 4) (v := .ref h_m) (C := RX5) (T := TX5) (N := 6) hx hb hts i_X5_isWritten_X5 hown hE.1 hP 0 rfl rfl 0 (by decide) (hts _ q_X5_isWritten_0) (fun _ h9 => h9) rfl dX5_isWritten_2 ?_
  refine va_get (D := D) (ci := 2) (v := .int v_m_tick) (C := RX3) (T := TX3) (N := 10) hx hb hts i_X5_isWritten_X3 hown hE.1 hP 1 rfl rfl 5 (by decide) (hts _ q_X5_isWritten_2) (fun _ h9 => h9) rfl dX5_isWritten_5 ?_
  refine lv_icmp_ge (tgt := 28) hx hb dX5_isWritten_8 (by decide) (fun c_1 => ?_) (fun c_1 => ?_)
  · have h := x_p c_1 h
    refine lv_iconst (v := (0 : Int32)) hx hb dX5_isWritten_28 (by decide) ?_
    cases h
    exact r_z X hP hD hS rfl (Or.inl rfl) dX5_isWritten_29
  · have h := x_n c_1 h
    refine lv_aload_n hx hb dX5_isWritten_11 rfl (lv_at hl 0 rfl) ?_
    refine va_get (D := D) (ci := 4) (v := .ref h_tw) (C := RX5) (T := TX5) (N := 6) hx hb hts i_X5_isWritten_X5 hown hE.1 hP 0 rfl rfl 5 (by decide) (hts _ q_X5_isWritten_4) (fun _ h9 => h9) rfl dX5_isWritten_12 ?_
    refine lv_iload_n hx hb dX5_isWritten_15 rfl (lv_at hl 2 rfl) ?_
    obtain ⟨g_2, h⟩ := x_gd h
    refine va_iald hx hb hE.1 hP 2 0 rfl rfl g_2 dX5_isWritten_16 ?_
    refine lv_iload_n hx hb dX5_isWritten_17 rfl (lv_at hl 1 rfl) ?_
    refine lv_ishr hx hb dX5_isWritten_18 ?_
    refine lv_iconst (v := (1 : Int32)) hx hb dX5_isWritten_19 (by decide) ?_
    refine lv_iand hx hb dX5_isWritten_20 ?_
    refine lv_if_eq (tgt := 28) hx hb dX5_isWritten_21 (by decide) (fun c_3 => ?_) (fun c_3 => ?_)
    · have h := x_p c_3 h
      refine lv_iconst (v := (0 : Int32)) hx hb dX5_isWritten_28 (by decide) ?_
      cases h
      exact r_z X hP hD hS rfl (Or.inl rfl) dX5_isWritten_29
    · have h := x_n c_3 h
      refine lv_iconst (v := (1 : Int32)) hx hb dX5_isWritten_24 (by decide) ?_
      refine lv_goto (tgt := 29) hx hb dX5_isWritten_25 (by decide) ?_
      cases h
      exact r_z X hP hD hS rfl (Or.inr rfl) dX5_isWritten_29

theorem q_X5_follow_0 : (.fieldLink RX5 32 "StruckBits$Trace" "plain" "LStruckBits$Machine;" : Cond) ∈ wsX5_follow := by decide +kernel
theorem i_X5_follow_X5 : ∀ w ∈ u_ws RX5 TX5 6, w ∈ wsX5_follow := by decide +kernel
theorem q_X5_follow_2 : (.fieldLink RX5 36 "StruckBits$Machine" "cells" "[I" : Cond) ∈ wsX5_follow := by decide +kernel
theorem i_X5_follow_X3 : ∀ w ∈ u_ws RX3 TX3 10, w ∈ wsX5_follow := by decide +kernel
theorem q_X5_follow_4 : (.methodLink RX5 39 arraycopyName : Cond) ∈ wsX5_follow := by decide +kernel
theorem q_X5_follow_5 : (.native arraycopyName : Cond) ∈ wsX5_follow := by decide +kernel
theorem q_X5_follow_6 : (.static arraycopyName : Cond) ∈ wsX5_follow := by decide +kernel
theorem q_X5_follow_7 : (.initialized "java/lang/System" : Cond) ∈ wsX5_follow := by decide +kernel
theorem q_X5_follow_8 : (.fieldLink RX5 49 "StruckBits$Machine" "ending" "I" : Cond) ∈ wsX5_follow := by decide +kernel
theorem q_X5_follow_9 : (.fieldLink RX5 9 "StruckBits$Trace" "cellsAhead" "[I" : Cond) ∈ wsX5_follow := by decide +kernel
theorem q_X5_follow_10 : (.fieldLink RX5 15 "StruckBits$Trace" "nextAhead" "[I" : Cond) ∈ wsX5_follow := by decide +kernel
theorem q_X5_follow_11 : (.fieldLink RX5 53 "StruckBits$Machine" "next" "I" : Cond) ∈ wsX5_follow := by decide +kernel
theorem q_X5_follow_12 : (.fieldLink RX5 18 "StruckBits$Trace" "toldAhead" "[I" : Cond) ∈ wsX5_follow := by decide +kernel
theorem q_X5_follow_13 : (.fieldLink RX5 56 "StruckBits$Machine" "rowLength" "I" : Cond) ∈ wsX5_follow := by decide +kernel
theorem q_X5_follow_14 : (.fieldLink RX5 21 "StruckBits$Trace" "reads" "[I" : Cond) ∈ wsX5_follow := by decide +kernel
theorem q_X5_follow_15 : (.fieldLink RX5 62 "StruckBits$Machine" "readNow" "I" : Cond) ∈ wsX5_follow := by decide +kernel
theorem q_X5_follow_16 : (.fieldLink RX5 24 "StruckBits$Trace" "writes" "[I" : Cond) ∈ wsX5_follow := by decide +kernel
theorem q_X5_follow_17 : (.fieldLink RX5 65 "StruckBits$Machine" "writtenNow" "I" : Cond) ∈ wsX5_follow := by decide +kernel
set_option maxHeartbeats 4000000 in
set_option maxRecDepth 100000 in
theorem tr_X5_follow_27 {p : Program} {l : Launch} {e : Env} {s : State} {m : MethodId} {args : Array Value} {below : List Frame} {meth : Method} {c : Code} {D : va_G} {cI : ClassId} {pt : Nat} {A : Nat → Prop} (X : CX p s m args meth c D cI pt A cX5_follow 3 none wsX5_follow RX5) (h_p h_po h_pf h_ps h_st h_t h_m h_mc h_mr h_tc h_tn h_tt h_tr h_tw : Nat) (v_p_length : Int32) (v_po : Nat → Int32) (v_pf : Nat → Int32) (v_ps : Nat → Int32) (v_st : Nat → Int32)   (fu : Nat) (k130 : Int32 → Int32 → Int32 → Int32 → Int32 → Int32 → Int32 → (Nat → Int32) → (Nat → Int32) → (Nat → Int32) → (Nat → Int32) → (Nat → Int32) → (Nat → Int32) → (Nat → Int32) → Option (Int32 × Int32 × Int32 × Int32 × Int32 × Int32 × Int32 × (Nat → Int32) × (Nat → Int32) × (Nat → Int32) × (Nat → Int32) × (Nat → Int32) × (Nat → Int32) × (Nat → Int32))) (res : Int32 × Int32 × Int32 × Int32 × Int32 × Int32 × Int32 × (Nat → Int32) × (Nat → Int32) × (Nat → Int32) × (Nat → Int32) × (Nat → Int32) × (Nat → Int32) × (Nat → Int32)) (hk130 : ∀ (e130_m_rowLength : Int32) (e130_m_next : Int32) (e130_m_tick : Int32) (e130_m_ending : Int32) (e130_m_readNow : Int32) (e130_m_writtenNow : Int32) (e130_m_writtenSince : Int32) (e130_mc : Nat → Int32) (e130_mr : Nat → Int32) (e130_tc : Nat → Int32) (e130_tn : Nat → Int32) (e130_tt : Nat → Int32) (e130_tr : Nat → Int32) (e130_tw : Nat → Int32), k130 e130_m_rowLength e130_m_next e130_m_tick e130_m_ending e130_m_readNow e130_m_writtenNow e130_m_writtenSince e130_mc e130_mr e130_tc e130_tn e130_tt e130_tr e130_tw = some res → ∀ (H : Heap) (locs : List Loc) (ls : Array Slot), va_P D vwCl [(h_p, .inr (3, [.ref h_po, .ref h_pf, .ref h_ps, .int v_p_length])), (h_po, .inl (cI, 20, .inl v_po)), (h_pf, .inl (cI, 20, .inl v_pf)), (h_ps, .inl (cI, 20, .inl v_ps)), (h_st, .inl (cI, 8, .inl v_st)), (h_t, .inr (4, [.ref h_m, .ref h_tc, .ref h_tn, .ref h_tt, .ref h_tr, .ref h_tw])), (h_m, .inr (2, [.ref h_p, .ref h_mc, .ref h_mr, .int e130_m_rowLength, .int e130_m_next, .int e130_m_tick, .int e130_m_ending, .int e130_m_readNow, .int e130_m_writtenNow, .int e130_m_writtenSince])), (h_mc, .inl (cI, 8, .inl e130_mc)), (h_mr, .inl (cI, 12, .inl e130_mr)), (h_tc, .inl (cI, 800, .inl e130_tc)), (h_tn, .inl (cI, 100, .inl e130_tn)), (h_tt, .inl (cI, 100, .inl e130_tt)), (h_tr, .inl (cI, 100, .inl e130_tr)), (h_tw, .inl (cI, 100, .inl e130_tw))] H → va_D A [(h_p, .inr (3, [.ref h_po, .ref h_pf, .ref h_ps, .int v_p_length])), (h_po, .inl (cI, 20, .inl v_po)), (h_pf, .inl (cI, 20, .inl v_pf)), (h_ps, .inl (cI, 20, .inl v_ps)), (h_st, .inl (cI, 8, .inl v_st)), (h_t, .inr (4, [.ref h_m, .ref h_tc, .ref h_tn, .ref h_tt, .ref h_tr, .ref h_tw])), (h_m, .inr (2, [.ref h_p, .ref h_mc, .ref h_mr, .int e130_m_rowLength, .int e130_m_next, .int e130_m_tick, .int e130_m_ending, .int e130_m_readNow, .int e130_m_writtenNow, .int e130_m_writtenSince])), (h_mc, .inl (cI, 8, .inl e130_mc)), (h_mr, .inl (cI, 12, .inl e130_mr)), (h_tc, .inl (cI, 800, .inl e130_tc)), (h_tn, .inl (cI, 100, .inl e130_tn)), (h_tt, .inl (cI, 100, .inl e130_tt)), (h_tr, .inl (cI, 100, .inl e130_tr)), (h_tw, .inl (cI, 100, .inl e130_tw))] → va_S A s.heap H locs → lv_has ls 3 [(0, .ref h_t)] → W p l e ({ frames := 3, cells := 0, slots := 0, locals := 69 } : Room) s m args below meth c H locs 0 0 (MQ below (Qg D A none [(h_p, .inr (3, [.ref h_po, .ref h_pf, .ref h_ps, .int v_p_length])), (h_po, .inl (cI, 20, .inl v_po)), (h_pf, .inl (cI, 20, .inl v_pf)), (h_ps, .inl (cI, 20, .inl v_ps)), (h_st, .inl (cI, 8, .inl v_st)), (h_t, .inr (4, [.ref h_m, .ref h_tc, .ref h_tn, .ref h_tt, .ref h_tr, .ref h_tw])), (h_m, .inr (2, [.ref h_p, .ref h_mc, .ref h_mr, .int res.1, .int res.2.1, .int res.2.2.1, .int res.2.2.2.1, .int res.2.2.2.2.1, .int res.2.2.2.2.2.1, .int res.2.2.2.2.2.2.1])), (h_mc, .inl (cI, 8, .inl res.2.2.2.2.2.2.2.1)), (h_mr, .inl (cI, 12, .inl res.2.2.2.2.2.2.2.2.1)), (h_tc, .inl (cI, 800, .inl res.2.2.2.2.2.2.2.2.2.1)), (h_tn, .inl (cI, 100, .inl res.2.2.2.2.2.2.2.2.2.2.1)), (h_tt, .inl (cI, 100, .inl res.2.2.2.2.2.2.2.2.2.2.2.1)), (h_tr, .inl (cI, 100, .inl res.2.2.2.2.2.2.2.2.2.2.2.2.1)), (h_tw, .inl (cI, 100, .inl res.2.2.2.2.2.2.2.2.2.2.2.2.2))]) args s 0 0 A) (F0 m 130 ls [])) :
    ∀ (n : Nat) (u27_m_rowLength : Int32) (u27_m_next : Int32) (u27_m_tick : Int32) (u27_m_ending : Int32) (u27_m_readNow : Int32) (u27_m_writtenNow : Int32) (u27_m_writtenSince : Int32) (u27_mc : Nat → Int32) (u27_mr : Nat → Int32) (u27_tc : Nat → Int32) (u27_tn : Nat → Int32) (u27_tt : Nat → Int32) (u27_tr : Nat → Int32) (u27_tw : Nat → Int32) (y27_2 : Int32), fr_X5_follow_27 fu v_p_length v_po v_pf v_ps k130 n u27_m_rowLength u27_m_next u27_m_tick u27_m_ending u27_m_readNow u27_m_writtenNow u27_m_writtenSince u27_mc u27_mr u27_tc u27_tn u27_tt u27_tr u27_tw y27_2 = some res → ∀ (H : Heap) (locs : List Loc) (ls : Array Slot), va_P D vwCl [(h_p, .inr (3, [.ref h_po, .ref h_pf, .ref h_ps, .int v_p_length])), (h_po, .inl (cI, 20, .inl v_po)), (h_pf, .inl (cI, 20, .inl v_pf)), (h_ps, .inl (cI, 20, .inl v_ps)), (h_st, .inl (cI, 8, .inl v_st)), (h_t, .inr (4, [.ref h_m, .ref h_tc, .ref h_tn, .ref h_tt, .ref h_tr, .ref h_tw])), (h_m, .inr (2, [.ref h_p, .ref h_mc, .ref h_mr, .int u27_m_rowLength, .int u27_m_next, .int u27_m_tick, .int u27_m_ending, .int u27_m_readNow, .int u27_m_writtenNow, .int u27_m_writtenSince])), (h_mc, .inl (cI, 8, .inl u27_mc)), (h_mr, .inl (cI, 12, .inl u27_mr)), (h_tc, .inl (cI, 800, .inl u27_tc)), (h_tn, .inl (cI, 100, .inl u27_tn)), (h_tt, .inl (cI, 100, .inl u27_tt)), (h_tr, .inl (cI, 100, .inl u27_tr)), (h_tw, .inl (cI, 100, .inl u27_tw))] H → va_D A [(h_p, .inr (3, [.ref h_po, .ref h_pf, .ref h_ps, .int v_p_length])), (h_po, .inl (cI, 20, .inl v_po)), (h_pf, .inl (cI, 20, .inl v_pf)), (h_ps, .inl (cI, 20, .inl v_ps)), (h_st, .inl (cI, 8, .inl v_st)), (h_t, .inr (4, [.ref h_m, .ref h_tc, .ref h_tn, .ref h_tt, .ref h_tr, .ref h_tw])), (h_m, .inr (2, [.ref h_p, .ref h_mc, .ref h_mr, .int u27_m_rowLength, .int u27_m_next, .int u27_m_tick, .int u27_m_ending, .int u27_m_readNow, .int u27_m_writtenNow, .int u27_m_writtenSince])), (h_mc, .inl (cI, 8, .inl u27_mc)), (h_mr, .inl (cI, 12, .inl u27_mr)), (h_tc, .inl (cI, 800, .inl u27_tc)), (h_tn, .inl (cI, 100, .inl u27_tn)), (h_tt, .inl (cI, 100, .inl u27_tt)), (h_tr, .inl (cI, 100, .inl u27_tr)), (h_tw, .inl (cI, 100, .inl u27_tw))] → va_S A s.heap H locs → lv_has ls 3 [(0, .ref h_t), (2, .int y27_2)] → W p l e ({ frames := 3, cells := 0, slots := 0, locals := 69 } : Room) s m args below meth c H locs 0 0 (MQ below (Qg D A none [(h_p, .inr (3, [.ref h_po, .ref h_pf, .ref h_ps, .int v_p_length])), (h_po, .inl (cI, 20, .inl v_po)), (h_pf, .inl (cI, 20, .inl v_pf)), (h_ps, .inl (cI, 20, .inl v_ps)), (h_st, .inl (cI, 8, .inl v_st)), (h_t, .inr (4, [.ref h_m, .ref h_tc, .ref h_tn, .ref h_tt, .ref h_tr, .ref h_tw])), (h_m, .inr (2, [.ref h_p, .ref h_mc, .ref h_mr, .int res.1, .int res.2.1, .int res.2.2.1, .int res.2.2.2.1, .int res.2.2.2.2.1, .int res.2.2.2.2.2.1, .int res.2.2.2.2.2.2.1])), (h_mc, .inl (cI, 8, .inl res.2.2.2.2.2.2.2.1)), (h_mr, .inl (cI, 12, .inl res.2.2.2.2.2.2.2.2.1)), (h_tc, .inl (cI, 800, .inl res.2.2.2.2.2.2.2.2.2.1)), (h_tn, .inl (cI, 100, .inl res.2.2.2.2.2.2.2.2.2.2.1)), (h_tt, .inl (cI, 100, .inl res.2.2.2.2.2.2.2.2.2.2.2.1)), (h_tr, .inl (cI, 100, .inl res.2.2.2.2.2.2.2.2.2.2.2.2.1)), (h_tw, .inl (cI, 100, .inl res.2.2.2.2.2.2.2.2.2.2.2.2.2))]) args s 0 0 A) (F0 m 27 ls []) := by
  obtain ⟨hx, hb, hml, hown, hts, hr, hlk, hE, hH, hA⟩ := id X
  intro n
  induction n with
  | zero =>
    intro u27_m_rowLength u27_m_next u27_m_tick u27_m_ending u27_m_readNow u27_m_writtenNow u27_m_writtenSince u27_mc u27_mr u27_tc u27_tn u27_tt u27_tr u27_tw y27_2 h
    cases (show none = some res from h)
  | succ n ih =>
    intro u27_m_rowLength u27_m_next u27_m_tick u27_m_ending u27_m_readNow u27_m_writtenNow u27_m_writtenSince u27_mc u27_mr u27_tc u27_tn u27_tt u27_tr u27_tw y27_2 h H locs ls hP hD hS hl
    rw [fr_X5_follow_27] at h
    refine lv_iload_n hx hb dX5_follow_27 rfl (lv_at hl 1 rfl) ?_
    refine lv_bipush (v := (100 : Int32)) hx hb dX5_follow_28 (by decide) ?_
    refine lv_icmp_ge (tgt := 130) hx hb dX5_follow_30 (by decide) (fun c_3 => ?_) (fun c_3 => ?_)
    · have h := x_p c_3 h
      exact hk130 u27_m_rowLength u27_m_next u27_m_tick u27_m_ending u27_m_readNow u27_m_writtenNow u27_m_writtenSince u27_mc u27_mr u27_tc u27_tn u27_tt u27_tr u27_tw h _ _ _ hP hD hS (lv_sub hl [0] rfl)
    · have h := x_n c_3 h
      refine lv_aload_n hx hb dX5_follow_33 rfl (lv_at hl 0 rfl) ?_
      refine va_get (D := D) (ci := 4) (v := .ref h_m) (C := RX5) (T := TX5) (N := 6) hx hb hts i_X5_follow_X5 hown hE.1 hP 5 rfl rfl 0 (by decide) (hts _ q_X5_follow_0) (fun _ h9 => h9) rfl dX5_follow_34 ?_
      refine va_get (D := D) (ci := 2) (v := .int u27_m_ending) (C := RX3) (T := TX3) (N := 10) hx hb hts i_X5_follow_X3 hown hE.1 hP 6 rfl rfl 6 (by decide) (hts _ q_X5_follow_8) (fun _ h9 => h9) rfl dX5_follow_37 ?_
      refine lv_iconst (v := (3 : Int32)) hx hb dX5_follow_40 (by decide) ?_
      refine lv_icmp_ne (tgt := 130) hx hb dX5_follow_41 (by decide) (fun c_4 => ?_) (fun c_4 => ?_)
      · have h := x_n c_4 h
        exact hk130 u27_m_rowLength u27_m_next u27_m_tick u27_m_ending u27_m_readNow u27_m_writtenNow u27_m_writtenSince u27_mc u27_mr u27_tc u27_tn u27_tt u27_tr u27_tw h _ _ _ hP hD hS (lv_sub hl [0] rfl)
      · have h := x_p c_4 h
        refine lv_aload_n hx hb dX5_follow_44 rfl (lv_at hl 0 rfl) ?_
        refine va_get (D := D) (ci := 4) (v := .ref h_m) (C := RX5) (T := TX5) (N := 6) hx hb hts i_X5_follow_X5 hown hE.1 hP 5 rfl rfl 0 (by decide) (hts _ q_X5_follow_0) (fun _ h9 => h9) rfl dX5_follow_45 ?_
        refine va_get (D := D) (ci := 2) (v := .ref h_mc) (C := RX3) (T := TX3) (N := 10) hx hb hts i_X5_follow_X3 hown hE.1 hP 6 rfl rfl 1 (by decide) (hts _ q_X5_follow_2) (fun _ h9 => h9) rfl dX5_follow_48 ?_
        refine lv_iconst (v := (0 : Int32)) hx hb dX5_follow_51 (by decide) ?_
        refine lv_aload_n hx hb dX5_follow_52 rfl (lv_at hl 0 rfl) ?_
        refine va_get (D := D) (ci := 4) (v := .ref h_tc) (C := RX5) (T := TX5) (N := 6) hx hb hts i_X5_follow_X5 hown hE.1 hP 5 rfl rfl 1 (by decide) (hts _ q_X5_follow_9) (fun _ h9 => h9) rfl dX5_follow_53 ?_
        refine lv_iload_n hx hb dX5_follow_56 rfl (lv_at hl 1 rfl) ?_
        refine lv_bipush (v := (8 : Int32)) hx hb dX5_follow_57 (by decide) ?_
        refine lv_imul hx hb dX5_follow_59 ?_
        refine lv_bipush (v := (8 : Int32)) hx hb dX5_follow_60 (by decide) ?_
        obtain ⟨g_5, h⟩ := x_gd h
        refine va_copyi hx hb (hml.trans hl.1.symm) hown (hts _ q_X5_follow_4) (hts _ q_X5_follow_5) (hts _ q_X5_follow_6) (hts _ q_X5_follow_7) hE.1 hP hD hS 7 9 0 0 rfl rfl rfl rfl rfl g_5.1 g_5.2.1 g_5.2.2.1 g_5.2.2.2.1 g_5.2.2.2.2 (fun _ _ => rfl) (by decide) (by decide +kernel) dX5_follow_62 (fun H locs hP hD hS => ?_)
        have hP : va_P D vwCl [(h_p, .inr (3, [.ref h_po, .ref h_pf, .ref h_ps, .int v_p_length])), (h_po, .inl (cI, 20, .inl v_po)), (h_pf, .inl (cI, 20, .inl v_pf)), (h_ps, .inl (cI, 20, .inl v_ps)), (h_st, .inl (cI, 8, .inl v_st)), (h_t, .inr (4, [.ref h_m, .ref h_tc, .ref h_tn, .ref h_tt, .ref h_tr, .ref h_tw])), (h_m, .inr (2, [.ref h_p, .ref h_mc, .ref h_mr, .int u27_m_rowLength, .int u27_m_next, .int u27_m_tick, .int u27_m_ending, .int u27_m_readNow, .int u27_m_writtenNow, .int u27_m_writtenSince])), (h_mc, .inl (cI, 8, .inl u27_mc)), (h_mr, .inl (cI, 12, .inl u27_mr)), (h_tc, .inl (cI, 800, .inl (va_cpy u27_mc u27_tc ((0 : Int32).toNatClampNeg) ((y27_2 * (8 : Int32)).toNatClampNeg) ((8 : Int32).toNatClampNeg)))), (h_tn, .inl (cI, 100, .inl u27_tn)), (h_tt, .inl (cI, 100, .inl u27_tt)), (h_tr, .inl (cI, 100, .inl u27_tr)), (h_tw, .inl (cI, 100, .inl u27_tw))] H := hP
        have hD : va_D A [(h_p, .inr (3, [.ref h_po, .ref h_pf, .ref h_ps, .int v_p_length])), (h_po, .inl (cI, 20, .inl v_po)), (h_pf, .inl (cI, 20, .inl v_pf)), (h_ps, .inl (cI, 20, .inl v_ps)), (h_st, .inl (cI, 8, .inl v_st)), (h_t, .inr (4, [.ref h_m, .ref h_tc, .ref h_tn, .ref h_tt, .ref h_tr, .ref h_tw])), (h_m, .inr (2, [.ref h_p, .ref h_mc, .ref h_mr, .int u27_m_rowLength, .int u27_m_next, .int u27_m_tick, .int u27_m_ending, .int u27_m_readNow, .int u27_m_writtenNow, .int u27_m_writtenSince])), (h_mc, .inl (cI, 8, .inl u27_mc)), (h_mr, .inl (cI, 12, .inl u27_mr)), (h_tc, .inl (cI, 800, .inl (va_cpy u27_mc u27_tc ((0 : Int32).toNatClampNeg) ((y27_2 * (8 : Int32)).toNatClampNeg) ((8 : Int32).toNatClampNeg)))), (h_tn, .inl (cI, 100, .inl u27_tn)), (h_tt, .inl (cI, 100, .inl u27_tt)), (h_tr, .inl (cI, 100, .inl u27_tr)), (h_tw, .inl (cI, 100, .inl u27_tw))] := hD
        refine lv_aload_n hx hb dX5_follow_65 rfl (lv_at hl 0 rfl) ?_
        refine va_get (D := D) (ci := 4) (v := .ref h_tn) (C := RX5) (T := TX5) (N := 6) hx hb hts i_X5_follow_X5 hown hE.1 hP 5 rfl rfl 2 (by decide) (hts _ q_X5_follow_10) (fun _ h9 => h9) rfl dX5_follow_66 ?_
        refine lv_iload_n hx hb dX5_follow_69 rfl (lv_at hl 1 rfl) ?_
        refine lv_aload_n hx hb dX5_follow_70 rfl (lv_at hl 0 rfl) ?_
        refine va_get (D := D) (ci := 4) (v := .ref h_m) (C := RX5) (T := TX5) (N := 6) hx hb hts i_X5_follow_X5 hown hE.1 hP 5 rfl rfl 0 (by decide) (hts _ q_X5_follow_0) (fun _ h9 => h9) rfl dX5_follow_71 ?_
        refine va_get (D := D) (ci := 2) (v := .int u27_m_next) (C := RX3) (T := TX3) (N := 10) hx hb hts i_X5_follow_X3 hown hE.1 hP 6 rfl rfl 4 (by decide) (hts _ q_X5_follow_11) (fun _ h9 => h9) rfl dX5_follow_74 ?_
        obtain ⟨g_6, h⟩ := x_gd h
        refine va_iast hx hb hE.1 hP hD hS 10 0 rfl rfl g_6 dX5_follow_77 (fun H locs hP hD hS => ?_)
        have hP : va_P D vwCl [(h_p, .inr (3, [.ref h_po, .ref h_pf, .ref h_ps, .int v_p_length])), (h_po, .inl (cI, 20, .inl v_po)), (h_pf, .inl (cI, 20, .inl v_pf)), (h_ps, .inl (cI, 20, .inl v_ps)), (h_st, .inl (cI, 8, .inl v_st)), (h_t, .inr (4, [.ref h_m, .ref h_tc, .ref h_tn, .ref h_tt, .ref h_tr, .ref h_tw])), (h_m, .inr (2, [.ref h_p, .ref h_mc, .ref h_mr, .int u27_m_rowLength, .int u27_m_next, .int u27_m_tick, .int u27_m_ending, .int u27_m_readNow, .int u27_m_writtenNow, .int u27_m_writtenSince])), (h_mc, .inl (cI, 8, .inl u27_mc)), (h_mr, .inl (cI, 12, .inl u27_mr)), (h_tc, .inl (cI, 800, .inl (va_cpy u27_mc u27_tc ((0 : Int32).toNatClampNeg) ((y27_2 * (8 : Int32)).toNatClampNeg) ((8 : Int32).toNatClampNeg)))), (h_tn, .inl (cI, 100, .inl (upd u27_tn y27_2.toNatClampNeg u27_m_next))), (h_tt, .inl (cI, 100, .inl u27_tt)), (h_tr, .inl (cI, 100, .inl u27_tr)), (h_tw, .inl (cI, 100, .inl u27_tw))] H := hP
        have hD : va_D A [(h_p, .inr (3, [.ref h_po, .ref h_pf, .ref h_ps, .int v_p_length])), (h_po, .inl (cI, 20, .inl v_po)), (h_pf, .inl (cI, 20, .inl v_pf)), (h_ps, .inl (cI, 20, .inl v_ps)), (h_st, .inl (cI, 8, .inl v_st)), (h_t, .inr (4, [.ref h_m, .ref h_tc, .ref h_tn, .ref h_tt, .ref h_tr, .ref h_tw])), (h_m, .inr (2, [.ref h_p, .ref h_mc, .ref h_mr, .int u27_m_rowLength, .int u27_m_next, .int u27_m_tick, .int u27_m_ending, .int u27_m_readNow, .int u27_m_writtenNow, .int u27_m_writtenSince])), (h_mc, .inl (cI, 8, .inl u27_mc)), (h_mr, .inl (cI, 12, .inl u27_mr)), (h_tc, .inl (cI, 800, .inl (va_cpy u27_mc u27_tc ((0 : Int32).toNatClampNeg) ((y27_2 * (8 : Int32)).toNatClampNeg) ((8 : Int32).toNatClampNeg)))), (h_tn, .inl (cI, 100, .inl (upd u27_tn y27_2.toNatClampNeg u27_m_next))), (h_tt, .inl (cI, 100, .inl u27_tt)), (h_tr, .inl (cI, 100, .inl u27_tr)), (h_tw, .inl (cI, 100, .inl u27_tw))] := hD
        refine lv_aload_n hx hb dX5_follow_78 rfl (lv_at hl 0 rfl) ?_
        refine va_get (D := D) (ci := 4) (v := .ref h_tt) (C := RX5) (T := TX5) (N := 6) hx hb hts i_X5_follow_X5 hown hE.1 hP 5 rfl rfl 3 (by decide) (hts _ q_X5_follow_12) (fun _ h9 => h9) rfl dX5_follow_79 ?_
        refine lv_iload_n hx hb dX5_follow_82 rfl (lv_at hl 1 rfl) ?_
        refine lv_aload_n hx hb dX5_follow_83 rfl (lv_at hl 0 rfl) ?_
        refine va_get (D := D) (ci := 4) (v := .ref h_m) (C := RX5) (T := TX5) (N := 6) hx hb hts i_X5_follow_X5 hown hE.1 hP 5 rfl rfl 0 (by decide) (hts _ q_X5_follow_0) (fun _ h9 => h9) rfl dX5_follow_84 ?_
        refine va_get (D := D) (ci := 2) (v := .int u27_m_rowLength) (C := RX3) (T := TX3) (N := 10) hx hb hts i_X5_follow_X3 hown hE.1 hP 6 rfl rfl 3 (by decide) (hts _ q_X5_follow_13) (fun _ h9 => h9) rfl dX5_follow_87 ?_
        obtain ⟨g_7, h⟩ := x_gd h
        refine va_iast hx hb hE.1 hP hD hS 11 0 rfl rfl g_7 dX5_follow_90 (fun H locs hP hD hS => ?_)
        have hP : va_P D vwCl [(h_p, .inr (3, [.ref h_po, .ref h_pf, .ref h_ps, .int v_p_length])), (h_po, .inl (cI, 20, .inl v_po)), (h_pf, .inl (cI, 20, .inl v_pf)), (h_ps, .inl (cI, 20, .inl v_ps)), (h_st, .inl (cI, 8, .inl v_st)), (h_t, .inr (4, [.ref h_m, .ref h_tc, .ref h_tn, .ref h_tt, .ref h_tr, .ref h_tw])), (h_m, .inr (2, [.ref h_p, .ref h_mc, .ref h_mr, .int u27_m_rowLength, .int u27_m_next, .int u27_m_tick, .int u27_m_ending, .int u27_m_readNow, .int u27_m_writtenNow, .int u27_m_writtenSince])), (h_mc, .inl (cI, 8, .inl u27_mc)), (h_mr, .inl (cI, 12, .inl u27_mr)), (h_tc, .inl (cI, 800, .inl (va_cpy u27_mc u27_tc ((0 : Int32).toNatClampNeg) ((y27_2 * (8 : Int32)).toNatClampNeg) ((8 : Int32).toNatClampNeg)))), (h_tn, .inl (cI, 100, .inl (upd u27_tn y27_2.toNatClampNeg u27_m_next))), (h_tt, .inl (cI, 100, .inl (upd u27_tt y27_2.toNatClampNeg u27_m_rowLength))), (h_tr, .inl (cI, 100, .inl u27_tr)), (h_tw, .inl (cI, 100, .inl u27_tw))] H := hP
        have hD : va_D A [(h_p, .inr (3, [.ref h_po, .ref h_pf, .ref h_ps, .int v_p_length])), (h_po, .inl (cI, 20, .inl v_po)), (h_pf, .inl (cI, 20, .inl v_pf)), (h_ps, .inl (cI, 20, .inl v_ps)), (h_st, .inl (cI, 8, .inl v_st)), (h_t, .inr (4, [.ref h_m, .ref h_tc, .ref h_tn, .ref h_tt, .ref h_tr, .ref h_tw])), (h_m, .inr (2, [.ref h_p, .ref h_mc, .ref h_mr, .int u27_m_rowLength, .int u27_m_next, .int u27_m_tick, .int u27_m_ending, .int u27_m_readNow, .int u27_m_writtenNow, .int u27_m_writtenSince])), (h_mc, .inl (cI, 8, .inl u27_mc)), (h_mr, .inl (cI, 12, .inl u27_mr)), (h_tc, .inl (cI, 800, .inl (va_cpy u27_mc u27_tc ((0 : Int32).toNatClampNeg) ((y27_2 * (8 : Int32)).toNatClampNeg) ((8 : Int32).toNatClampNeg)))), (h_tn, .inl (cI, 100, .inl (upd u27_tn y27_2.toNatClampNeg u27_m_next))), (h_tt, .inl (cI, 100, .inl (upd u27_tt y27_2.toNatClampNeg u27_m_rowLength))), (h_tr, .inl (cI, 100, .inl u27_tr)), (h_tw, .inl (cI, 100, .inl u27_tw))] := hD
        refine lv_aload_n hx hb dX5_follow_91 rfl (lv_at hl 0 rfl) ?_
        refine va_get (D := D) (ci := 4) (v := .ref h_m) (C := RX5) (T := TX5) (N := 6) hx hb hts i_X5_follow_X5 hown hE.1 hP 5 rfl rfl 0 (by decide) (hts _ q_X5_follow_0) (fun _ h9 => h9) rfl dX5_follow_92 ?_
        obtain ⟨t_8, hc, h⟩ := x_b h
        refine c_V (q0 := 4) (ci := 2) (na := 0) (rest := []) (st1 := []) (Wr := [(h_st, .inl (cI, 8, .inl v_st)), (h_t, .inr (4, [.ref h_m, .ref h_tc, .ref h_tn, .ref h_tt, .ref h_tr, .ref h_tw])), (h_tc, .inl (cI, 800, .inl (va_cpy u27_mc u27_tc ((0 : Int32).toNatClampNeg) ((y27_2 * (8 : Int32)).toNatClampNeg) ((8 : Int32).toNatClampNeg)))), (h_tn, .inl (cI, 100, .inl (upd u27_tn y27_2.toNatClampNeg u27_m_next))), (h_tt, .inl (cI, 100, .inl (upd u27_tt y27_2.toNatClampNeg u27_m_rowLength))), (h_tr, .inl (cI, 100, .inl u27_tr)), (h_tw, .inl (cI, 100, .inl u27_tw))]) (Wn := [(h_p, .inr (3, [.ref h_po, .ref h_pf, .ref h_ps, .int v_p_length])), (h_po, .inl (cI, 20, .inl v_po)), (h_pf, .inl (cI, 20, .inl v_pf)), (h_ps, .inl (cI, 20, .inl v_ps)), (h_st, .inl (cI, 8, .inl v_st)), (h_t, .inr (4, [.ref h_m, .ref h_tc, .ref h_tn, .ref h_tt, .ref h_tr, .ref h_tw])), (h_m, .inr (2, [.ref h_p, .ref h_mc, .ref h_mr, .int t_8.1, .int t_8.2.1, .int t_8.2.2.1, .int t_8.2.2.2.1, .int t_8.2.2.2.2.1, .int t_8.2.2.2.2.2.1, .int t_8.2.2.2.2.2.2.1])), (h_mc, .inl (cI, 8, .inl t_8.2.2.2.2.2.2.2.1)), (h_mr, .inl (cI, 12, .inl t_8.2.2.2.2.2.2.2.2)), (h_tc, .inl (cI, 800, .inl (va_cpy u27_mc u27_tc ((0 : Int32).toNatClampNeg) ((y27_2 * (8 : Int32)).toNatClampNeg) ((8 : Int32).toNatClampNeg)))), (h_tn, .inl (cI, 100, .inl (upd u27_tn y27_2.toNatClampNeg u27_m_next))), (h_tt, .inl (cI, 100, .inl (upd u27_tt y27_2.toNatClampNeg u27_m_rowLength))), (h_tr, .inl (cI, 100, .inl u27_tr)), (h_tw, .inl (cI, 100, .inl u27_tw))]) X hP hD hS hl.1 (m_X3_step l D cI pt h_p h_po h_pf h_ps h_m h_mc h_mr v_p_length v_po v_pf v_ps u27_m_rowLength u27_m_next u27_m_tick u27_m_ending u27_m_readNow u27_m_writtenNow u27_m_writtenSince u27_mc u27_mr  fu _ hc) gX5_follow_X3_step rfl ⟨rfl, rfl⟩ rfl (by decide +kernel) ⟨Nat.le_of_ble_eq_true rfl, Nat.le_of_ble_eq_true rfl⟩ rfl rfl [0, 1, 2, 3, 6, 7, 8] [4, 5, 9, 10, 11, 12, 13] [7, 8, 9, 10, 0, 1, 11, 12, 13, 2, 3, 4, 5, 6] rfl rfl rfl rfl rfl (by decide) rfl rfl (Nat.le_of_ble_eq_true rfl) dX5_follow_95 ⟨Nat.zero_le _, Nat.zero_le _⟩ rfl rfl (fun H locs hP hD hS => ?_)
        refine lv_aload_n hx hb dX5_follow_98 rfl (lv_at hl 0 rfl) ?_
        refine va_get (D := D) (ci := 4) (v := .ref h_tr) (C := RX5) (T := TX5) (N := 6) hx hb hts i_X5_follow_X5 hown hE.1 hP 5 rfl rfl 4 (by decide) (hts _ q_X5_follow_14) (fun _ h9 => h9) rfl dX5_follow_99 ?_
        refine lv_iload_n hx hb dX5_follow_102 rfl (lv_at hl 1 rfl) ?_
        refine lv_aload_n hx hb dX5_follow_103 rfl (lv_at hl 0 rfl) ?_
        refine va_get (D := D) (ci := 4) (v := .ref h_m) (C := RX5) (T := TX5) (N := 6) hx hb hts i_X5_follow_X5 hown hE.1 hP 5 rfl rfl 0 (by decide) (hts _ q_X5_follow_0) (fun _ h9 => h9) rfl dX5_follow_104 ?_
        refine va_get (D := D) (ci := 2) (v := .int t_8.2.2.2.2.1) (C := RX3) (T := TX3) (N := 10) hx hb hts i_X5_follow_X3 hown hE.1 hP 6 rfl rfl 7 (by decide) (hts _ q_X5_follow_15) (fun _ h9 => h9) rfl dX5_follow_107 ?_
        obtain ⟨g_9, h⟩ := x_gd h
        refine va_iast hx hb hE.1 hP hD hS 12 0 rfl rfl g_9 dX5_follow_110 (fun H locs hP hD hS => ?_)
        have hP : va_P D vwCl [(h_p, .inr (3, [.ref h_po, .ref h_pf, .ref h_ps, .int v_p_length])), (h_po, .inl (cI, 20, .inl v_po)), (h_pf, .inl (cI, 20, .inl v_pf)), (h_ps, .inl (cI, 20, .inl v_ps)), (h_st, .inl (cI, 8, .inl v_st)), (h_t, .inr (4, [.ref h_m, .ref h_tc, .ref h_tn, .ref h_tt, .ref h_tr, .ref h_tw])), (h_m, .inr (2, [.ref h_p, .ref h_mc, .ref h_mr, .int t_8.1, .int t_8.2.1, .int t_8.2.2.1, .int t_8.2.2.2.1, .int t_8.2.2.2.2.1, .int t_8.2.2.2.2.2.1, .int t_8.2.2.2.2.2.2.1])), (h_mc, .inl (cI, 8, .inl t_8.2.2.2.2.2.2.2.1)), (h_mr, .inl (cI, 12, .inl t_8.2.2.2.2.2.2.2.2)), (h_tc, .inl (cI, 800, .inl (va_cpy u27_mc u27_tc ((0 : Int32).toNatClampNeg) ((y27_2 * (8 : Int32)).toNatClampNeg) ((8 : Int32).toNatClampNeg)))), (h_tn, .inl (cI, 100, .inl (upd u27_tn y27_2.toNatClampNeg u27_m_next))), (h_tt, .inl (cI, 100, .inl (upd u27_tt y27_2.toNatClampNeg u27_m_rowLength))), (h_tr, .inl (cI, 100, .inl (upd u27_tr y27_2.toNatClampNeg t_8.2.2.2.2.1))), (h_tw, .inl (cI, 100, .inl u27_tw))] H := hP
        have hD : va_D A [(h_p, .inr (3, [.ref h_po, .ref h_pf, .ref h_ps, .int v_p_length])), (h_po, .inl (cI, 20, .inl v_po)), (h_pf, .inl (cI, 20, .inl v_pf)), (h_ps, .inl (cI, 20, .inl v_ps)), (h_st, .inl (cI, 8, .inl v_st)), (h_t, .inr (4, [.ref h_m, .ref h_tc, .ref h_tn, .ref h_tt, .ref h_tr, .ref h_tw])), (h_m, .inr (2, [.ref h_p, .ref h_mc, .ref h_mr, .int t_8.1, .int t_8.2.1, .int t_8.2.2.1, .int t_8.2.2.2.1, .int t_8.2.2.2.2.1, .int t_8.2.2.2.2.2.1, .int t_8.2.2.2.2.2.2.1])), (h_mc, .inl (cI, 8, .inl t_8.2.2.2.2.2.2.2.1)), (h_mr, .inl (cI, 12, .inl t_8.2.2.2.2.2.2.2.2)), (h_tc, .inl (cI, 800, .inl (va_cpy u27_mc u27_tc ((0 : Int32).toNatClampNeg) ((y27_2 * (8 : Int32)).toNatClampNeg) ((8 : Int32).toNatClampNeg)))), (h_tn, .inl (cI, 100, .inl (upd u27_tn y27_2.toNatClampNeg u27_m_next))), (h_tt, .inl (cI, 100, .inl (upd u27_tt y27_2.toNatClampNeg u27_m_rowLength))), (h_tr, .inl (cI, 100, .inl (upd u27_tr y27_2.toNatClampNeg t_8.2.2.2.2.1))), (h_tw, .inl (cI, 100, .inl u27_tw))] := hD
        refine lv_aload_n hx hb dX5_follow_111 rfl (lv_at hl 0 rfl) ?_
        refine va_get (D := D) (ci := 4) (v := .ref h_tw) (C := RX5) (T := TX5) (N := 6) hx hb hts i_X5_follow_X5 hown hE.1 hP 5 rfl rfl 5 (by decide) (hts _ q_X5_follow_16) (fun _ h9 => h9) rfl dX5_follow_112 ?_
        refine lv_iload_n hx hb dX5_follow_115 rfl (lv_at hl 1 rfl) ?_
        refine lv_aload_n hx hb dX5_follow_116 rfl (lv_at hl 0 rfl) ?_
        refine va_get (D := D) (ci := 4) (v := .ref h_m) (C := RX5) (T := TX5) (N := 6) hx hb hts i_X5_follow_X5 hown hE.1 hP 5 rfl rfl 0 (by decide) (hts _ q_X5_follow_0) (fun _ h9 => h9) rfl dX5_follow_117 ?_
        refine va_get (D := D) (ci := 2) (v := .int t_8.2.2.2.2.2.1) (C := RX3) (T := TX3) (N := 10) hx hb hts i_X5_follow_X3 hown hE.1 hP 6 rfl rfl 8 (by decide) (hts _ q_X5_follow_17) (fun _ h9 => h9) rfl dX5_follow_120 ?_
        obtain ⟨g_10, h⟩ := x_gd h
        refine va_iast hx hb hE.1 hP hD hS 13 0 rfl rfl g_10 dX5_follow_123 (fun H locs hP hD hS => ?_)
        have hP : va_P D vwCl [(h_p, .inr (3, [.ref h_po, .ref h_pf, .ref h_ps, .int v_p_length])), (h_po, .inl (cI, 20, .inl v_po)), (h_pf, .inl (cI, 20, .inl v_pf)), (h_ps, .inl (cI, 20, .inl v_ps)), (h_st, .inl (cI, 8, .inl v_st)), (h_t, .inr (4, [.ref h_m, .ref h_tc, .ref h_tn, .ref h_tt, .ref h_tr, .ref h_tw])), (h_m, .inr (2, [.ref h_p, .ref h_mc, .ref h_mr, .int t_8.1, .int t_8.2.1, .int t_8.2.2.1, .int t_8.2.2.2.1, .int t_8.2.2.2.2.1, .int t_8.2.2.2.2.2.1, .int t_8.2.2.2.2.2.2.1])), (h_mc, .inl (cI, 8, .inl t_8.2.2.2.2.2.2.2.1)), (h_mr, .inl (cI, 12, .inl t_8.2.2.2.2.2.2.2.2)), (h_tc, .inl (cI, 800, .inl (va_cpy u27_mc u27_tc ((0 : Int32).toNatClampNeg) ((y27_2 * (8 : Int32)).toNatClampNeg) ((8 : Int32).toNatClampNeg)))), (h_tn, .inl (cI, 100, .inl (upd u27_tn y27_2.toNatClampNeg u27_m_next))), (h_tt, .inl (cI, 100, .inl (upd u27_tt y27_2.toNatClampNeg u27_m_rowLength))), (h_tr, .inl (cI, 100, .inl (upd u27_tr y27_2.toNatClampNeg t_8.2.2.2.2.1))), (h_tw, .inl (cI, 100, .inl (upd u27_tw y27_2.toNatClampNeg t_8.2.2.2.2.2.1)))] H := hP
        have hD : va_D A [(h_p, .inr (3, [.ref h_po, .ref h_pf, .ref h_ps, .int v_p_length])), (h_po, .inl (cI, 20, .inl v_po)), (h_pf, .inl (cI, 20, .inl v_pf)), (h_ps, .inl (cI, 20, .inl v_ps)), (h_st, .inl (cI, 8, .inl v_st)), (h_t, .inr (4, [.ref h_m, .ref h_tc, .ref h_tn, .ref h_tt, .ref h_tr, .ref h_tw])), (h_m, .inr (2, [.ref h_p, .ref h_mc, .ref h_mr, .int t_8.1, .int t_8.2.1, .int t_8.2.2.1, .int t_8.2.2.2.1, .int t_8.2.2.2.2.1, .int t_8.2.2.2.2.2.1, .int t_8.2.2.2.2.2.2.1])), (h_mc, .inl (cI, 8, .inl t_8.2.2.2.2.2.2.2.1)), (h_mr, .inl (cI, 12, .inl t_8.2.2.2.2.2.2.2.2)), (h_tc, .inl (cI, 800, .inl (va_cpy u27_mc u27_tc ((0 : Int32).toNatClampNeg) ((y27_2 * (8 : Int32)).toNatClampNeg) ((8 : Int32).toNatClampNeg)))), (h_tn, .inl (cI, 100, .inl (upd u27_tn y27_2.toNatClampNeg u27_m_next))), (h_tt, .inl (cI, 100, .inl (upd u27_tt y27_2.toNatClampNeg u27_m_rowLength))), (h_tr, .inl (cI, 100, .inl (upd u27_tr y27_2.toNatClampNeg t_8.2.2.2.2.1))), (h_tw, .inl (cI, 100, .inl (upd u27_tw y27_2.toNatClampNeg t_8.2.2.2.2.2.1)))] := hD
        refine lv_iinc (v := (y27_2 + (1 : Int32))) (lv' := [(2, .int (y27_2 + (1 : Int32))), (0, .ref h_t)]) hx hb dX5_follow_124 hl (k := 1) rfl rfl (by decide) rfl (fun ls hl => ?_)
        refine lv_goto (tgt := 27) hx hb dX5_follow_127 (by decide) ?_
        exact ih t_8.1 t_8.2.1 t_8.2.2.1 t_8.2.2.2.1 t_8.2.2.2.2.1 t_8.2.2.2.2.2.1 t_8.2.2.2.2.2.2.1 t_8.2.2.2.2.2.2.2.1 t_8.2.2.2.2.2.2.2.2 (va_cpy u27_mc u27_tc ((0 : Int32).toNatClampNeg) ((y27_2 * (8 : Int32)).toNatClampNeg) ((8 : Int32).toNatClampNeg)) (upd u27_tn y27_2.toNatClampNeg u27_m_next) (upd u27_tt y27_2.toNatClampNeg u27_m_rowLength) (upd u27_tr y27_2.toNatClampNeg t_8.2.2.2.2.1) (upd u27_tw y27_2.toNatClampNeg t_8.2.2.2.2.2.1) (y27_2 + (1 : Int32)) h _ _ _ hP hD hS (lv_sub hl [1, 0] rfl)
set_option maxHeartbeats 4000000 in
set_option maxRecDepth 100000 in
theorem m_X5_follow (l : Launch) (D : va_G) (cI : ClassId) (pt : Nat) (h_p h_po h_pf h_ps h_st h_t h_m h_mc h_mr h_tc h_tn h_tt h_tr h_tw : Nat) (v_p_length : Int32) (v_po : Nat → Int32) (v_pf : Nat → Int32) (v_ps : Nat → Int32) (v_st : Nat → Int32) (v_m_rowLength : Int32) (v_m_next : Int32) (v_m_tick : Int32) (v_m_ending : Int32) (v_m_readNow : Int32) (v_m_writtenNow : Int32) (v_m_writtenSince : Int32) (v_mc : Nat → Int32) (v_mr : Nat → Int32) (v_tc : Nat → Int32) (v_tn : Nat → Int32) (v_tt : Nat → Int32) (v_tr : Nat → Int32) (v_tw : Nat → Int32)  (fu : Nat) (res : Int32 × Int32 × Int32 × Int32 × Int32 × Int32 × Int32 × (Nat → Int32) × (Nat → Int32) × (Nat → Int32) × (Nat → Int32) × (Nat → Int32) × (Nat → Int32) × (Nat → Int32)) (h : f_X5_follow fu v_p_length v_po v_pf v_ps v_st v_m_rowLength v_m_next v_m_tick v_m_ending v_m_readNow v_m_writtenNow v_m_writtenSince v_mc v_mr v_tc v_tn v_tt v_tr v_tw  = some res) :
    MT l D cI pt yX5_follow wsX5_follow ({ frames := 3, cells := 0, slots := 0, locals := 69 } : Room) [.ref h_t, .ref h_st] [(h_p, .inr (3, [.ref h_po, .ref h_pf, .ref h_ps, .int v_p_length])), (h_po, .inl (cI, 20, .inl v_po)), (h_pf, .inl (cI, 20, .inl v_pf)), (h_ps, .inl (cI, 20, .inl v_ps)), (h_st, .inl (cI, 8, .inl v_st)), (h_t, .inr (4, [.ref h_m, .ref h_tc, .ref h_tn, .ref h_tt, .ref h_tr, .ref h_tw])), (h_m, .inr (2, [.ref h_p, .ref h_mc, .ref h_mr, .int v_m_rowLength, .int v_m_next, .int v_m_tick, .int v_m_ending, .int v_m_readNow, .int v_m_writtenNow, .int v_m_writtenSince])), (h_mc, .inl (cI, 8, .inl v_mc)), (h_mr, .inl (cI, 12, .inl v_mr)), (h_tc, .inl (cI, 800, .inl v_tc)), (h_tn, .inl (cI, 100, .inl v_tn)), (h_tt, .inl (cI, 100, .inl v_tt)), (h_tr, .inl (cI, 100, .inl v_tr)), (h_tw, .inl (cI, 100, .inl v_tw))] none [(h_p, .inr (3, [.ref h_po, .ref h_pf, .ref h_ps, .int v_p_length])), (h_po, .inl (cI, 20, .inl v_po)), (h_pf, .inl (cI, 20, .inl v_pf)), (h_ps, .inl (cI, 20, .inl v_ps)), (h_st, .inl (cI, 8, .inl v_st)), (h_t, .inr (4, [.ref h_m, .ref h_tc, .ref h_tn, .ref h_tt, .ref h_tr, .ref h_tw])), (h_m, .inr (2, [.ref h_p, .ref h_mc, .ref h_mr, .int res.1, .int res.2.1, .int res.2.2.1, .int res.2.2.2.1, .int res.2.2.2.2.1, .int res.2.2.2.2.2.1, .int res.2.2.2.2.2.2.1])), (h_mc, .inl (cI, 8, .inl res.2.2.2.2.2.2.2.1)), (h_mr, .inl (cI, 12, .inl res.2.2.2.2.2.2.2.2.1)), (h_tc, .inl (cI, 800, .inl res.2.2.2.2.2.2.2.2.2.1)), (h_tn, .inl (cI, 100, .inl res.2.2.2.2.2.2.2.2.2.2.1)), (h_tt, .inl (cI, 100, .inl res.2.2.2.2.2.2.2.2.2.2.2.1)), (h_tr, .inl (cI, 100, .inl res.2.2.2.2.2.2.2.2.2.2.2.2.1)), (h_tw, .inl (cI, 100, .inl res.2.2.2.2.2.2.2.2.2.2.2.2.2))] := by
  refine MT.mk (cc := cX5_follow) (maxL := 3) (ret := none) (own := RX5) (by decide) rfl rfl (Nat.le_of_ble_eq_true rfl) rfl ?_
  intro p e s m args below meth c A ls X hP hD hS hl
  obtain ⟨hx, hb, hml, hown, hts, hr, hlk, hE, hH, hA⟩ := id X
  have hl : lv_has ls 3 [(0, .ref h_t), (1, .ref h_st)] := hl
  unfold f_X5_follow at h
  refine lv_aload_n hx hb dX5_follow_0 rfl (lv_at hl 1 rfl) ?_
  refine lv_iconst (v := (0 : Int32)) hx hb dX5_follow_1 (by decide) ?_
  refine lv_aload_n hx hb dX5_follow_2 rfl (lv_at hl 0 rfl) ?_
  refine va_get (D := D) (ci := 4) (v := .ref h_m) (C := RX5) (T := TX5) (N := 6) hx hb hts i_X5_follow_X5 hown hE.1 hP 5 rfl rfl 0 (by decide) (hts _ q_X5_follow_0) (fun _ h9 => h9) rfl dX5_follow_3 ?_
  refine va_get (D := D) (ci := 2) (v := .ref h_mc) (C := RX3) (T := TX3) (N := 10) hx hb hts i_X5_follow_X3 hown hE.1 hP 6 rfl rfl 1 (by decide) (hts _ q_X5_follow_2) (fun _ h9 => h9) rfl dX5_follow_6 ?_
  refine lv_iconst (v := (0 : Int32)) hx hb dX5_follow_9 (by decide) ?_
  refine lv_bipush (v := (8 : Int32)) hx hb dX5_follow_10 (by decide) ?_
  obtain ⟨g_1, h⟩ := x_gd h
  refine va_copyi hx hb (hml.trans hl.1.symm) hown (hts _ q_X5_follow_4) (hts _ q_X5_follow_5) (hts _ q_X5_follow_6) (hts _ q_X5_follow_7) hE.1 hP hD hS 4 7 0 0 rfl rfl rfl rfl rfl g_1.1 g_1.2.1 g_1.2.2.1 g_1.2.2.2.1 g_1.2.2.2.2 (fun _ _ => rfl) (by decide) (by decide +kernel) dX5_follow_12 (fun H locs hP hD hS => ?_)
  have hP : va_P D vwCl [(h_p, .inr (3, [.ref h_po, .ref h_pf, .ref h_ps, .int v_p_length])), (h_po, .inl (cI, 20, .inl v_po)), (h_pf, .inl (cI, 20, .inl v_pf)), (h_ps, .inl (cI, 20, .inl v_ps)), (h_st, .inl (cI, 8, .inl v_st)), (h_t, .inr (4, [.ref h_m, .ref h_tc, .ref h_tn, .ref h_tt, .ref h_tr, .ref h_tw])), (h_m, .inr (2, [.ref h_p, .ref h_mc, .ref h_mr, .int v_m_rowLength, .int v_m_next, .int v_m_tick, .int v_m_ending, .int v_m_readNow, .int v_m_writtenNow, .int v_m_writtenSince])), (h_mc, .inl (cI, 8, .inl (va_cpy v_st v_mc ((0 : Int32).toNatClampNeg) ((0 : Int32).toNatClampNeg) ((8 : Int32).toNatClampNeg)))), (h_mr, .inl (cI, 12, .inl v_mr)), (h_tc, .inl (cI, 800, .inl v_tc)), (h_tn, .inl (cI, 100, .inl v_tn)), (h_tt, .inl (cI, 100, .inl v_tt)), (h_tr, .inl (cI, 100, .inl v_tr)), (h_tw, .inl (cI, 100, .inl v_tw))] H := hP
  have hD : va_D A [(h_p, .inr (3, [.ref h_po, .ref h_pf, .ref h_ps, .int v_p_length])), (h_po, .inl (cI, 20, .inl v_po)), (h_pf, .inl (cI, 20, .inl v_pf)), (h_ps, .inl (cI, 20, .inl v_ps)), (h_st, .inl (cI, 8, .inl v_st)), (h_t, .inr (4, [.ref h_m, .ref h_tc, .ref h_tn, .ref h_tt, .ref h_tr, .ref h_tw])), (h_m, .inr (2, [.ref h_p, .ref h_mc, .ref h_mr, .int v_m_rowLength, .int v_m_next, .int v_m_tick, .int v_m_ending, .int v_m_readNow, .int v_m_writtenNow, .int v_m_writtenSince])), (h_mc, .inl (cI, 8, .inl (va_cpy v_st v_mc ((0 : Int32).toNatClampNeg) ((0 : Int32).toNatClampNeg) ((8 : Int32).toNatClampNeg)))), (h_mr, .inl (cI, 12, .inl v_mr)), (h_tc, .inl (cI, 800, .inl v_tc)), (h_tn, .inl (cI, 100, .inl v_tn)), (h_tt, .inl (cI, 100, .inl v_tt)), (h_tr, .inl (cI, 100, .inl v_tr)), (h_tw, .inl (cI, 100, .inl v_tw))] := hD
  refine lv_aload_n hx hb dX5_follow_15 rfl (lv_at hl 0 rfl) ?_
  refine va_get (D := D) (ci := 4) (v := .ref h_m) (C := RX5) (T := TX5) (N := 6) hx hb hts i_X5_follow_X5 hown hE.1 hP 5 rfl rfl 0 (by decide) (hts _ q_X5_follow_0) (fun _ h9 => h9) rfl dX5_follow_16 ?_
  refine lv_iconst (v := (0 : Int32)) hx hb dX5_follow_19 (by decide) ?_
  refine lv_iconst (v := (0 : Int32)) hx hb dX5_follow_20 (by decide) ?_
  refine lv_iconst (v := (0 : Int32)) hx hb dX5_follow_21 (by decide) ?_
  obtain ⟨t_2, hc, h⟩ := x_b h
  refine c_V (q0 := 1) (ci := 2) (na := 3) (rest := []) (st1 := []) (Wr := [(h_po, .inl (cI, 20, .inl v_po)), (h_pf, .inl (cI, 20, .inl v_pf)), (h_ps, .inl (cI, 20, .inl v_ps)), (h_st, .inl (cI, 8, .inl v_st)), (h_t, .inr (4, [.ref h_m, .ref h_tc, .ref h_tn, .ref h_tt, .ref h_tr, .ref h_tw])), (h_mc, .inl (cI, 8, .inl (va_cpy v_st v_mc ((0 : Int32).toNatClampNeg) ((0 : Int32).toNatClampNeg) ((8 : Int32).toNatClampNeg)))), (h_mr, .inl (cI, 12, .inl v_mr)), (h_tc, .inl (cI, 800, .inl v_tc)), (h_tn, .inl (cI, 100, .inl v_tn)), (h_tt, .inl (cI, 100, .inl v_tt)), (h_tr, .inl (cI, 100, .inl v_tr)), (h_tw, .inl (cI, 100, .inl v_tw))]) (Wn := [(h_p, .inr (3, [.ref h_po, .ref h_pf, .ref h_ps, .int v_p_length])), (h_po, .inl (cI, 20, .inl v_po)), (h_pf, .inl (cI, 20, .inl v_pf)), (h_ps, .inl (cI, 20, .inl v_ps)), (h_st, .inl (cI, 8, .inl v_st)), (h_t, .inr (4, [.ref h_m, .ref h_tc, .ref h_tn, .ref h_tt, .ref h_tr, .ref h_tw])), (h_m, .inr (2, [.ref h_p, .ref h_mc, .ref h_mr, .int t_2.1, .int t_2.2.1, .int t_2.2.2.1, .int t_2.2.2.2.1, .int v_m_readNow, .int v_m_writtenNow, .int t_2.2.2.2.2])), (h_mc, .inl (cI, 8, .inl (va_cpy v_st v_mc ((0 : Int32).toNatClampNeg) ((0 : Int32).toNatClampNeg) ((8 : Int32).toNatClampNeg)))), (h_mr, .inl (cI, 12, .inl v_mr)), (h_tc, .inl (cI, 800, .inl v_tc)), (h_tn, .inl (cI, 100, .inl v_tn)), (h_tt, .inl (cI, 100, .inl v_tt)), (h_tr, .inl (cI, 100, .inl v_tr)), (h_tw, .inl (cI, 100, .inl v_tw))]) X hP hD hS hl.1 (m_X3_standAt l D cI pt h_p h_po h_pf h_ps h_m h_mc h_mr v_p_length v_m_rowLength v_m_next v_m_tick v_m_ending v_m_readNow v_m_writtenNow v_m_writtenSince (0 : Int32) (0 : Int32) (0 : Int32) fu _ hc) gX5_follow_X3_standAt rfl ⟨rfl, rfl⟩ rfl (by decide +kernel) ⟨Nat.le_of_ble_eq_true rfl, Nat.le_of_ble_eq_true rfl⟩ rfl rfl [0, 6] [1, 2, 3, 4, 5, 7, 8, 9, 10, 11, 12, 13] [12, 0, 1, 2, 3, 4, 13, 5, 6, 7, 8, 9, 10, 11] rfl rfl rfl rfl rfl (by decide) rfl rfl (Nat.le_of_ble_eq_true rfl) dX5_follow_22 ⟨Nat.zero_le _, Nat.zero_le _⟩ rfl rfl (fun H locs hP hD hS => ?_)
  refine lv_iconst (v := (0 : Int32)) hx hb dX5_follow_25 (by decide) ?_
  refine lv_istore_n (lv' := [(2, .int (0 : Int32)), (0, .ref h_t), (1, .ref h_st)]) hx hb dX5_follow_26 rfl hl (by decide) rfl (fun ls hl => ?_)
  refine tr_X5_follow_27 X h_p h_po h_pf h_ps h_st h_t h_m h_mc h_mr h_tc h_tn h_tt h_tr h_tw v_p_length v_po v_pf v_ps v_st  fu _ res ?_ fu t_2.1 t_2.2.1 t_2.2.2.1 t_2.2.2.2.1 v_m_readNow v_m_writtenNow t_2.2.2.2.2 (va_cpy v_st v_mc ((0 : Int32).toNatClampNeg) ((0 : Int32).toNatClampNeg) ((8 : Int32).toNatClampNeg)) v_mr v_tc v_tn v_tt v_tr v_tw (0 : Int32) h _ _ _ hP hD hS (lv_sub hl [1, 0] rfl)
  · intro e27_130_m_rowLength e27_130_m_next e27_130_m_tick e27_130_m_ending e27_130_m_readNow e27_130_m_writtenNow e27_130_m_writtenSince e27_130_mc e27_130_mr e27_130_tc e27_130_tn e27_130_tt e27_130_tr e27_130_tw h H locs ls hP hD hS hl
    refine lv_aload_n hx hb dX5_follow_130 rfl (lv_at hl 0 rfl) ?_
    refine va_get (D := D) (ci := 4) (v := .ref h_m) (C := RX5) (T := TX5) (N := 6) hx hb hts i_X5_follow_X5 hown hE.1 hP 5 rfl rfl 0 (by decide) (hts _ q_X5_follow_0) (fun _ h9 => h9) rfl dX5_follow_131 ?_
    obtain ⟨t_11, hc, h⟩ := x_b h
    refine c_V (q0 := 0) (ci := 2) (na := 0) (rest := []) (st1 := []) (Wr := [(h_p, .inr (3, [.ref h_po, .ref h_pf, .ref h_ps, .int v_p_length])), (h_po, .inl (cI, 20, .inl v_po)), (h_pf, .inl (cI, 20, .inl v_pf)), (h_ps, .inl (cI, 20, .inl v_ps)), (h_st, .inl (cI, 8, .inl v_st)), (h_t, .inr (4, [.ref h_m, .ref h_tc, .ref h_tn, .ref h_tt, .ref h_tr, .ref h_tw])), (h_mc, .inl (cI, 8, .inl e27_130_mc)), (h_mr, .inl (cI, 12, .inl e27_130_mr)), (h_tc, .inl (cI, 800, .inl e27_130_tc)), (h_tn, .inl (cI, 100, .inl e27_130_tn)), (h_tt, .inl (cI, 100, .inl e27_130_tt)), (h_tr, .inl (cI, 100, .inl e27_130_tr)), (h_tw, .inl (cI, 100, .inl e27_130_tw))]) (Wn := [(h_p, .inr (3, [.ref h_po, .ref h_pf, .ref h_ps, .int v_p_length])), (h_po, .inl (cI, 20, .inl v_po)), (h_pf, .inl (cI, 20, .inl v_pf)), (h_ps, .inl (cI, 20, .inl v_ps)), (h_st, .inl (cI, 8, .inl v_st)), (h_t, .inr (4, [.ref h_m, .ref h_tc, .ref h_tn, .ref h_tt, .ref h_tr, .ref h_tw])), (h_m, .inr (2, [.ref h_p, .ref h_mc, .ref h_mr, .int e27_130_m_rowLength, .int e27_130_m_next, .int e27_130_m_tick, .int t_11, .int e27_130_m_readNow, .int e27_130_m_writtenNow, .int e27_130_m_writtenSince])), (h_mc, .inl (cI, 8, .inl e27_130_mc)), (h_mr, .inl (cI, 12, .inl e27_130_mr)), (h_tc, .inl (cI, 800, .inl e27_130_tc)), (h_tn, .inl (cI, 100, .inl e27_130_tn)), (h_tt, .inl (cI, 100, .inl e27_130_tt)), (h_tr, .inl (cI, 100, .inl e27_130_tr)), (h_tw, .inl (cI, 100, .inl e27_130_tw))]) X hP hD hS hl.1 (m_X3_stopIfGoing l D cI pt h_p h_m h_mc h_mr e27_130_m_rowLength e27_130_m_next e27_130_m_tick e27_130_m_ending e27_130_m_readNow e27_130_m_writtenNow e27_130_m_writtenSince  fu _ hc) gX5_follow_X3_stopIfGoing rfl ⟨rfl, rfl⟩ rfl (by decide +kernel) ⟨Nat.le_of_ble_eq_true rfl, Nat.le_of_ble_eq_true rfl⟩ rfl rfl [6] [0, 1, 2, 3, 4, 5, 7, 8, 9, 10, 11, 12, 13] [0, 1, 2, 3, 4, 5, 13, 6, 7, 8, 9, 10, 11, 12] rfl rfl rfl rfl rfl (by decide) rfl rfl (Nat.le_of_ble_eq_true rfl) dX5_follow_134 ⟨Nat.zero_le _, Nat.zero_le _⟩ rfl rfl (fun H locs hP hD hS => ?_)
    cases h
    exact r_v X hP hD hS rfl dX5_follow_137

theorem q_X5_lead_0 : (.fieldLink RX5 9 "StruckBits$Trace" "cellsAhead" "[I" : Cond) ∈ wsX5_lead := by decide +kernel
theorem i_X5_lead_X5 : ∀ w ∈ u_ws RX5 TX5 6, w ∈ wsX5_lead := by decide +kernel
theorem q_X5_lead_2 : (.fieldLink RX5 36 "StruckBits$Machine" "cells" "[I" : Cond) ∈ wsX5_lead := by decide +kernel
theorem i_X5_lead_X3 : ∀ w ∈ u_ws RX3 TX3 10, w ∈ wsX5_lead := by decide +kernel
theorem q_X5_lead_4 : (.methodLink RX5 39 arraycopyName : Cond) ∈ wsX5_lead := by decide +kernel
theorem q_X5_lead_5 : (.native arraycopyName : Cond) ∈ wsX5_lead := by decide +kernel
theorem q_X5_lead_6 : (.static arraycopyName : Cond) ∈ wsX5_lead := by decide +kernel
theorem q_X5_lead_7 : (.initialized "java/lang/System" : Cond) ∈ wsX5_lead := by decide +kernel
theorem q_X5_lead_8 : (.fieldLink RX5 32 "StruckBits$Trace" "plain" "LStruckBits$Machine;" : Cond) ∈ wsX5_lead := by decide +kernel
theorem q_X5_lead_9 : (.fieldLink RX5 71 "StruckBits$Machine" "row" "[I" : Cond) ∈ wsX5_lead := by decide +kernel
theorem q_X5_lead_10 : (.fieldLink RX5 18 "StruckBits$Trace" "toldAhead" "[I" : Cond) ∈ wsX5_lead := by decide +kernel
theorem q_X5_lead_11 : (.fieldLink RX5 15 "StruckBits$Trace" "nextAhead" "[I" : Cond) ∈ wsX5_lead := by decide +kernel
set_option maxHeartbeats 4000000 in
set_option maxRecDepth 100000 in
theorem m_X5_lead (l : Launch) (D : va_G) (cI : ClassId) (pt : Nat) (h_p h_po h_pf h_ps h_t h_m h_mc h_mr h_tc h_tn h_tt h_tr h_tw h_k h_kc h_kr : Nat) (v_p_length : Int32) (v_m_rowLength : Int32) (v_m_next : Int32) (v_m_tick : Int32) (v_m_ending : Int32) (v_m_readNow : Int32) (v_m_writtenNow : Int32) (v_m_writtenSince : Int32) (v_mr : Nat → Int32) (v_tc : Nat → Int32) (v_tn : Nat → Int32) (v_tt : Nat → Int32) (v_k_rowLength : Int32) (v_k_next : Int32) (v_k_tick : Int32) (v_k_ending : Int32) (v_k_readNow : Int32) (v_k_writtenNow : Int32) (v_k_writtenSince : Int32) (v_kc : Nat → Int32) (v_kr : Nat → Int32) (a1 : Int32) (fu : Nat) (res : Int32 × Int32 × Int32 × Int32 × Int32 × (Nat → Int32) × (Nat → Int32)) (h : f_X5_lead fu v_p_length v_mr v_tc v_tn v_tt v_k_rowLength v_k_next v_k_tick v_k_ending v_k_writtenSince v_kc v_kr a1 = some res) :
    MT l D cI pt yX5_lead wsX5_lead ({ frames := 2, cells := 0, slots := 0, locals := 44 } : Room) [.ref h_t, .ref h_k, .int a1] [(h_p, .inr (3, [.ref h_po, .ref h_pf, .ref h_ps, .int v_p_length])), (h_t, .inr (4, [.ref h_m, .ref h_tc, .ref h_tn, .ref h_tt, .ref h_tr, .ref h_tw])), (h_m, .inr (2, [.ref h_p, .ref h_mc, .ref h_mr, .int v_m_rowLength, .int v_m_next, .int v_m_tick, .int v_m_ending, .int v_m_readNow, .int v_m_writtenNow, .int v_m_writtenSince])), (h_mr, .inl (cI, 12, .inl v_mr)), (h_tc, .inl (cI, 800, .inl v_tc)), (h_tn, .inl (cI, 100, .inl v_tn)), (h_tt, .inl (cI, 100, .inl v_tt)), (h_k, .inr (2, [.ref h_p, .ref h_kc, .ref h_kr, .int v_k_rowLength, .int v_k_next, .int v_k_tick, .int v_k_ending, .int v_k_readNow, .int v_k_writtenNow, .int v_k_writtenSince])), (h_kc, .inl (cI, 8, .inl v_kc)), (h_kr, .inl (cI, 12, .inl v_kr))] none [(h_p, .inr (3, [.ref h_po, .ref h_pf, .ref h_ps, .int v_p_length])), (h_t, .inr (4, [.ref h_m, .ref h_tc, .ref h_tn, .ref h_tt, .ref h_tr, .ref h_tw])), (h_m, .inr (2, [.ref h_p, .ref h_mc, .ref h_mr, .int v_m_rowLength, .int v_m_next, .int v_m_tick, .int v_m_ending, .int v_m_readNow, .int v_m_writtenNow, .int v_m_writtenSince])), (h_mr, .inl (cI, 12, .inl v_mr)), (h_tc, .inl (cI, 800, .inl v_tc)), (h_tn, .inl (cI, 100, .inl v_tn)), (h_tt, .inl (cI, 100, .inl v_tt)), (h_k, .inr (2, [.ref h_p, .ref h_kc, .ref h_kr, .int res.1, .int res.2.1, .int res.2.2.1, .int res.2.2.2.1, .int v_k_readNow, .int v_k_writtenNow, .int res.2.2.2.2.1])), (h_kc, .inl (cI, 8, .inl res.2.2.2.2.2.1)), (h_kr, .inl (cI, 12, .inl res.2.2.2.2.2.2))] := by
  refine MT.mk (cc := cX5_lead) (maxL := 3) (ret := none) (own := RX5) (by decide) rfl rfl (Nat.le_of_ble_eq_true rfl) rfl ?_
  intro p e s m args below meth c A ls X hP hD hS hl
  obtain ⟨hx, hb, hml, hown, hts, hr, hlk, hE, hH, hA⟩ := id X
  have hl : lv_has ls 3 [(0, .ref h_t), (1, .ref h_k), (2, .int a1)] := hl
  unfold f_X5_lead at h
  refine lv_aload_n hx hb dX5_lead_0 rfl (lv_at hl 0 rfl) ?_
  refine va_get (D := D) (ci := 4) (v := .ref h_tc) (C := RX5) (T := TX5) (N := 6) hx hb hts i_X5_lead_X5 hown hE.1 hP 1 rfl rfl 1 (by decide) (hts _ q_X5_lead_0) (fun _ h9 => h9) rfl dX5_lead_1 ?_
  refine lv_iload_n hx hb dX5_lead_4 rfl (lv_at hl 2 rfl) ?_
  refine lv_bipush (v := (8 : Int32)) hx hb dX5_lead_5 (by decide) ?_
  refine lv_imul hx hb dX5_lead_7 ?_
  refine lv_aload_n hx hb dX5_lead_8 rfl (lv_at hl 1 rfl) ?_
  refine va_get (D := D) (ci := 2) (v := .ref h_kc) (C := RX3) (T := TX3) (N := 10) hx hb hts i_X5_lead_X3 hown hE.1 hP 7 rfl rfl 1 (by decide) (hts _ q_X5_lead_2) (fun _ h9 => h9) rfl dX5_lead_9 ?_
  refine lv_iconst (v := (0 : Int32)) hx hb dX5_lead_12 (by decide) ?_
  refine lv_bipush (v := (8 : Int32)) hx hb dX5_lead_13 (by decide) ?_
  obtain ⟨g_1, h⟩ := x_gd h
  refine va_copyi hx hb (hml.trans hl.1.symm) hown (hts _ q_X5_lead_4) (hts _ q_X5_lead_5) (hts _ q_X5_lead_6) (hts _ q_X5_lead_7) hE.1 hP hD hS 4 8 0 0 rfl rfl rfl rfl rfl g_1.1 g_1.2.1 g_1.2.2.1 g_1.2.2.2.1 g_1.2.2.2.2 (fun _ _ => rfl) (by decide) (by decide +kernel) dX5_lead_15 (fun H locs hP hD hS => ?_)
  have hP : va_P D vwCl [(h_p, .inr (3, [.ref h_po, .ref h_pf, .ref h_ps, .int v_p_length])), (h_t, .inr (4, [.ref h_m, .ref h_tc, .ref h_tn, .ref h_tt, .ref h_tr, .ref h_tw])), (h_m, .inr (2, [.ref h_p, .ref h_mc, .ref h_mr, .int v_m_rowLength, .int v_m_next, .int v_m_tick, .int v_m_ending, .int v_m_readNow, .int v_m_writtenNow, .int v_m_writtenSince])), (h_mr, .inl (cI, 12, .inl v_mr)), (h_tc, .inl (cI, 800, .inl v_tc)), (h_tn, .inl (cI, 100, .inl v_tn)), (h_tt, .inl (cI, 100, .inl v_tt)), (h_k, .inr (2, [.ref h_p, .ref h_kc, .ref h_kr, .int v_k_rowLength, .int v_k_next, .int v_k_tick, .int v_k_ending, .int v_k_readNow, .int v_k_writtenNow, .int v_k_writtenSince])), (h_kc, .inl (cI, 8, .inl (va_cpy v_tc v_kc ((a1 * (8 : Int32)).toNatClampNeg) ((0 : Int32).toNatClampNeg) ((8 : Int32).toNatClampNeg)))), (h_kr, .inl (cI, 12, .inl v_kr))] H := hP
  have hD : va_D A [(h_p, .inr (3, [.ref h_po, .ref h_pf, .ref h_ps, .int v_p_length])), (h_t, .inr (4, [.ref h_m, .ref h_tc, .ref h_tn, .ref h_tt, .ref h_tr, .ref h_tw])), (h_m, .inr (2, [.ref h_p, .ref h_mc, .ref h_mr, .int v_m_rowLength, .int v_m_next, .int v_m_tick, .int v_m_ending, .int v_m_readNow, .int v_m_writtenNow, .int v_m_writtenSince])), (h_mr, .inl (cI, 12, .inl v_mr)), (h_tc, .inl (cI, 800, .inl v_tc)), (h_tn, .inl (cI, 100, .inl v_tn)), (h_tt, .inl (cI, 100, .inl v_tt)), (h_k, .inr (2, [.ref h_p, .ref h_kc, .ref h_kr, .int v_k_rowLength, .int v_k_next, .int v_k_tick, .int v_k_ending, .int v_k_readNow, .int v_k_writtenNow, .int v_k_writtenSince])), (h_kc, .inl (cI, 8, .inl (va_cpy v_tc v_kc ((a1 * (8 : Int32)).toNatClampNeg) ((0 : Int32).toNatClampNeg) ((8 : Int32).toNatClampNeg)))), (h_kr, .inl (cI, 12, .inl v_kr))] := hD
  refine lv_aload_n hx hb dX5_lead_18 rfl (lv_at hl 0 rfl) ?_
  refine va_get (D := D) (ci := 4) (v := .ref h_m) (C := RX5) (T := TX5) (N := 6) hx hb hts i_X5_lead_X5 hown hE.1 hP 1 rfl rfl 0 (by decide) (hts _ q_X5_lead_8) (fun _ h9 => h9) rfl dX5_lead_19 ?_
  refine va_get (D := D) (ci := 2) (v := .ref h_mr) (C := RX3) (T := TX3) (N := 10) hx hb hts i_X5_lead_X3 hown hE.1 hP 2 rfl rfl 2 (by decide) (hts _ q_X5_lead_9) (fun _ h9 => h9) rfl dX5_lead_22 ?_
  refine lv_iconst (v := (0 : Int32)) hx hb dX5_lead_25 (by decide) ?_
  refine lv_aload_n hx hb dX5_lead_26 rfl (lv_at hl 1 rfl) ?_
  refine va_get (D := D) (ci := 2) (v := .ref h_kr) (C := RX3) (T := TX3) (N := 10) hx hb hts i_X5_lead_X3 hown hE.1 hP 7 rfl rfl 2 (by decide) (hts _ q_X5_lead_9) (fun _ h9 => h9) rfl dX5_lead_27 ?_
  refine lv_iconst (v := (0 : Int32)) hx hb dX5_lead_30 (by decide) ?_
  refine lv_aload_n hx hb dX5_lead_31 rfl (lv_at hl 0 rfl) ?_
  refine va_get (D := D) (ci := 4) (v := .ref h_tt) (C := RX5) (T := TX5) (N := 6) hx hb hts i_X5_lead_X5 hown hE.1 hP 1 rfl rfl 3 (by decide) (hts _ q_X5_lead_10) (fun _ h9 => h9) rfl dX5_lead_32 ?_
  refine lv_iload_n hx hb dX5_lead_35 rfl (lv_at hl 2 rfl) ?_
  obtain ⟨g_2, h⟩ := x_gd h
  refine va_iald hx hb hE.1 hP 6 0 rfl rfl g_2 dX5_lead_36 ?_
  obtain ⟨g_3, h⟩ := x_gd h
  refine va_copyi hx hb (hml.trans hl.1.symm) hown (hts _ q_X5_lead_4) (hts _ q_X5_lead_5) (hts _ q_X5_lead_6) (hts _ q_X5_lead_7) hE.1 hP hD hS 3 9 0 0 rfl rfl rfl rfl rfl g_3.1 g_3.2.1 g_3.2.2.1 g_3.2.2.2.1 g_3.2.2.2.2 (fun _ _ => rfl) (by decide) (by decide +kernel) dX5_lead_37 (fun H locs hP hD hS => ?_)
  have hP : va_P D vwCl [(h_p, .inr (3, [.ref h_po, .ref h_pf, .ref h_ps, .int v_p_length])), (h_t, .inr (4, [.ref h_m, .ref h_tc, .ref h_tn, .ref h_tt, .ref h_tr, .ref h_tw])), (h_m, .inr (2, [.ref h_p, .ref h_mc, .ref h_mr, .int v_m_rowLength, .int v_m_next, .int v_m_tick, .int v_m_ending, .int v_m_readNow, .int v_m_writtenNow, .int v_m_writtenSince])), (h_mr, .inl (cI, 12, .inl v_mr)), (h_tc, .inl (cI, 800, .inl v_tc)), (h_tn, .inl (cI, 100, .inl v_tn)), (h_tt, .inl (cI, 100, .inl v_tt)), (h_k, .inr (2, [.ref h_p, .ref h_kc, .ref h_kr, .int v_k_rowLength, .int v_k_next, .int v_k_tick, .int v_k_ending, .int v_k_readNow, .int v_k_writtenNow, .int v_k_writtenSince])), (h_kc, .inl (cI, 8, .inl (va_cpy v_tc v_kc ((a1 * (8 : Int32)).toNatClampNeg) ((0 : Int32).toNatClampNeg) ((8 : Int32).toNatClampNeg)))), (h_kr, .inl (cI, 12, .inl (va_cpy v_mr v_kr ((0 : Int32).toNatClampNeg) ((0 : Int32).toNatClampNeg) ((v_tt a1.toNatClampNeg).toNatClampNeg))))] H := hP
  have hD : va_D A [(h_p, .inr (3, [.ref h_po, .ref h_pf, .ref h_ps, .int v_p_length])), (h_t, .inr (4, [.ref h_m, .ref h_tc, .ref h_tn, .ref h_tt, .ref h_tr, .ref h_tw])), (h_m, .inr (2, [.ref h_p, .ref h_mc, .ref h_mr, .int v_m_rowLength, .int v_m_next, .int v_m_tick, .int v_m_ending, .int v_m_readNow, .int v_m_writtenNow, .int v_m_writtenSince])), (h_mr, .inl (cI, 12, .inl v_mr)), (h_tc, .inl (cI, 800, .inl v_tc)), (h_tn, .inl (cI, 100, .inl v_tn)), (h_tt, .inl (cI, 100, .inl v_tt)), (h_k, .inr (2, [.ref h_p, .ref h_kc, .ref h_kr, .int v_k_rowLength, .int v_k_next, .int v_k_tick, .int v_k_ending, .int v_k_readNow, .int v_k_writtenNow, .int v_k_writtenSince])), (h_kc, .inl (cI, 8, .inl (va_cpy v_tc v_kc ((a1 * (8 : Int32)).toNatClampNeg) ((0 : Int32).toNatClampNeg) ((8 : Int32).toNatClampNeg)))), (h_kr, .inl (cI, 12, .inl (va_cpy v_mr v_kr ((0 : Int32).toNatClampNeg) ((0 : Int32).toNatClampNeg) ((v_tt a1.toNatClampNeg).toNatClampNeg))))] := hD
  refine lv_aload_n hx hb dX5_lead_40 rfl (lv_at hl 1 rfl) ?_
  refine lv_iload_n hx hb dX5_lead_41 rfl (lv_at hl 2 rfl) ?_
  refine lv_aload_n hx hb dX5_lead_42 rfl (lv_at hl 0 rfl) ?_
  refine va_get (D := D) (ci := 4) (v := .ref h_tn) (C := RX5) (T := TX5) (N := 6) hx hb hts i_X5_lead_X5 hown hE.1 hP 1 rfl rfl 2 (by decide) (hts _ q_X5_lead_11) (fun _ h9 => h9) rfl dX5_lead_43 ?_
  refine lv_iload_n hx hb dX5_lead_46 rfl (lv_at hl 2 rfl) ?_
  obtain ⟨g_4, h⟩ := x_gd h
  refine va_iald hx hb hE.1 hP 5 0 rfl rfl g_4 dX5_lead_47 ?_
  refine lv_aload_n hx hb dX5_lead_48 rfl (lv_at hl 0 rfl) ?_
  refine va_get (D := D) (ci := 4) (v := .ref h_tt) (C := RX5) (T := TX5) (N := 6) hx hb hts i_X5_lead_X5 hown hE.1 hP 1 rfl rfl 3 (by decide) (hts _ q_X5_lead_10) (fun _ h9 => h9) rfl dX5_lead_49 ?_
  refine lv_iload_n hx hb dX5_lead_52 rfl (lv_at hl 2 rfl) ?_
  obtain ⟨g_5, h⟩ := x_gd h
  refine va_iald hx hb hE.1 hP 6 0 rfl rfl g_5 dX5_lead_53 ?_
  obtain ⟨t_6, hc, h⟩ := x_b h
  refine c_V (q0 := 1) (ci := 2) (na := 3) (rest := []) (st1 := []) (Wr := [(h_t, .inr (4, [.ref h_m, .ref h_tc, .ref h_tn, .ref h_tt, .ref h_tr, .ref h_tw])), (h_m, .inr (2, [.ref h_p, .ref h_mc, .ref h_mr, .int v_m_rowLength, .int v_m_next, .int v_m_tick, .int v_m_ending, .int v_m_readNow, .int v_m_writtenNow, .int v_m_writtenSince])), (h_mr, .inl (cI, 12, .inl v_mr)), (h_tc, .inl (cI, 800, .inl v_tc)), (h_tn, .inl (cI, 100, .inl v_tn)), (h_tt, .inl (cI, 100, .inl v_tt)), (h_kc, .inl (cI, 8, .inl (va_cpy v_tc v_kc ((a1 * (8 : Int32)).toNatClampNeg) ((0 : Int32).toNatClampNeg) ((8 : Int32).toNatClampNeg)))), (h_kr, .inl (cI, 12, .inl (va_cpy v_mr v_kr ((0 : Int32).toNatClampNeg) ((0 : Int32).toNatClampNeg) ((v_tt a1.toNatClampNeg).toNatClampNeg))))]) (Wn := [(h_p, .inr (3, [.ref h_po, .ref h_pf, .ref h_ps, .int v_p_length])), (h_t, .inr (4, [.ref h_m, .ref h_tc, .ref h_tn, .ref h_tt, .ref h_tr, .ref h_tw])), (h_m, .inr (2, [.ref h_p, .ref h_mc, .ref h_mr, .int v_m_rowLength, .int v_m_next, .int v_m_tick, .int v_m_ending, .int v_m_readNow, .int v_m_writtenNow, .int v_m_writtenSince])), (h_mr, .inl (cI, 12, .inl v_mr)), (h_tc, .inl (cI, 800, .inl v_tc)), (h_tn, .inl (cI, 100, .inl v_tn)), (h_tt, .inl (cI, 100, .inl v_tt)), (h_k, .inr (2, [.ref h_p, .ref h_kc, .ref h_kr, .int t_6.1, .int t_6.2.1, .int t_6.2.2.1, .int t_6.2.2.2.1, .int v_k_readNow, .int v_k_writtenNow, .int t_6.2.2.2.2])), (h_kc, .inl (cI, 8, .inl (va_cpy v_tc v_kc ((a1 * (8 : Int32)).toNatClampNeg) ((0 : Int32).toNatClampNeg) ((8 : Int32).toNatClampNeg)))), (h_kr, .inl (cI, 12, .inl (va_cpy v_mr v_kr ((0 : Int32).toNatClampNeg) ((0 : Int32).toNatClampNeg) ((v_tt a1.toNatClampNeg).toNatClampNeg))))]) X hP hD hS hl.1 (m_X3_standAt l D cI pt h_p h_po h_pf h_ps h_k h_kc h_kr v_p_length v_k_rowLength v_k_next v_k_tick v_k_ending v_k_readNow v_k_writtenNow v_k_writtenSince a1 (v_tn a1.toNatClampNeg) (v_tt a1.toNatClampNeg) fu _ hc) gX5_lead_X3_standAt rfl ⟨rfl, rfl⟩ rfl (by decide +kernel) ⟨Nat.le_of_ble_eq_true rfl, Nat.le_of_ble_eq_true rfl⟩ rfl rfl [0, 7] [1, 2, 3, 4, 5, 6, 8, 9] [8, 0, 1, 2, 3, 4, 5, 9, 6, 7] rfl rfl rfl rfl rfl (by decide) rfl rfl (Nat.le_of_ble_eq_true rfl) dX5_lead_54 ⟨Nat.zero_le _, Nat.zero_le _⟩ rfl rfl (fun H locs hP hD hS => ?_)
  cases h
  exact r_v X hP hD hS rfl dX5_lead_57
