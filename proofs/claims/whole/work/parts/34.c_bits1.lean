set_option maxHeartbeats 4000000 in
set_option maxRecDepth 100000 in
theorem m_X6_isWidth (l : Launch) (D : va_G) (cI : ClassId) (pt : Nat)   (a0 : Int32) (fu : Nat) (res : Int32) (h : f_X6_isWidth fu  a0 = some res) :
    MT l D cI pt yX6_isWidth wsX6_isWidth ({ frames := 0, cells := 0, slots := 0, locals := 0 } : Room) [.int a0] [] (some (.int res)) [] := by
  refine MT.mk (cc := cX6_isWidth) (maxL := 1) (ret := (some .boolean)) (own := RX6) (by decide) rfl rfl (Nat.le_of_ble_eq_true rfl) rfl ?_
  intro p e s m args below meth c A ls X hP hD hS hl
  obtain ⟨hx, hb, hml, hown, hts, hr, hlk, hE, hH, hA⟩ := id X
  have hl : lv_has ls 1 [(0, .int a0)] := hl
  unfold f_X6_isWidth at h
  refine lv_iload_n hx hb dX6_isWidth_0 rfl (lv_at hl 0 rfl) ?_
  refine lv_iconst (v := (1 : Int32)) hx hb dX6_isWidth_1 (by decide) ?_
  refine lv_icmp_eq (tgt := 10) hx hb dX6_isWidth_2 (by decide) (fun c_1 => ?_) (fun c_1 => ?_)
  · have h := x_p c_1 h
    refine lv_iconst (v := (1 : Int32)) hx hb dX6_isWidth_10 (by decide) ?_
    refine lv_goto (tgt := 15) hx hb dX6_isWidth_11 (by decide) ?_
    cases h
    exact r_z X hP hD hS rfl (Or.inr rfl) dX6_isWidth_15
  · have h := x_n c_1 h
    refine lv_iload_n hx hb dX6_isWidth_5 rfl (lv_at hl 0 rfl) ?_
    refine lv_iconst (v := (2 : Int32)) hx hb dX6_isWidth_6 (by decide) ?_
    refine lv_icmp_ne (tgt := 14) hx hb dX6_isWidth_7 (by decide) (fun c_2 => ?_) (fun c_2 => ?_)
    · have h := x_n c_2 h
      refine lv_iconst (v := (0 : Int32)) hx hb dX6_isWidth_14 (by decide) ?_
      cases h
      exact r_z X hP hD hS rfl (Or.inl rfl) dX6_isWidth_15
    · have h := x_p c_2 h
      refine lv_iconst (v := (1 : Int32)) hx hb dX6_isWidth_10 (by decide) ?_
      refine lv_goto (tgt := 15) hx hb dX6_isWidth_11 (by decide) ?_
      cases h
      exact r_z X hP hD hS rfl (Or.inr rfl) dX6_isWidth_15

theorem q_X6_plainRun_0 : (.fieldLink RX6 48 "StruckBits" "stale" "Z" : Cond) ∈ wsX6_plainRun := by decide +kernel
theorem i_X6_plainRun_X6 : ∀ w ∈ u_ws RX6 TX6 8, w ∈ wsX6_plainRun := by decide +kernel
theorem q_X6_plainRun_2 : (.fieldLink RX6 28 "StruckBits" "trace" "LStruckBits$Trace;" : Cond) ∈ wsX6_plainRun := by decide +kernel
theorem q_X6_plainRun_3 : (.fieldLink RX6 199 "StruckBits$Trace" "plain" "LStruckBits$Machine;" : Cond) ∈ wsX6_plainRun := by decide +kernel
theorem i_X6_plainRun_X5 : ∀ w ∈ u_ws RX5 TX5 6, w ∈ wsX6_plainRun := by decide +kernel
theorem q_X6_plainRun_5 : (.fieldLink RX6 16 "StruckBits" "start" "[I" : Cond) ∈ wsX6_plainRun := by decide +kernel
theorem q_X6_plainRun_6 : (.fieldLink RX6 37 "StruckBits" "flips" "LStruckBits$Flips;" : Cond) ∈ wsX6_plainRun := by decide +kernel
set_option maxHeartbeats 4000000 in
set_option maxRecDepth 100000 in
theorem m_X6_plainRun (l : Launch) (D : va_G) (cI : ClassId) (pt : Nat) (h_x h_p h_po h_pf h_ps h_st h_ck h_t h_m h_mc h_mr h_tc h_tn h_tt h_tr h_tw h_l h_k h_lf h_ls h_a : Nat) (v_x_stale : Int32) (v_x_searches : Int32) (v_p_length : Int32) (v_po : Nat → Int32) (v_pf : Nat → Int32) (v_ps : Nat → Int32) (v_st : Nat → Int32) (v_m_rowLength : Int32) (v_m_next : Int32) (v_m_tick : Int32) (v_m_ending : Int32) (v_m_readNow : Int32) (v_m_writtenNow : Int32) (v_m_writtenSince : Int32) (v_mc : Nat → Int32) (v_mr : Nat → Int32) (v_tc : Nat → Int32) (v_tn : Nat → Int32) (v_tt : Nat → Int32) (v_tr : Nat → Int32) (v_tw : Nat → Int32) (v_l_width : Int32)  (fu : Nat) (res : Int32 × Int32 × Int32 × Int32 × Int32 × Int32 × Int32 × Int32 × (Nat → Int32) × (Nat → Int32) × (Nat → Int32) × (Nat → Int32) × (Nat → Int32) × (Nat → Int32) × (Nat → Int32) × Int32) (h : f_X6_plainRun fu v_x_stale v_p_length v_po v_pf v_ps v_st v_m_rowLength v_m_next v_m_tick v_m_ending v_m_readNow v_m_writtenNow v_m_writtenSince v_mc v_mr v_tc v_tn v_tt v_tr v_tw v_l_width  = some res) :
    MT l D cI pt yX6_plainRun wsX6_plainRun ({ frames := 4, cells := 0, slots := 0, locals := 91 } : Room) [.ref h_x] [(h_x, .inr (5, [.ref h_p, .ref h_st, .ref h_ck, .ref h_t, .ref h_l, .ref h_a, .int v_x_stale, .int v_x_searches])), (h_p, .inr (3, [.ref h_po, .ref h_pf, .ref h_ps, .int v_p_length])), (h_po, .inl (cI, 20, .inl v_po)), (h_pf, .inl (cI, 20, .inl v_pf)), (h_ps, .inl (cI, 20, .inl v_ps)), (h_st, .inl (cI, 8, .inl v_st)), (h_t, .inr (4, [.ref h_m, .ref h_tc, .ref h_tn, .ref h_tt, .ref h_tr, .ref h_tw])), (h_m, .inr (2, [.ref h_p, .ref h_mc, .ref h_mr, .int v_m_rowLength, .int v_m_next, .int v_m_tick, .int v_m_ending, .int v_m_readNow, .int v_m_writtenNow, .int v_m_writtenSince])), (h_mc, .inl (cI, 8, .inl v_mc)), (h_mr, .inl (cI, 12, .inl v_mr)), (h_tc, .inl (cI, 800, .inl v_tc)), (h_tn, .inl (cI, 100, .inl v_tn)), (h_tt, .inl (cI, 100, .inl v_tt)), (h_tr, .inl (cI, 100, .inl v_tr)), (h_tw, .inl (cI, 100, .inl v_tw)), (h_l, .inr (1, [.ref h_t, .ref h_k, .ref h_lf, .ref h_ls, .int v_l_width]))] (some (.ref h_m)) [(h_x, .inr (5, [.ref h_p, .ref h_st, .ref h_ck, .ref h_t, .ref h_l, .ref h_a, .int res.1, .int v_x_searches])), (h_p, .inr (3, [.ref h_po, .ref h_pf, .ref h_ps, .int v_p_length])), (h_po, .inl (cI, 20, .inl v_po)), (h_pf, .inl (cI, 20, .inl v_pf)), (h_ps, .inl (cI, 20, .inl v_ps)), (h_st, .inl (cI, 8, .inl v_st)), (h_t, .inr (4, [.ref h_m, .ref h_tc, .ref h_tn, .ref h_tt, .ref h_tr, .ref h_tw])), (h_m, .inr (2, [.ref h_p, .ref h_mc, .ref h_mr, .int res.2.1, .int res.2.2.1, .int res.2.2.2.1, .int res.2.2.2.2.1, .int res.2.2.2.2.2.1, .int res.2.2.2.2.2.2.1, .int res.2.2.2.2.2.2.2.1])), (h_mc, .inl (cI, 8, .inl res.2.2.2.2.2.2.2.2.1)), (h_mr, .inl (cI, 12, .inl res.2.2.2.2.2.2.2.2.2.1)), (h_tc, .inl (cI, 800, .inl res.2.2.2.2.2.2.2.2.2.2.1)), (h_tn, .inl (cI, 100, .inl res.2.2.2.2.2.2.2.2.2.2.2.1)), (h_tt, .inl (cI, 100, .inl res.2.2.2.2.2.2.2.2.2.2.2.2.1)), (h_tr, .inl (cI, 100, .inl res.2.2.2.2.2.2.2.2.2.2.2.2.2.1)), (h_tw, .inl (cI, 100, .inl res.2.2.2.2.2.2.2.2.2.2.2.2.2.2.1)), (h_l, .inr (1, [.ref h_t, .ref h_k, .ref h_lf, .ref h_ls, .int res.2.2.2.2.2.2.2.2.2.2.2.2.2.2.2]))] := by
  refine MT.mk (cc := cX6_plainRun) (maxL := 1) (ret := (some (.object "StruckBits$Machine"))) (own := RX6) (by decide) rfl rfl (Nat.le_of_ble_eq_true rfl) rfl ?_
  intro p e s m args below meth c A ls X hP hD hS hl
  obtain ⟨hx, hb, hml, hown, hts, hr, hlk, hE, hH, hA⟩ := id X
  have hl : lv_has ls 1 [(0, .ref h_x)] := hl
  unfold f_X6_plainRun at h
  refine lv_aload_n hx hb dX6_plainRun_0 rfl (lv_at hl 0 rfl) ?_
  refine va_get (D := D) (ci := 5) (v := .int v_x_stale) (C := RX6) (T := TX6) (N := 8) hx hb hts i_X6_plainRun_X6 hown hE.1 hP 0 rfl rfl 6 (by decide) (hts _ q_X6_plainRun_0) (fun _ h9 => h9) rfl dX6_plainRun_1 ?_
  refine lv_if_eq (tgt := 30) hx hb dX6_plainRun_4 (by decide) (fun c_1 => ?_) (fun c_1 => ?_)
  · have h := x_p c_1 h
    refine lv_aload_n hx hb dX6_plainRun_30 rfl (lv_at hl 0 rfl) ?_
    refine va_get (D := D) (ci := 5) (v := .ref h_t) (C := RX6) (T := TX6) (N := 8) hx hb hts i_X6_plainRun_X6 hown hE.1 hP 0 rfl rfl 3 (by decide) (hts _ q_X6_plainRun_2) (fun _ h9 => h9) rfl dX6_plainRun_31 ?_
    refine va_get (D := D) (ci := 4) (v := .ref h_m) (C := RX5) (T := TX5) (N := 6) hx hb hts i_X6_plainRun_X5 hown hE.1 hP 6 rfl rfl 0 (by decide) (hts _ q_X6_plainRun_3) (fun _ h9 => h9) rfl dX6_plainRun_34 ?_
    cases h
    exact r_a X hP hD hS rfl dX6_plainRun_37
  · have h := x_n c_1 h
    refine lv_aload_n hx hb dX6_plainRun_7 rfl (lv_at hl 0 rfl) ?_
    refine va_get (D := D) (ci := 5) (v := .ref h_t) (C := RX6) (T := TX6) (N := 8) hx hb hts i_X6_plainRun_X6 hown hE.1 hP 0 rfl rfl 3 (by decide) (hts _ q_X6_plainRun_2) (fun _ h9 => h9) rfl dX6_plainRun_8 ?_
    refine lv_aload_n hx hb dX6_plainRun_11 rfl (lv_at hl 0 rfl) ?_
    refine va_get (D := D) (ci := 5) (v := .ref h_st) (C := RX6) (T := TX6) (N := 8) hx hb hts i_X6_plainRun_X6 hown hE.1 hP 0 rfl rfl 1 (by decide) (hts _ q_X6_plainRun_5) (fun _ h9 => h9) rfl dX6_plainRun_12 ?_
    obtain ⟨t_2, hc, h⟩ := x_b h
    refine c_V (q0 := 5) (ci := 4) (na := 1) (rest := []) (st1 := []) (Wr := [(h_x, .inr (5, [.ref h_p, .ref h_st, .ref h_ck, .ref h_t, .ref h_l, .ref h_a, .int v_x_stale, .int v_x_searches])), (h_l, .inr (1, [.ref h_t, .ref h_k, .ref h_lf, .ref h_ls, .int v_l_width]))]) (Wn := [(h_x, .inr (5, [.ref h_p, .ref h_st, .ref h_ck, .ref h_t, .ref h_l, .ref h_a, .int v_x_stale, .int v_x_searches])), (h_p, .inr (3, [.ref h_po, .ref h_pf, .ref h_ps, .int v_p_length])), (h_po, .inl (cI, 20, .inl v_po)), (h_pf, .inl (cI, 20, .inl v_pf)), (h_ps, .inl (cI, 20, .inl v_ps)), (h_st, .inl (cI, 8, .inl v_st)), (h_t, .inr (4, [.ref h_m, .ref h_tc, .ref h_tn, .ref h_tt, .ref h_tr, .ref h_tw])), (h_m, .inr (2, [.ref h_p, .ref h_mc, .ref h_mr, .int t_2.1, .int t_2.2.1, .int t_2.2.2.1, .int t_2.2.2.2.1, .int t_2.2.2.2.2.1, .int t_2.2.2.2.2.2.1, .int t_2.2.2.2.2.2.2.1])), (h_mc, .inl (cI, 8, .inl t_2.2.2.2.2.2.2.2.1)), (h_mr, .inl (cI, 12, .inl t_2.2.2.2.2.2.2.2.2.1)), (h_tc, .inl (cI, 800, .inl t_2.2.2.2.2.2.2.2.2.2.1)), (h_tn, .inl (cI, 100, .inl t_2.2.2.2.2.2.2.2.2.2.2.1)), (h_tt, .inl (cI, 100, .inl t_2.2.2.2.2.2.2.2.2.2.2.2.1)), (h_tr, .inl (cI, 100, .inl t_2.2.2.2.2.2.2.2.2.2.2.2.2.1)), (h_tw, .inl (cI, 100, .inl t_2.2.2.2.2.2.2.2.2.2.2.2.2.2)), (h_l, .inr (1, [.ref h_t, .ref h_k, .ref h_lf, .ref h_ls, .int v_l_width]))]) X hP hD hS hl.1 (m_X5_follow l D cI pt h_p h_po h_pf h_ps h_st h_t h_m h_mc h_mr h_tc h_tn h_tt h_tr h_tw v_p_length v_po v_pf v_ps v_st v_m_rowLength v_m_next v_m_tick v_m_ending v_m_readNow v_m_writtenNow v_m_writtenSince v_mc v_mr v_tc v_tn v_tt v_tr v_tw  fu _ hc) gX6_plainRun_X5_follow rfl ⟨rfl, rfl⟩ rfl (by decide +kernel) ⟨Nat.le_of_ble_eq_true rfl, Nat.le_of_ble_eq_true rfl⟩ rfl rfl [1, 2, 3, 4, 5, 6, 7, 8, 9, 10, 11, 12, 13, 14] [0, 15] [0, 2, 3, 4, 5, 6, 7, 8, 9, 10, 11, 12, 13, 14, 15, 1] rfl rfl rfl rfl rfl (by decide) rfl rfl (Nat.le_of_ble_eq_true rfl) dX6_plainRun_15 ⟨Nat.zero_le _, Nat.zero_le _⟩ rfl rfl (fun H locs hP hD hS => ?_)
    refine lv_aload_n hx hb dX6_plainRun_18 rfl (lv_at hl 0 rfl) ?_
    refine va_get (D := D) (ci := 5) (v := .ref h_l) (C := RX6) (T := TX6) (N := 8) hx hb hts i_X6_plainRun_X6 hown hE.1 hP 0 rfl rfl 4 (by decide) (hts _ q_X6_plainRun_6) (fun _ h9 => h9) rfl dX6_plainRun_19 ?_
    obtain ⟨t_3, hc, h⟩ := x_b h
    refine c_V (q0 := 0) (ci := 1) (na := 0) (rest := []) (st1 := []) (Wr := [(h_x, .inr (5, [.ref h_p, .ref h_st, .ref h_ck, .ref h_t, .ref h_l, .ref h_a, .int v_x_stale, .int v_x_searches])), (h_p, .inr (3, [.ref h_po, .ref h_pf, .ref h_ps, .int v_p_length])), (h_po, .inl (cI, 20, .inl v_po)), (h_pf, .inl (cI, 20, .inl v_pf)), (h_ps, .inl (cI, 20, .inl v_ps)), (h_st, .inl (cI, 8, .inl v_st)), (h_t, .inr (4, [.ref h_m, .ref h_tc, .ref h_tn, .ref h_tt, .ref h_tr, .ref h_tw])), (h_m, .inr (2, [.ref h_p, .ref h_mc, .ref h_mr, .int t_2.1, .int t_2.2.1, .int t_2.2.2.1, .int t_2.2.2.2.1, .int t_2.2.2.2.2.1, .int t_2.2.2.2.2.2.1, .int t_2.2.2.2.2.2.2.1])), (h_mc, .inl (cI, 8, .inl t_2.2.2.2.2.2.2.2.1)), (h_mr, .inl (cI, 12, .inl t_2.2.2.2.2.2.2.2.2.1)), (h_tc, .inl (cI, 800, .inl t_2.2.2.2.2.2.2.2.2.2.1)), (h_tn, .inl (cI, 100, .inl t_2.2.2.2.2.2.2.2.2.2.2.1)), (h_tt, .inl (cI, 100, .inl t_2.2.2.2.2.2.2.2.2.2.2.2.1)), (h_tr, .inl (cI, 100, .inl t_2.2.2.2.2.2.2.2.2.2.2.2.2.1)), (h_tw, .inl (cI, 100, .inl t_2.2.2.2.2.2.2.2.2.2.2.2.2.2))]) (Wn := [(h_x, .inr (5, [.ref h_p, .ref h_st, .ref h_ck, .ref h_t, .ref h_l, .ref h_a, .int v_x_stale, .int v_x_searches])), (h_p, .inr (3, [.ref h_po, .ref h_pf, .ref h_ps, .int v_p_length])), (h_po, .inl (cI, 20, .inl v_po)), (h_pf, .inl (cI, 20, .inl v_pf)), (h_ps, .inl (cI, 20, .inl v_ps)), (h_st, .inl (cI, 8, .inl v_st)), (h_t, .inr (4, [.ref h_m, .ref h_tc, .ref h_tn, .ref h_tt, .ref h_tr, .ref h_tw])), (h_m, .inr (2, [.ref h_p, .ref h_mc, .ref h_mr, .int t_2.1, .int t_2.2.1, .int t_2.2.2.1, .int t_2.2.2.2.1, .int t_2.2.2.2.2.1, .int t_2.2.2.2.2.2.1, .int t_2.2.2.2.2.2.2.1])), (h_mc, .inl (cI, 8, .inl t_2.2.2.2.2.2.2.2.1)), (h_mr, .inl (cI, 12, .inl t_2.2.2.2.2.2.2.2.2.1)), (h_tc, .inl (cI, 800, .inl t_2.2.2.2.2.2.2.2.2.2.1)), (h_tn, .inl (cI, 100, .inl t_2.2.2.2.2.2.2.2.2.2.2.1)), (h_tt, .inl (cI, 100, .inl t_2.2.2.2.2.2.2.2.2.2.2.2.1)), (h_tr, .inl (cI, 100, .inl t_2.2.2.2.2.2.2.2.2.2.2.2.2.1)), (h_tw, .inl (cI, 100, .inl t_2.2.2.2.2.2.2.2.2.2.2.2.2.2)), (h_l, .inr (1, [.ref h_t, .ref h_k, .ref h_lf, .ref h_ls, .int t_3]))]) X hP hD hS hl.1 (m_X2_forget l D cI pt h_t h_l h_k h_lf h_ls v_l_width  fu _ hc) gX6_plainRun_X2_forget rfl ⟨rfl, rfl⟩ rfl (by decide +kernel) ⟨Nat.le_of_ble_eq_true rfl, Nat.le_of_ble_eq_true rfl⟩ rfl rfl [15] [0, 1, 2, 3, 4, 5, 6, 7, 8, 9, 10, 11, 12, 13, 14] [0, 1, 2, 3, 4, 5, 6, 7, 8, 9, 10, 11, 12, 13, 14, 15] rfl rfl rfl rfl rfl (by decide) rfl rfl (Nat.le_of_ble_eq_true rfl) dX6_plainRun_22 ⟨Nat.zero_le _, Nat.zero_le _⟩ rfl rfl (fun H locs hP hD hS => ?_)
    refine lv_aload_n hx hb dX6_plainRun_25 rfl (lv_at hl 0 rfl) ?_
    refine lv_iconst (v := (0 : Int32)) hx hb dX6_plainRun_26 (by decide) ?_
    refine va_put (D := D) (ci := 5) (v := .int (0 : Int32)) (ty := .boolean) (C := RX6) (T := TX6) (N := 8) hx hb hts i_X6_plainRun_X6 tyX6 tyX6_ok nmX6 hown hE.1 hP hD hS 0 rfl rfl 6 (by decide) (hts _ q_X6_plainRun_0) (fun _ h9 => h9) rfl (by decide +kernel) rfl rfl (Nat.le_of_ble_eq_true rfl) dX6_plainRun_27 (fun H locs hP hD hS => ?_)
    have hP : va_P D vwCl [(h_x, .inr (5, [.ref h_p, .ref h_st, .ref h_ck, .ref h_t, .ref h_l, .ref h_a, .int (0 : Int32), .int v_x_searches])), (h_p, .inr (3, [.ref h_po, .ref h_pf, .ref h_ps, .int v_p_length])), (h_po, .inl (cI, 20, .inl v_po)), (h_pf, .inl (cI, 20, .inl v_pf)), (h_ps, .inl (cI, 20, .inl v_ps)), (h_st, .inl (cI, 8, .inl v_st)), (h_t, .inr (4, [.ref h_m, .ref h_tc, .ref h_tn, .ref h_tt, .ref h_tr, .ref h_tw])), (h_m, .inr (2, [.ref h_p, .ref h_mc, .ref h_mr, .int t_2.1, .int t_2.2.1, .int t_2.2.2.1, .int t_2.2.2.2.1, .int t_2.2.2.2.2.1, .int t_2.2.2.2.2.2.1, .int t_2.2.2.2.2.2.2.1])), (h_mc, .inl (cI, 8, .inl t_2.2.2.2.2.2.2.2.1)), (h_mr, .inl (cI, 12, .inl t_2.2.2.2.2.2.2.2.2.1)), (h_tc, .inl (cI, 800, .inl t_2.2.2.2.2.2.2.2.2.2.1)), (h_tn, .inl (cI, 100, .inl t_2.2.2.2.2.2.2.2.2.2.2.1)), (h_tt, .inl (cI, 100, .inl t_2.2.2.2.2.2.2.2.2.2.2.2.1)), (h_tr, .inl (cI, 100, .inl t_2.2.2.2.2.2.2.2.2.2.2.2.2.1)), (h_tw, .inl (cI, 100, .inl t_2.2.2.2.2.2.2.2.2.2.2.2.2.2)), (h_l, .inr (1, [.ref h_t, .ref h_k, .ref h_lf, .ref h_ls, .int t_3]))] H := hP
    have hD : va_D A [(h_x, .inr (5, [.ref h_p, .ref h_st, .ref h_ck, .ref h_t, .ref h_l, .ref h_a, .int (0 : Int32), .int v_x_searches])), (h_p, .inr (3, [.ref h_po, .ref h_pf, .ref h_ps, .int v_p_length])), (h_po, .inl (cI, 20, .inl v_po)), (h_pf, .inl (cI, 20, .inl v_pf)), (h_ps, .inl (cI, 20, .inl v_ps)), (h_st, .inl (cI, 8, .inl v_st)), (h_t, .inr (4, [.ref h_m, .ref h_tc, .ref h_tn, .ref h_tt, .ref h_tr, .ref h_tw])), (h_m, .inr (2, [.ref h_p, .ref h_mc, .ref h_mr, .int t_2.1, .int t_2.2.1, .int t_2.2.2.1, .int t_2.2.2.2.1, .int t_2.2.2.2.2.1, .int t_2.2.2.2.2.2.1, .int t_2.2.2.2.2.2.2.1])), (h_mc, .inl (cI, 8, .inl t_2.2.2.2.2.2.2.2.1)), (h_mr, .inl (cI, 12, .inl t_2.2.2.2.2.2.2.2.2.1)), (h_tc, .inl (cI, 800, .inl t_2.2.2.2.2.2.2.2.2.2.1)), (h_tn, .inl (cI, 100, .inl t_2.2.2.2.2.2.2.2.2.2.2.1)), (h_tt, .inl (cI, 100, .inl t_2.2.2.2.2.2.2.2.2.2.2.2.1)), (h_tr, .inl (cI, 100, .inl t_2.2.2.2.2.2.2.2.2.2.2.2.2.1)), (h_tw, .inl (cI, 100, .inl t_2.2.2.2.2.2.2.2.2.2.2.2.2.2)), (h_l, .inr (1, [.ref h_t, .ref h_k, .ref h_lf, .ref h_ls, .int t_3]))] := hD
    refine lv_aload_n hx hb dX6_plainRun_30 rfl (lv_at hl 0 rfl) ?_
    refine va_get (D := D) (ci := 5) (v := .ref h_t) (C := RX6) (T := TX6) (N := 8) hx hb hts i_X6_plainRun_X6 hown hE.1 hP 0 rfl rfl 3 (by decide) (hts _ q_X6_plainRun_2) (fun _ h9 => h9) rfl dX6_plainRun_31 ?_
    refine va_get (D := D) (ci := 4) (v := .ref h_m) (C := RX5) (T := TX5) (N := 6) hx hb hts i_X6_plainRun_X5 hown hE.1 hP 6 rfl rfl 0 (by decide) (hts _ q_X6_plainRun_3) (fun _ h9 => h9) rfl dX6_plainRun_34 ?_
    cases h
    exact r_a X hP hD hS rfl dX6_plainRun_37

theorem q_X6_refusalOfTick_0 : (.fieldLink RX6 75 "StruckBits$Machine" "ending" "I" : Cond) ∈ wsX6_refusalOfTick := by decide +kernel
theorem i_X6_refusalOfTick_X3 : ∀ w ∈ u_ws RX3 TX3 10, w ∈ wsX6_refusalOfTick := by decide +kernel
theorem q_X6_refusalOfTick_2 : (.fieldLink RX6 80 "StruckBits$Machine" "tick" "I" : Cond) ∈ wsX6_refusalOfTick := by decide +kernel
set_option maxHeartbeats 4000000 in
set_option maxRecDepth 100000 in
theorem m_X6_refusalOfTick (l : Launch) (D : va_G) (cI : ClassId) (pt : Nat) (h_x h_p h_po h_pf h_ps h_st h_ck h_t h_m h_mc h_mr h_tc h_tn h_tt h_tr h_tw h_l h_k h_lf h_ls h_a : Nat) (v_x_stale : Int32) (v_x_searches : Int32) (v_p_length : Int32) (v_po : Nat → Int32) (v_pf : Nat → Int32) (v_ps : Nat → Int32) (v_st : Nat → Int32) (v_m_rowLength : Int32) (v_m_next : Int32) (v_m_tick : Int32) (v_m_ending : Int32) (v_m_readNow : Int32) (v_m_writtenNow : Int32) (v_m_writtenSince : Int32) (v_mc : Nat → Int32) (v_mr : Nat → Int32) (v_tc : Nat → Int32) (v_tn : Nat → Int32) (v_tt : Nat → Int32) (v_tr : Nat → Int32) (v_tw : Nat → Int32) (v_l_width : Int32) (a0 : Int32) (fu : Nat) (res : Int32 × Int32 × Int32 × Int32 × Int32 × Int32 × Int32 × Int32 × Int32 × (Nat → Int32) × (Nat → Int32) × (Nat → Int32) × (Nat → Int32) × (Nat → Int32) × (Nat → Int32) × (Nat → Int32) × Int32) (h : f_X6_refusalOfTick fu v_x_stale v_p_length v_po v_pf v_ps v_st v_m_rowLength v_m_next v_m_tick v_m_ending v_m_readNow v_m_writtenNow v_m_writtenSince v_mc v_mr v_tc v_tn v_tt v_tr v_tw v_l_width a0 = some res) :
    MT l D cI pt yX6_refusalOfTick wsX6_refusalOfTick ({ frames := 5, cells := 0, slots := 0, locals := 111 } : Room) [.ref h_x, .int a0] [(h_x, .inr (5, [.ref h_p, .ref h_st, .ref h_ck, .ref h_t, .ref h_l, .ref h_a, .int v_x_stale, .int v_x_searches])), (h_p, .inr (3, [.ref h_po, .ref h_pf, .ref h_ps, .int v_p_length])), (h_po, .inl (cI, 20, .inl v_po)), (h_pf, .inl (cI, 20, .inl v_pf)), (h_ps, .inl (cI, 20, .inl v_ps)), (h_st, .inl (cI, 8, .inl v_st)), (h_t, .inr (4, [.ref h_m, .ref h_tc, .ref h_tn, .ref h_tt, .ref h_tr, .ref h_tw])), (h_m, .inr (2, [.ref h_p, .ref h_mc, .ref h_mr, .int v_m_rowLength, .int v_m_next, .int v_m_tick, .int v_m_ending, .int v_m_readNow, .int v_m_writtenNow, .int v_m_writtenSince])), (h_mc, .inl (cI, 8, .inl v_mc)), (h_mr, .inl (cI, 12, .inl v_mr)), (h_tc, .inl (cI, 800, .inl v_tc)), (h_tn, .inl (cI, 100, .inl v_tn)), (h_tt, .inl (cI, 100, .inl v_tt)), (h_tr, .inl (cI, 100, .inl v_tr)), (h_tw, .inl (cI, 100, .inl v_tw)), (h_l, .inr (1, [.ref h_t, .ref h_k, .ref h_lf, .ref h_ls, .int v_l_width]))] (some (.int res.1)) [(h_x, .inr (5, [.ref h_p, .ref h_st, .ref h_ck, .ref h_t, .ref h_l, .ref h_a, .int res.2.1, .int v_x_searches])), (h_p, .inr (3, [.ref h_po, .ref h_pf, .ref h_ps, .int v_p_length])), (h_po, .inl (cI, 20, .inl v_po)), (h_pf, .inl (cI, 20, .inl v_pf)), (h_ps, .inl (cI, 20, .inl v_ps)), (h_st, .inl (cI, 8, .inl v_st)), (h_t, .inr (4, [.ref h_m, .ref h_tc, .ref h_tn, .ref h_tt, .ref h_tr, .ref h_tw])), (h_m, .inr (2, [.ref h_p, .ref h_mc, .ref h_mr, .int res.2.2.1, .int res.2.2.2.1, .int res.2.2.2.2.1, .int res.2.2.2.2.2.1, .int res.2.2.2.2.2.2.1, .int res.2.2.2.2.2.2.2.1, .int res.2.2.2.2.2.2.2.2.1])), (h_mc, .inl (cI, 8, .inl res.2.2.2.2.2.2.2.2.2.1)), (h_mr, .inl (cI, 12, .inl res.2.2.2.2.2.2.2.2.2.2.1)), (h_tc, .inl (cI, 800, .inl res.2.2.2.2.2.2.2.2.2.2.2.1)), (h_tn, .inl (cI, 100, .inl res.2.2.2.2.2.2.2.2.2.2.2.2.1)), (h_tt, .inl (cI, 100, .inl res.2.2.2.2.2.2.2.2.2.2.2.2.2.1)), (h_tr, .inl (cI, 100, .inl res.2.2.2.2.2.2.2.2.2.2.2.2.2.2.1)), (h_tw, .inl (cI, 100, .inl res.2.2.2.2.2.2.2.2.2.2.2.2.2.2.2.1)), (h_l, .inr (1, [.ref h_t, .ref h_k, .ref h_lf, .ref h_ls, .int res.2.2.2.2.2.2.2.2.2.2.2.2.2.2.2.2]))] := by
  refine MT.mk (cc := cX6_refusalOfTick) (maxL := 3) (ret := (some .int)) (own := RX6) (by decide) rfl rfl (Nat.le_of_ble_eq_true rfl) rfl ?_
  intro p e s m args below meth c A ls X hP hD hS hl
  obtain ⟨hx, hb, hml, hown, hts, hr, hlk, hE, hH, hA⟩ := id X
  have hl : lv_has ls 3 [(0, .ref h_x), (1, .int a0)] := hl
  unfold f_X6_refusalOfTick at h
  refine lv_aload_n hx hb dX6_refusalOfTick_0 rfl (lv_at hl 0 rfl) ?_
  obtain ⟨t_1, hc, h⟩ := x_b h
  refine c_V (q0 := 0) (ci := 5) (na := 0) (rest := []) (st1 := [.ref h_m]) (Wr := []) (Wn := [(h_x, .inr (5, [.ref h_p, .ref h_st, .ref h_ck, .ref h_t, .ref h_l, .ref h_a, .int t_1.1, .int v_x_searches])), (h_p, .inr (3, [.ref h_po, .ref h_pf, .ref h_ps, .int v_p_length])), (h_po, .inl (cI, 20, .inl v_po)), (h_pf, .inl (cI, 20, .inl v_pf)), (h_ps, .inl (cI, 20, .inl v_ps)), (h_st, .inl (cI, 8, .inl v_st)), (h_t, .inr (4, [.ref h_m, .ref h_tc, .ref h_tn, .ref h_tt, .ref h_tr, .ref h_tw])), (h_m, .inr (2, [.ref h_p, .ref h_mc, .ref h_mr, .int t_1.2.1, .int t_1.2.2.1, .int t_1.2.2.2.1, .int t_1.2.2.2.2.1, .int t_1.2.2.2.2.2.1, .int t_1.2.2.2.2.2.2.1, .int t_1.2.2.2.2.2.2.2.1])), (h_mc, .inl (cI, 8, .inl t_1.2.2.2.2.2.2.2.2.1)), (h_mr, .inl (cI, 12, .inl t_1.2.2.2.2.2.2.2.2.2.1)), (h_tc, .inl (cI, 800, .inl t_1.2.2.2.2.2.2.2.2.2.2.1)), (h_tn, .inl (cI, 100, .inl t_1.2.2.2.2.2.2.2.2.2.2.2.1)), (h_tt, .inl (cI, 100, .inl t_1.2.2.2.2.2.2.2.2.2.2.2.2.1)), (h_tr, .inl (cI, 100, .inl t_1.2.2.2.2.2.2.2.2.2.2.2.2.2.1)), (h_tw, .inl (cI, 100, .inl t_1.2.2.2.2.2.2.2.2.2.2.2.2.2.2.1)), (h_l, .inr (1, [.ref h_t, .ref h_k, .ref h_lf, .ref h_ls, .int t_1.2.2.2.2.2.2.2.2.2.2.2.2.2.2.2]))]) X hP hD hS hl.1 (m_X6_plainRun l D cI pt h_x h_p h_po h_pf h_ps h_st h_ck h_t h_m h_mc h_mr h_tc h_tn h_tt h_tr h_tw h_l h_k h_lf h_ls h_a v_x_stale v_x_searches v_p_length v_po v_pf v_ps v_st v_m_rowLength v_m_next v_m_tick v_m_ending v_m_readNow v_m_writtenNow v_m_writtenSince v_mc v_mr v_tc v_tn v_tt v_tr v_tw v_l_width  fu _ hc) gX6_refusalOfTick_X6_plainRun rfl ⟨rfl, rfl⟩ rfl (by decide +kernel) ⟨Nat.le_of_ble_eq_true rfl, Nat.le_of_ble_eq_true rfl⟩ rfl rfl [0, 1, 2, 3, 4, 5, 6, 7, 8, 9, 10, 11, 12, 13, 14, 15] [] [0, 1, 2, 3, 4, 5, 6, 7, 8, 9, 10, 11, 12, 13, 14, 15] rfl rfl rfl rfl rfl (by decide) rfl rfl (Nat.le_of_ble_eq_true rfl) dX6_refusalOfTick_1 ⟨Nat.zero_le _, Nat.zero_le _⟩ rfl rfl (fun H locs hP hD hS => ?_)
  refine lv_astore_n (lv' := [(2, .ref h_m), (0, .ref h_x), (1, .int a0)]) hx hb dX6_refusalOfTick_4 rfl hl (by decide) rfl (fun ls hl => ?_)
  refine lv_aload_n hx hb dX6_refusalOfTick_5 rfl (lv_at hl 0 rfl) ?_
  refine va_get (D := D) (ci := 2) (v := .int t_1.2.2.2.2.1) (C := RX3) (T := TX3) (N := 10) hx hb hts i_X6_refusalOfTick_X3 hown hE.1 hP 7 rfl rfl 6 (by decide) (hts _ q_X6_refusalOfTick_0) (fun _ h9 => h9) rfl dX6_refusalOfTick_6 ?_
  refine lv_if_eq (tgt := 15) hx hb dX6_refusalOfTick_9 (by decide) (fun c_2 => ?_) (fun c_2 => ?_)
  · have h := x_p c_2 h
    refine lv_iload_n hx hb dX6_refusalOfTick_15 rfl (lv_at hl 2 rfl) ?_
    refine lv_if_lt (tgt := 27) hx hb dX6_refusalOfTick_16 (by decide) (fun c_3 => ?_) (fun c_3 => ?_)
    · have h := x_p c_3 h
      refine lv_bipush (v := (-102 : Int32)) hx hb dX6_refusalOfTick_27 (by decide) ?_
      refine lv_goto (tgt := 33) hx hb dX6_refusalOfTick_29 (by decide) ?_
      cases h
      exact r_i X hP hD hS rfl dX6_refusalOfTick_33
    · have h := x_n c_3 h
      refine lv_iload_n hx hb dX6_refusalOfTick_19 rfl (lv_at hl 2 rfl) ?_
      refine lv_aload_n hx hb dX6_refusalOfTick_20 rfl (lv_at hl 0 rfl) ?_
      refine va_get (D := D) (ci := 2) (v := .int t_1.2.2.2.1) (C := RX3) (T := TX3) (N := 10) hx hb hts i_X6_refusalOfTick_X3 hown hE.1 hP 7 rfl rfl 5 (by decide) (hts _ q_X6_refusalOfTick_2) (fun _ h9 => h9) rfl dX6_refusalOfTick_21 ?_
      refine lv_icmp_lt (tgt := 32) hx hb dX6_refusalOfTick_24 (by decide) (fun c_4 => ?_) (fun c_4 => ?_)
      · have h := x_p c_4 h
        refine lv_iconst (v := (0 : Int32)) hx hb dX6_refusalOfTick_32 (by decide) ?_
        cases h
        exact r_i X hP hD hS rfl dX6_refusalOfTick_33
      · have h := x_n c_4 h
        refine lv_bipush (v := (-102 : Int32)) hx hb dX6_refusalOfTick_27 (by decide) ?_
        refine lv_goto (tgt := 33) hx hb dX6_refusalOfTick_29 (by decide) ?_
        cases h
        exact r_i X hP hD hS rfl dX6_refusalOfTick_33
  · have h := x_n c_2 h
    refine lv_bipush (v := (-103 : Int32)) hx hb dX6_refusalOfTick_12 (by decide) ?_
    cases h
    exact r_i X hP hD hS rfl dX6_refusalOfTick_14

set_option maxHeartbeats 4000000 in
set_option maxRecDepth 100000 in
theorem m_X6_refusalOfFlip (l : Launch) (D : va_G) (cI : ClassId) (pt : Nat) (h_x h_p h_po h_pf h_ps h_st h_ck h_t h_m h_mc h_mr h_tc h_tn h_tt h_tr h_tw h_l h_k h_lf h_ls h_a : Nat) (v_x_stale : Int32) (v_x_searches : Int32) (v_p_length : Int32) (v_po : Nat → Int32) (v_pf : Nat → Int32) (v_ps : Nat → Int32) (v_st : Nat → Int32) (v_m_rowLength : Int32) (v_m_next : Int32) (v_m_tick : Int32) (v_m_ending : Int32) (v_m_readNow : Int32) (v_m_writtenNow : Int32) (v_m_writtenSince : Int32) (v_mc : Nat → Int32) (v_mr : Nat → Int32) (v_tc : Nat → Int32) (v_tn : Nat → Int32) (v_tt : Nat → Int32) (v_tr : Nat → Int32) (v_tw : Nat → Int32) (v_l_width : Int32) (a0 : Int32) (a1 : Int32) (a2 : Int32) (a3 : Int32) (fu : Nat) (res : Int32 × Int32 × Int32 × Int32 × Int32 × Int32 × Int32 × Int32 × Int32 × (Nat → Int32) × (Nat → Int32) × (Nat → Int32) × (Nat → Int32) × (Nat → Int32) × (Nat → Int32) × (Nat → Int32) × Int32) (h : f_X6_refusalOfFlip fu v_x_stale v_p_length v_po v_pf v_ps v_st v_m_rowLength v_m_next v_m_tick v_m_ending v_m_readNow v_m_writtenNow v_m_writtenSince v_mc v_mr v_tc v_tn v_tt v_tr v_tw v_l_width a0 a1 a2 a3 = some res) :
    MT l D cI pt yX6_refusalOfFlip wsX6_refusalOfFlip ({ frames := 6, cells := 0, slots := 0, locals := 133 } : Room) [.ref h_x, .int a0, .int a1, .int a2, .int a3] [(h_x, .inr (5, [.ref h_p, .ref h_st, .ref h_ck, .ref h_t, .ref h_l, .ref h_a, .int v_x_stale, .int v_x_searches])), (h_p, .inr (3, [.ref h_po, .ref h_pf, .ref h_ps, .int v_p_length])), (h_po, .inl (cI, 20, .inl v_po)), (h_pf, .inl (cI, 20, .inl v_pf)), (h_ps, .inl (cI, 20, .inl v_ps)), (h_st, .inl (cI, 8, .inl v_st)), (h_t, .inr (4, [.ref h_m, .ref h_tc, .ref h_tn, .ref h_tt, .ref h_tr, .ref h_tw])), (h_m, .inr (2, [.ref h_p, .ref h_mc, .ref h_mr, .int v_m_rowLength, .int v_m_next, .int v_m_tick, .int v_m_ending, .int v_m_readNow, .int v_m_writtenNow, .int v_m_writtenSince])), (h_mc, .inl (cI, 8, .inl v_mc)), (h_mr, .inl (cI, 12, .inl v_mr)), (h_tc, .inl (cI, 800, .inl v_tc)), (h_tn, .inl (cI, 100, .inl v_tn)), (h_tt, .inl (cI, 100, .inl v_tt)), (h_tr, .inl (cI, 100, .inl v_tr)), (h_tw, .inl (cI, 100, .inl v_tw)), (h_l, .inr (1, [.ref h_t, .ref h_k, .ref h_lf, .ref h_ls, .int v_l_width]))] (some (.int res.1)) [(h_x, .inr (5, [.ref h_p, .ref h_st, .ref h_ck, .ref h_t, .ref h_l, .ref h_a, .int res.2.1, .int v_x_searches])), (h_p, .inr (3, [.ref h_po, .ref h_pf, .ref h_ps, .int v_p_length])), (h_po, .inl (cI, 20, .inl v_po)), (h_pf, .inl (cI, 20, .inl v_pf)), (h_ps, .inl (cI, 20, .inl v_ps)), (h_st, .inl (cI, 8, .inl v_st)), (h_t, .inr (4, [.ref h_m, .ref h_tc, .ref h_tn, .ref h_tt, .ref h_tr, .ref h_tw])), (h_m, .inr (2, [.ref h_p, .ref h_mc, .ref h_mr, .int res.2.2.1, .int res.2.2.2.1, .int res.2.2.2.2.1, .int res.2.2.2.2.2.1, .int res.2.2.2.2.2.2.1, .int res.2.2.2.2.2.2.2.1, .int res.2.2.2.2.2.2.2.2.1])), (h_mc, .inl (cI, 8, .inl res.2.2.2.2.2.2.2.2.2.1)), (h_mr, .inl (cI, 12, .inl res.2.2.2.2.2.2.2.2.2.2.1)), (h_tc, .inl (cI, 800, .inl res.2.2.2.2.2.2.2.2.2.2.2.1)), (h_tn, .inl (cI, 100, .inl res.2.2.2.2.2.2.2.2.2.2.2.2.1)), (h_tt, .inl (cI, 100, .inl res.2.2.2.2.2.2.2.2.2.2.2.2.2.1)), (h_tr, .inl (cI, 100, .inl res.2.2.2.2.2.2.2.2.2.2.2.2.2.2.1)), (h_tw, .inl (cI, 100, .inl res.2.2.2.2.2.2.2.2.2.2.2.2.2.2.2.1)), (h_l, .inr (1, [.ref h_t, .ref h_k, .ref h_lf, .ref h_ls, .int res.2.2.2.2.2.2.2.2.2.2.2.2.2.2.2.2]))] := by
  refine MT.mk (cc := cX6_refusalOfFlip) (maxL := 5) (ret := (some .int)) (own := RX6) (by decide) rfl rfl (Nat.le_of_ble_eq_true rfl) rfl ?_
  intro p e s m args below meth c A ls X hP hD hS hl
  obtain ⟨hx, hb, hml, hown, hts, hr, hlk, hE, hH, hA⟩ := id X
  have hl : lv_has ls 5 [(0, .ref h_x), (1, .int a0), (2, .int a1), (3, .int a2), (4, .int a3)] := hl
  unfold f_X6_refusalOfFlip at h
  refine lv_iload_n hx hb dX6_refusalOfFlip_0 rfl (lv_at hl 1 rfl) ?_
  obtain ⟨t_1, hc, h⟩ := x_b h
  refine c_S (na := 1) (rest := []) (st1 := [.int t_1]) (Wr := [(h_x, .inr (5, [.ref h_p, .ref h_st, .ref h_ck, .ref h_t, .ref h_l, .ref h_a, .int v_x_stale, .int v_x_searches])), (h_p, .inr (3, [.ref h_po, .ref h_pf, .ref h_ps, .int v_p_length])), (h_po, .inl (cI, 20, .inl v_po)), (h_pf, .inl (cI, 20, .inl v_pf)), (h_ps, .inl (cI, 20, .inl v_ps)), (h_st, .inl (cI, 8, .inl v_st)), (h_t, .inr (4, [.ref h_m, .ref h_tc, .ref h_tn, .ref h_tt, .ref h_tr, .ref h_tw])), (h_m, .inr (2, [.ref h_p, .ref h_mc, .ref h_mr, .int v_m_rowLength, .int v_m_next, .int v_m_tick, .int v_m_ending, .int v_m_readNow, .int v_m_writtenNow, .int v_m_writtenSince])), (h_mc, .inl (cI, 8, .inl v_mc)), (h_mr, .inl (cI, 12, .inl v_mr)), (h_tc, .inl (cI, 800, .inl v_tc)), (h_tn, .inl (cI, 100, .inl v_tn)), (h_tt, .inl (cI, 100, .inl v_tt)), (h_tr, .inl (cI, 100, .inl v_tr)), (h_tw, .inl (cI, 100, .inl v_tw)), (h_l, .inr (1, [.ref h_t, .ref h_k, .ref h_lf, .ref h_ls, .int v_l_width]))]) (Wn := [(h_x, .inr (5, [.ref h_p, .ref h_st, .ref h_ck, .ref h_t, .ref h_l, .ref h_a, .int v_x_stale, .int v_x_searches])), (h_p, .inr (3, [.ref h_po, .ref h_pf, .ref h_ps, .int v_p_length])), (h_po, .inl (cI, 20, .inl v_po)), (h_pf, .inl (cI, 20, .inl v_pf)), (h_ps, .inl (cI, 20, .inl v_ps)), (h_st, .inl (cI, 8, .inl v_st)), (h_t, .inr (4, [.ref h_m, .ref h_tc, .ref h_tn, .ref h_tt, .ref h_tr, .ref h_tw])), (h_m, .inr (2, [.ref h_p, .ref h_mc, .ref h_mr, .int v_m_rowLength, .int v_m_next, .int v_m_tick, .int v_m_ending, .int v_m_readNow, .int v_m_writtenNow, .int v_m_writtenSince])), (h_mc, .inl (cI, 8, .inl v_mc)), (h_mr, .inl (cI, 12, .inl v_mr)), (h_tc, .inl (cI, 800, .inl v_tc)), (h_tn, .inl (cI, 100, .inl v_tn)), (h_tt, .inl (cI, 100, .inl v_tt)), (h_tr, .inl (cI, 100, .inl v_tr)), (h_tw, .inl (cI, 100, .inl v_tw)), (h_l, .inr (1, [.ref h_t, .ref h_k, .ref h_lf, .ref h_ls, .int v_l_width]))]) X hP hD hS hl.1 (m_X6_isCell l D cI pt   a0 fu _ hc) gX6_refusalOfFlip_X6_isCell rfl ⟨rfl, rfl⟩ rfl (by decide +kernel) ⟨Nat.le_of_ble_eq_true rfl, Nat.le_of_ble_eq_true rfl⟩ [] [0, 1, 2, 3, 4, 5, 6, 7, 8, 9, 10, 11, 12, 13, 14, 15] [0, 1, 2, 3, 4, 5, 6, 7, 8, 9, 10, 11, 12, 13, 14, 15] rfl rfl rfl rfl (by decide) rfl rfl (Nat.le_of_ble_eq_true rfl) dX6_refusalOfFlip_1 ⟨Nat.zero_le _, Nat.zero_le _⟩ rfl rfl (fun H locs hP hD hS => ?_)
  refine lv_if_ne (tgt := 10) hx hb dX6_refusalOfFlip_4 (by decide) (fun c_2 => ?_) (fun c_2 => ?_)
  · have h := x_n c_2 h
    refine lv_iload_n hx hb dX6_refusalOfFlip_10 rfl (lv_at hl 3 rfl) ?_
    obtain ⟨t_3, hc, h⟩ := x_b h
    refine c_S (na := 1) (rest := []) (st1 := [.int t_3]) (Wr := [(h_x, .inr (5, [.ref h_p, .ref h_st, .ref h_ck, .ref h_t, .ref h_l, .ref h_a, .int v_x_stale, .int v_x_searches])), (h_p, .inr (3, [.ref h_po, .ref h_pf, .ref h_ps, .int v_p_length])), (h_po, .inl (cI, 20, .inl v_po)), (h_pf, .inl (cI, 20, .inl v_pf)), (h_ps, .inl (cI, 20, .inl v_ps)), (h_st, .inl (cI, 8, .inl v_st)), (h_t, .inr (4, [.ref h_m, .ref h_tc, .ref h_tn, .ref h_tt, .ref h_tr, .ref h_tw])), (h_m, .inr (2, [.ref h_p, .ref h_mc, .ref h_mr, .int v_m_rowLength, .int v_m_next, .int v_m_tick, .int v_m_ending, .int v_m_readNow, .int v_m_writtenNow, .int v_m_writtenSince])), (h_mc, .inl (cI, 8, .inl v_mc)), (h_mr, .inl (cI, 12, .inl v_mr)), (h_tc, .inl (cI, 800, .inl v_tc)), (h_tn, .inl (cI, 100, .inl v_tn)), (h_tt, .inl (cI, 100, .inl v_tt)), (h_tr, .inl (cI, 100, .inl v_tr)), (h_tw, .inl (cI, 100, .inl v_tw)), (h_l, .inr (1, [.ref h_t, .ref h_k, .ref h_lf, .ref h_ls, .int v_l_width]))]) (Wn := [(h_x, .inr (5, [.ref h_p, .ref h_st, .ref h_ck, .ref h_t, .ref h_l, .ref h_a, .int v_x_stale, .int v_x_searches])), (h_p, .inr (3, [.ref h_po, .ref h_pf, .ref h_ps, .int v_p_length])), (h_po, .inl (cI, 20, .inl v_po)), (h_pf, .inl (cI, 20, .inl v_pf)), (h_ps, .inl (cI, 20, .inl v_ps)), (h_st, .inl (cI, 8, .inl v_st)), (h_t, .inr (4, [.ref h_m, .ref h_tc, .ref h_tn, .ref h_tt, .ref h_tr, .ref h_tw])), (h_m, .inr (2, [.ref h_p, .ref h_mc, .ref h_mr, .int v_m_rowLength, .int v_m_next, .int v_m_tick, .int v_m_ending, .int v_m_readNow, .int v_m_writtenNow, .int v_m_writtenSince])), (h_mc, .inl (cI, 8, .inl v_mc)), (h_mr, .inl (cI, 12, .inl v_mr)), (h_tc, .inl (cI, 800, .inl v_tc)), (h_tn, .inl (cI, 100, .inl v_tn)), (h_tt, .inl (cI, 100, .inl v_tt)), (h_tr, .inl (cI, 100, .inl v_tr)), (h_tw, .inl (cI, 100, .inl v_tw)), (h_l, .inr (1, [.ref h_t, .ref h_k, .ref h_lf, .ref h_ls, .int v_l_width]))]) X hP hD hS hl.1 (m_X6_isWidth l D cI pt   a2 fu _ hc) gX6_refusalOfFlip_X6_isWidth rfl ⟨rfl, rfl⟩ rfl (by decide +kernel) ⟨Nat.le_of_ble_eq_true rfl, Nat.le_of_ble_eq_true rfl⟩ [] [0, 1, 2, 3, 4, 5, 6, 7, 8, 9, 10, 11, 12, 13, 14, 15] [0, 1, 2, 3, 4, 5, 6, 7, 8, 9, 10, 11, 12, 13, 14, 15] rfl rfl rfl rfl (by decide) rfl rfl (Nat.le_of_ble_eq_true rfl) dX6_refusalOfFlip_11 ⟨Nat.zero_le _, Nat.zero_le _⟩ rfl rfl (fun H locs hP hD hS => ?_)
    refine lv_if_eq (tgt := 29) hx hb dX6_refusalOfFlip_14 (by decide) (fun c_4 => ?_) (fun c_4 => ?_)
    · have h := x_p c_4 h
      refine lv_bipush (v := (-102 : Int32)) hx hb dX6_refusalOfFlip_29 (by decide) ?_
      cases h
      exact r_i X hP hD hS rfl dX6_refusalOfFlip_31
    · have h := x_n c_4 h
      refine lv_iload_n hx hb dX6_refusalOfFlip_17 rfl (lv_at hl 2 rfl) ?_
      refine lv_if_lt (tgt := 29) hx hb dX6_refusalOfFlip_18 (by decide) (fun c_5 => ?_) (fun c_5 => ?_)
      · have h := x_p c_5 h
        refine lv_bipush (v := (-102 : Int32)) hx hb dX6_refusalOfFlip_29 (by decide) ?_
        cases h
        exact r_i X hP hD hS rfl dX6_refusalOfFlip_31
      · have h := x_n c_5 h
        refine lv_iload_n hx hb dX6_refusalOfFlip_21 rfl (lv_at hl 2 rfl) ?_
        refine lv_bipush (v := (8 : Int32)) hx hb dX6_refusalOfFlip_22 (by decide) ?_
        refine lv_iload_n hx hb dX6_refusalOfFlip_24 rfl (lv_at hl 3 rfl) ?_
        refine lv_isub hx hb dX6_refusalOfFlip_25 ?_
        refine lv_icmp_le (tgt := 32) hx hb dX6_refusalOfFlip_26 (by decide) (fun c_6 => ?_) (fun c_6 => ?_)
        · have h := x_p c_6 h
          refine lv_aload_n hx hb dX6_refusalOfFlip_32 rfl (lv_at hl 0 rfl) ?_
          refine lv_iload hx hb dX6_refusalOfFlip_33 (lv_at hl 4 rfl) ?_
          obtain ⟨t_7, hc, h⟩ := x_b h
          refine c_V (q0 := 0) (ci := 5) (na := 1) (rest := []) (st1 := [.int t_7.1]) (Wr := []) (Wn := [(h_x, .inr (5, [.ref h_p, .ref h_st, .ref h_ck, .ref h_t, .ref h_l, .ref h_a, .int t_7.2.1, .int v_x_searches])), (h_p, .inr (3, [.ref h_po, .ref h_pf, .ref h_ps, .int v_p_length])), (h_po, .inl (cI, 20, .inl v_po)), (h_pf, .inl (cI, 20, .inl v_pf)), (h_ps, .inl (cI, 20, .inl v_ps)), (h_st, .inl (cI, 8, .inl v_st)), (h_t, .inr (4, [.ref h_m, .ref h_tc, .ref h_tn, .ref h_tt, .ref h_tr, .ref h_tw])), (h_m, .inr (2, [.ref h_p, .ref h_mc, .ref h_mr, .int t_7.2.2.1, .int t_7.2.2.2.1, .int t_7.2.2.2.2.1, .int t_7.2.2.2.2.2.1, .int t_7.2.2.2.2.2.2.1, .int t_7.2.2.2.2.2.2.2.1, .int t_7.2.2.2.2.2.2.2.2.1])), (h_mc, .inl (cI, 8, .inl t_7.2.2.2.2.2.2.2.2.2.1)), (h_mr, .inl (cI, 12, .inl t_7.2.2.2.2.2.2.2.2.2.2.1)), (h_tc, .inl (cI, 800, .inl t_7.2.2.2.2.2.2.2.2.2.2.2.1)), (h_tn, .inl (cI, 100, .inl t_7.2.2.2.2.2.2.2.2.2.2.2.2.1)), (h_tt, .inl (cI, 100, .inl t_7.2.2.2.2.2.2.2.2.2.2.2.2.2.1)), (h_tr, .inl (cI, 100, .inl t_7.2.2.2.2.2.2.2.2.2.2.2.2.2.2.1)), (h_tw, .inl (cI, 100, .inl t_7.2.2.2.2.2.2.2.2.2.2.2.2.2.2.2.1)), (h_l, .inr (1, [.ref h_t, .ref h_k, .ref h_lf, .ref h_ls, .int t_7.2.2.2.2.2.2.2.2.2.2.2.2.2.2.2.2]))]) X hP hD hS hl.1 (m_X6_refusalOfTick l D cI pt h_x h_p h_po h_pf h_ps h_st h_ck h_t h_m h_mc h_mr h_tc h_tn h_tt h_tr h_tw h_l h_k h_lf h_ls h_a v_x_stale v_x_searches v_p_length v_po v_pf v_ps v_st v_m_rowLength v_m_next v_m_tick v_m_ending v_m_readNow v_m_writtenNow v_m_writtenSince v_mc v_mr v_tc v_tn v_tt v_tr v_tw v_l_width a3 fu _ hc) gX6_refusalOfFlip_X6_refusalOfTick rfl ⟨rfl, rfl⟩ rfl (by decide +kernel) ⟨Nat.le_of_ble_eq_true rfl, Nat.le_of_ble_eq_true rfl⟩ rfl rfl [0, 1, 2, 3, 4, 5, 6, 7, 8, 9, 10, 11, 12, 13, 14, 15] [] [0, 1, 2, 3, 4, 5, 6, 7, 8, 9, 10, 11, 12, 13, 14, 15] rfl rfl rfl rfl rfl (by decide) rfl rfl (Nat.le_of_ble_eq_true rfl) dX6_refusalOfFlip_35 ⟨Nat.zero_le _, Nat.zero_le _⟩ rfl rfl (fun H locs hP hD hS => ?_)
          cases h
          exact r_i X hP hD hS rfl dX6_refusalOfFlip_38
        · have h := x_n c_6 h
          refine lv_bipush (v := (-102 : Int32)) hx hb dX6_refusalOfFlip_29 (by decide) ?_
          cases h
          exact r_i X hP hD hS rfl dX6_refusalOfFlip_31
  · have h := x_p c_2 h
    refine lv_bipush (v := (-101 : Int32)) hx hb dX6_refusalOfFlip_7 (by decide) ?_
    cases h
    exact r_i X hP hD hS rfl dX6_refusalOfFlip_9

theorem q_X6_refusalOfSearch_0 : (.fieldLink RX6 75 "StruckBits$Machine" "ending" "I" : Cond) ∈ wsX6_refusalOfSearch := by decide +kernel
theorem i_X6_refusalOfSearch_X3 : ∀ w ∈ u_ws RX3 TX3 10, w ∈ wsX6_refusalOfSearch := by decide +kernel
theorem q_X6_refusalOfSearch_2 : (.fieldLink RX6 132 "StruckBits" "searches" "I" : Cond) ∈ wsX6_refusalOfSearch := by decide +kernel
theorem i_X6_refusalOfSearch_X6 : ∀ w ∈ u_ws RX6 TX6 8, w ∈ wsX6_refusalOfSearch := by decide +kernel
set_option maxHeartbeats 4000000 in
set_option maxRecDepth 100000 in
theorem m_X6_refusalOfSearch (l : Launch) (D : va_G) (cI : ClassId) (pt : Nat) (h_x h_p h_po h_pf h_ps h_st h_ck h_t h_m h_mc h_mr h_tc h_tn h_tt h_tr h_tw h_l h_k h_lf h_ls h_a : Nat) (v_x_stale : Int32) (v_x_searches : Int32) (v_p_length : Int32) (v_po : Nat → Int32) (v_pf : Nat → Int32) (v_ps : Nat → Int32) (v_st : Nat → Int32) (v_m_rowLength : Int32) (v_m_next : Int32) (v_m_tick : Int32) (v_m_ending : Int32) (v_m_readNow : Int32) (v_m_writtenNow : Int32) (v_m_writtenSince : Int32) (v_mc : Nat → Int32) (v_mr : Nat → Int32) (v_tc : Nat → Int32) (v_tn : Nat → Int32) (v_tt : Nat → Int32) (v_tr : Nat → Int32) (v_tw : Nat → Int32) (v_l_width : Int32) (a0 : Int32) (fu : Nat) (res : Int32 × Int32 × Int32 × Int32 × Int32 × Int32 × Int32 × Int32 × Int32 × (Nat → Int32) × (Nat → Int32) × (Nat → Int32) × (Nat → Int32) × (Nat → Int32) × (Nat → Int32) × (Nat → Int32) × Int32) (h : f_X6_refusalOfSearch fu v_x_stale v_x_searches v_p_length v_po v_pf v_ps v_st v_m_rowLength v_m_next v_m_tick v_m_ending v_m_readNow v_m_writtenNow v_m_writtenSince v_mc v_mr v_tc v_tn v_tt v_tr v_tw v_l_width a0 = some res) :
    MT l D cI pt yX6_refusalOfSearch wsX6_refusalOfSearch ({ frames := 5, cells := 0, slots := 0, locals := 111 } : Room) [.ref h_x, .int a0] [(h_x, .inr (5, [.ref h_p, .ref h_st, .ref h_ck, .ref h_t, .ref h_l, .ref h_a, .int v_x_stale, .int v_x_searches])), (h_p, .inr (3, [.ref h_po, .ref h_pf, .ref h_ps, .int v_p_length])), (h_po, .inl (cI, 20, .inl v_po)), (h_pf, .inl (cI, 20, .inl v_pf)), (h_ps, .inl (cI, 20, .inl v_ps)), (h_st, .inl (cI, 8, .inl v_st)), (h_t, .inr (4, [.ref h_m, .ref h_tc, .ref h_tn, .ref h_tt, .ref h_tr, .ref h_tw])), (h_m, .inr (2, [.ref h_p, .ref h_mc, .ref h_mr, .int v_m_rowLength, .int v_m_next, .int v_m_tick, .int v_m_ending, .int v_m_readNow, .int v_m_writtenNow, .int v_m_writtenSince])), (h_mc, .inl (cI, 8, .inl v_mc)), (h_mr, .inl (cI, 12, .inl v_mr)), (h_tc, .inl (cI, 800, .inl v_tc)), (h_tn, .inl (cI, 100, .inl v_tn)), (h_tt, .inl (cI, 100, .inl v_tt)), (h_tr, .inl (cI, 100, .inl v_tr)), (h_tw, .inl (cI, 100, .inl v_tw)), (h_l, .inr (1, [.ref h_t, .ref h_k, .ref h_lf, .ref h_ls, .int v_l_width]))] (some (.int res.1)) [(h_x, .inr (5, [.ref h_p, .ref h_st, .ref h_ck, .ref h_t, .ref h_l, .ref h_a, .int res.2.1, .int v_x_searches])), (h_p, .inr (3, [.ref h_po, .ref h_pf, .ref h_ps, .int v_p_length])), (h_po, .inl (cI, 20, .inl v_po)), (h_pf, .inl (cI, 20, .inl v_pf)), (h_ps, .inl (cI, 20, .inl v_ps)), (h_st, .inl (cI, 8, .inl v_st)), (h_t, .inr (4, [.ref h_m, .ref h_tc, .ref h_tn, .ref h_tt, .ref h_tr, .ref h_tw])), (h_m, .inr (2, [.ref h_p, .ref h_mc, .ref h_mr, .int res.2.2.1, .int res.2.2.2.1, .int res.2.2.2.2.1, .int res.2.2.2.2.2.1, .int res.2.2.2.2.2.2.1, .int res.2.2.2.2.2.2.2.1, .int res.2.2.2.2.2.2.2.2.1])), (h_mc, .inl (cI, 8, .inl res.2.2.2.2.2.2.2.2.2.1)), (h_mr, .inl (cI, 12, .inl res.2.2.2.2.2.2.2.2.2.2.1)), (h_tc, .inl (cI, 800, .inl res.2.2.2.2.2.2.2.2.2.2.2.1)), (h_tn, .inl (cI, 100, .inl res.2.2.2.2.2.2.2.2.2.2.2.2.1)), (h_tt, .inl (cI, 100, .inl res.2.2.2.2.2.2.2.2.2.2.2.2.2.1)), (h_tr, .inl (cI, 100, .inl res.2.2.2.2.2.2.2.2.2.2.2.2.2.2.1)), (h_tw, .inl (cI, 100, .inl res.2.2.2.2.2.2.2.2.2.2.2.2.2.2.2.1)), (h_l, .inr (1, [.ref h_t, .ref h_k, .ref h_lf, .ref h_ls, .int res.2.2.2.2.2.2.2.2.2.2.2.2.2.2.2.2]))] := by
  refine MT.mk (cc := cX6_refusalOfSearch) (maxL := 2) (ret := (some .int)) (own := RX6) (by decide) rfl rfl (Nat.le_of_ble_eq_true rfl) rfl ?_
  intro p e s m args below meth c A ls X hP hD hS hl
  obtain ⟨hx, hb, hml, hown, hts, hr, hlk, hE, hH, hA⟩ := id X
  have hl : lv_has ls 2 [(0, .ref h_x), (1, .int a0)] := hl
  unfold f_X6_refusalOfSearch at h
  refine lv_aload_n hx hb dX6_refusalOfSearch_0 rfl (lv_at hl 0 rfl) ?_
  obtain ⟨t_1, hc, h⟩ := x_b h
  refine c_V (q0 := 0) (ci := 5) (na := 0) (rest := []) (st1 := [.ref h_m]) (Wr := []) (Wn := [(h_x, .inr (5, [.ref h_p, .ref h_st, .ref h_ck, .ref h_t, .ref h_l, .ref h_a, .int t_1.1, .int v_x_searches])), (h_p, .inr (3, [.ref h_po, .ref h_pf, .ref h_ps, .int v_p_length])), (h_po, .inl (cI, 20, .inl v_po)), (h_pf, .inl (cI, 20, .inl v_pf)), (h_ps, .inl (cI, 20, .inl v_ps)), (h_st, .inl (cI, 8, .inl v_st)), (h_t, .inr (4, [.ref h_m, .ref h_tc, .ref h_tn, .ref h_tt, .ref h_tr, .ref h_tw])), (h_m, .inr (2, [.ref h_p, .ref h_mc, .ref h_mr, .int t_1.2.1, .int t_1.2.2.1, .int t_1.2.2.2.1, .int t_1.2.2.2.2.1, .int t_1.2.2.2.2.2.1, .int t_1.2.2.2.2.2.2.1, .int t_1.2.2.2.2.2.2.2.1])), (h_mc, .inl (cI, 8, .inl t_1.2.2.2.2.2.2.2.2.1)), (h_mr, .inl (cI, 12, .inl t_1.2.2.2.2.2.2.2.2.2.1)), (h_tc, .inl (cI, 800, .inl t_1.2.2.2.2.2.2.2.2.2.2.1)), (h_tn, .inl (cI, 100, .inl t_1.2.2.2.2.2.2.2.2.2.2.2.1)), (h_tt, .inl (cI, 100, .inl t_1.2.2.2.2.2.2.2.2.2.2.2.2.1)), (h_tr, .inl (cI, 100, .inl t_1.2.2.2.2.2.2.2.2.2.2.2.2.2.1)), (h_tw, .inl (cI, 100, .inl t_1.2.2.2.2.2.2.2.2.2.2.2.2.2.2.1)), (h_l, .inr (1, [.ref h_t, .ref h_k, .ref h_lf, .ref h_ls, .int t_1.2.2.2.2.2.2.2.2.2.2.2.2.2.2.2]))]) X hP hD hS hl.1 (m_X6_plainRun l D cI pt h_x h_p h_po h_pf h_ps h_st h_ck h_t h_m h_mc h_mr h_tc h_tn h_tt h_tr h_tw h_l h_k h_lf h_ls h_a v_x_stale v_x_searches v_p_length v_po v_pf v_ps v_st v_m_rowLength v_m_next v_m_tick v_m_ending v_m_readNow v_m_writtenNow v_m_writtenSince v_mc v_mr v_tc v_tn v_tt v_tr v_tw v_l_width  fu _ hc) gX6_refusalOfSearch_X6_plainRun rfl ⟨rfl, rfl⟩ rfl (by decide +kernel) ⟨Nat.le_of_ble_eq_true rfl, Nat.le_of_ble_eq_true rfl⟩ rfl rfl [0, 1, 2, 3, 4, 5, 6, 7, 8, 9, 10, 11, 12, 13, 14, 15] [] [0, 1, 2, 3, 4, 5, 6, 7, 8, 9, 10, 11, 12, 13, 14, 15] rfl rfl rfl rfl rfl (by decide) rfl rfl (Nat.le_of_ble_eq_true rfl) dX6_refusalOfSearch_1 ⟨Nat.zero_le _, Nat.zero_le _⟩ rfl rfl (fun H locs hP hD hS => ?_)
  refine va_get (D := D) (ci := 2) (v := .int t_1.2.2.2.2.1) (C := RX3) (T := TX3) (N := 10) hx hb hts i_X6_refusalOfSearch_X3 hown hE.1 hP 7 rfl rfl 6 (by decide) (hts _ q_X6_refusalOfSearch_0) (fun _ h9 => h9) rfl dX6_refusalOfSearch_4 ?_
  refine lv_if_eq (tgt := 13) hx hb dX6_refusalOfSearch_7 (by decide) (fun c_2 => ?_) (fun c_2 => ?_)
  · have h := x_p c_2 h
    refine lv_aload_n hx hb dX6_refusalOfSearch_13 rfl (lv_at hl 0 rfl) ?_
    refine va_get (D := D) (ci := 5) (v := .int v_x_searches) (C := RX6) (T := TX6) (N := 8) hx hb hts i_X6_refusalOfSearch_X6 hown hE.1 hP 0 rfl rfl 7 (by decide) (hts _ q_X6_refusalOfSearch_2) (fun _ h9 => h9) rfl dX6_refusalOfSearch_14 ?_
    refine lv_iload_n hx hb dX6_refusalOfSearch_17 rfl (lv_at hl 1 rfl) ?_
    refine lv_iadd hx hb dX6_refusalOfSearch_18 ?_
    refine lv_bipush (v := (60 : Int32)) hx hb dX6_refusalOfSearch_19 (by decide) ?_
    refine lv_icmp_le (tgt := 29) hx hb dX6_refusalOfSearch_21 (by decide) (fun c_3 => ?_) (fun c_3 => ?_)
    · have h := x_p c_3 h
      refine lv_iconst (v := (0 : Int32)) hx hb dX6_refusalOfSearch_29 (by decide) ?_
      cases h
      exact r_i X hP hD hS rfl dX6_refusalOfSearch_30
    · have h := x_n c_3 h
      refine lv_bipush (v := (-104 : Int32)) hx hb dX6_refusalOfSearch_24 (by decide) ?_
      refine lv_goto (tgt := 30) hx hb dX6_refusalOfSearch_26 (by decide) ?_
      cases h
      exact r_i X hP hD hS rfl dX6_refusalOfSearch_30
  · have h := x_n c_2 h
    refine lv_bipush (v := (-103 : Int32)) hx hb dX6_refusalOfSearch_10 (by decide) ?_
    cases h
    exact r_i X hP hD hS rfl dX6_refusalOfSearch_12

theorem q_X6_chosenOrNone_0 : (.fieldLink RX6 44 "StruckBits" "advice" "LStruckBits$Advice;" : Cond) ∈ wsX6_chosenOrNone := by decide +kernel
theorem i_X6_chosenOrNone_X6 : ∀ w ∈ u_ws RX6 TX6 8, w ∈ wsX6_chosenOrNone := by decide +kernel
theorem q_X6_chosenOrNone_2 : (.fieldLink RX6 170 "StruckBits$Advice" "given" "Z" : Cond) ∈ wsX6_chosenOrNone := by decide +kernel
theorem i_X6_chosenOrNone_X0 : ∀ w ∈ u_ws RX0 TX0 4, w ∈ wsX6_chosenOrNone := by decide +kernel
theorem q_X6_chosenOrNone_4 : (.fieldLink RX6 173 "StruckBits$Advice" "picked" "[I" : Cond) ∈ wsX6_chosenOrNone := by decide +kernel
set_option maxHeartbeats 4000000 in
set_option maxRecDepth 100000 in
theorem m_X6_chosenOrNone (l : Launch) (D : va_G) (cI : ClassId) (pt : Nat) (h_x h_p h_st h_ck h_t h_l h_a h_ap h_as h_af : Nat) (v_x_stale : Int32) (v_x_searches : Int32) (v_a_given : Int32) (v_ap : Nat → Int32) (a0 : Int32) (fu : Nat) (res : Int32) (h : f_X6_chosenOrNone fu v_a_given v_ap a0 = some res) :
    MT l D cI pt yX6_chosenOrNone wsX6_chosenOrNone ({ frames := 0, cells := 0, slots := 0, locals := 0 } : Room) [.ref h_x, .int a0] [(h_x, .inr (5, [.ref h_p, .ref h_st, .ref h_ck, .ref h_t, .ref h_l, .ref h_a, .int v_x_stale, .int v_x_searches])), (h_a, .inr (0, [.ref h_ap, .int v_a_given, .ref h_as, .ref h_af])), (h_ap, .inl (cI, 8, .inl v_ap))] (some (.int res)) [(h_x, .inr (5, [.ref h_p, .ref h_st, .ref h_ck, .ref h_t, .ref h_l, .ref h_a, .int v_x_stale, .int v_x_searches])), (h_a, .inr (0, [.ref h_ap, .int v_a_given, .ref h_as, .ref h_af])), (h_ap, .inl (cI, 8, .inl v_ap))] := by
  refine MT.mk (cc := cX6_chosenOrNone) (maxL := 2) (ret := (some .int)) (own := RX6) (by decide) rfl rfl (Nat.le_of_ble_eq_true rfl) rfl ?_
  intro p e s m args below meth c A ls X hP hD hS hl
  obtain ⟨hx, hb, hml, hown, hts, hr, hlk, hE, hH, hA⟩ := id X
  have hl : lv_has ls 2 [(0, .ref h_x), (1, .int a0)] := hl
  unfold f_X6_chosenOrNone at h
  refine lv_aload_n hx hb dX6_chosenOrNone_0 rfl (lv_at hl 0 rfl) ?_
  refine va_get (D := D) (ci := 5) (v := .ref h_a) (C := RX6) (T := TX6) (N := 8) hx hb hts i_X6_chosenOrNone_X6 hown hE.1 hP 0 rfl rfl 5 (by decide) (hts _ q_X6_chosenOrNone_0) (fun _ h9 => h9) rfl dX6_chosenOrNone_1 ?_
  refine va_get (D := D) (ci := 0) (v := .int v_a_given) (C := RX0) (T := TX0) (N := 4) hx hb hts i_X6_chosenOrNone_X0 hown hE.1 hP 1 rfl rfl 1 (by decide) (hts _ q_X6_chosenOrNone_2) (fun _ h9 => h9) rfl dX6_chosenOrNone_4 ?_
  refine lv_if_eq (tgt := 22) hx hb dX6_chosenOrNone_7 (by decide) (fun c_1 => ?_) (fun c_1 => ?_)
  · have h := x_p c_1 h
    refine lv_iconst (v := (-1 : Int32)) hx hb dX6_chosenOrNone_22 (by decide) ?_
    cases h
    exact r_i X hP hD hS rfl dX6_chosenOrNone_23
  · have h := x_n c_1 h
    refine lv_aload_n hx hb dX6_chosenOrNone_10 rfl (lv_at hl 0 rfl) ?_
    refine va_get (D := D) (ci := 5) (v := .ref h_a) (C := RX6) (T := TX6) (N := 8) hx hb hts i_X6_chosenOrNone_X6 hown hE.1 hP 0 rfl rfl 5 (by decide) (hts _ q_X6_chosenOrNone_0) (fun _ h9 => h9) rfl dX6_chosenOrNone_11 ?_
    refine va_get (D := D) (ci := 0) (v := .ref h_ap) (C := RX0) (T := TX0) (N := 4) hx hb hts i_X6_chosenOrNone_X0 hown hE.1 hP 1 rfl rfl 0 (by decide) (hts _ q_X6_chosenOrNone_4) (fun _ h9 => h9) rfl dX6_chosenOrNone_14 ?_
    refine lv_iload_n hx hb dX6_chosenOrNone_17 rfl (lv_at hl 1 rfl) ?_
    obtain ⟨g_2, h⟩ := x_gd h
    refine va_iald hx hb hE.1 hP 2 0 rfl rfl g_2 dX6_chosenOrNone_18 ?_
    refine lv_goto (tgt := 23) hx hb dX6_chosenOrNone_19 (by decide) ?_
    cases h
    exact r_i X hP hD hS rfl dX6_chosenOrNone_23

theorem q_X6_checkedCells_0 : (.fieldLink RX6 20 "StruckBits" "checks" "[I" : Cond) ∈ wsX6_checkedCells := by decide +kernel
theorem i_X6_checkedCells_X6 : ∀ w ∈ u_ws RX6 TX6 8, w ∈ wsX6_checkedCells := by decide +kernel
set_option maxHeartbeats 4000000 in
set_option maxRecDepth 100000 in
theorem tr_X6_checkedCells_4 {p : Program} {l : Launch} {e : Env} {s : State} {m : MethodId} {args : Array Value} {below : List Frame} {meth : Method} {c : Code} {D : va_G} {cI : ClassId} {pt : Nat} {A : Nat → Prop} (X : CX p s m args meth c D cI pt A cX6_checkedCells 3 (some .int) wsX6_checkedCells RX6) (h_x h_p h_st h_ck h_t h_l h_a : Nat) (v_x_stale : Int32) (v_x_searches : Int32) (v_ck : Nat → Int32)   (fu : Nat) (k28 : Int32 → Option (Int32)) (res : Int32) (hk28 : ∀ (ye28_1 : Int32), k28 ye28_1 = some res → ∀ (H : Heap) (locs : List Loc) (ls : Array Slot), va_P D vwCl [(h_x, .inr (5, [.ref h_p, .ref h_st, .ref h_ck, .ref h_t, .ref h_l, .ref h_a, .int v_x_stale, .int v_x_searches])), (h_ck, .inl (cI, 8, .inl v_ck))] H → va_D A [(h_x, .inr (5, [.ref h_p, .ref h_st, .ref h_ck, .ref h_t, .ref h_l, .ref h_a, .int v_x_stale, .int v_x_searches])), (h_ck, .inl (cI, 8, .inl v_ck))] → va_S A s.heap H locs → lv_has ls 3 [(1, .int ye28_1)] → W p l e ({ frames := 0, cells := 0, slots := 0, locals := 0 } : Room) s m args below meth c H locs 0 0 (MQ below (Qg D A (some (.int res)) [(h_x, .inr (5, [.ref h_p, .ref h_st, .ref h_ck, .ref h_t, .ref h_l, .ref h_a, .int v_x_stale, .int v_x_searches])), (h_ck, .inl (cI, 8, .inl v_ck))]) args s 0 0 A) (F0 m 28 ls [])) :
    ∀ (n : Nat) (y4_1 : Int32) (y4_2 : Int32), fr_X6_checkedCells_4 fu v_ck k28 n y4_1 y4_2 = some res → ∀ (H : Heap) (locs : List Loc) (ls : Array Slot), va_P D vwCl [(h_x, .inr (5, [.ref h_p, .ref h_st, .ref h_ck, .ref h_t, .ref h_l, .ref h_a, .int v_x_stale, .int v_x_searches])), (h_ck, .inl (cI, 8, .inl v_ck))] H → va_D A [(h_x, .inr (5, [.ref h_p, .ref h_st, .ref h_ck, .ref h_t, .ref h_l, .ref h_a, .int v_x_stale, .int v_x_searches])), (h_ck, .inl (cI, 8, .inl v_ck))] → va_S A s.heap H locs → lv_has ls 3 [(0, .ref h_x), (1, .int y4_1), (2, .int y4_2)] → W p l e ({ frames := 0, cells := 0, slots := 0, locals := 0 } : Room) s m args below meth c H locs 0 0 (MQ below (Qg D A (some (.int res)) [(h_x, .inr (5, [.ref h_p, .ref h_st, .ref h_ck, .ref h_t, .ref h_l, .ref h_a, .int v_x_stale, .int v_x_searches])), (h_ck, .inl (cI, 8, .inl v_ck))]) args s 0 0 A) (F0 m 4 ls []) := by
  obtain ⟨hx, hb, hml, hown, hts, hr, hlk, hE, hH, hA⟩ := id X
  intro n
  induction n with
  | zero =>
    intro y4_1 y4_2 h
    cases (show none = some res from h)
  | succ n ih =>
    intro y4_1 y4_2 h H locs ls hP hD hS hl
    rw [fr_X6_checkedCells_4] at h
    refine lv_iload_n hx hb dX6_checkedCells_4 rfl (lv_at hl 2 rfl) ?_
    refine lv_bipush (v := (8 : Int32)) hx hb dX6_checkedCells_5 (by decide) ?_
    refine lv_icmp_ge (tgt := 28) hx hb dX6_checkedCells_7 (by decide) (fun c_1 => ?_) (fun c_1 => ?_)
    · have h := x_p c_1 h
      exact hk28 y4_1 h _ _ _ hP hD hS (lv_sub hl [1] rfl)
    · have h := x_n c_1 h
      refine lv_aload_n hx hb dX6_checkedCells_10 rfl (lv_at hl 0 rfl) ?_
      refine va_get (D := D) (ci := 5) (v := .ref h_ck) (C := RX6) (T := TX6) (N := 8) hx hb hts i_X6_checkedCells_X6 hown hE.1 hP 0 rfl rfl 2 (by decide) (hts _ q_X6_checkedCells_0) (fun _ h9 => h9) rfl dX6_checkedCells_11 ?_
      refine lv_iload_n hx hb dX6_checkedCells_14 rfl (lv_at hl 2 rfl) ?_
      obtain ⟨g_2, h⟩ := x_gd h
      refine va_iald hx hb hE.1 hP 1 0 rfl rfl g_2 dX6_checkedCells_15 ?_
      refine lv_if_eq (tgt := 22) hx hb dX6_checkedCells_16 (by decide) (fun c_3 => ?_) (fun c_3 => ?_)
      · have h := x_p c_3 h
        refine lv_iinc (v := (y4_2 + (1 : Int32))) (lv' := [(2, .int (y4_2 + (1 : Int32))), (0, .ref h_x), (1, .int y4_1)]) hx hb dX6_checkedCells_22 hl (k := 2) rfl rfl (by decide) rfl (fun ls hl => ?_)
        refine lv_goto (tgt := 4) hx hb dX6_checkedCells_25 (by decide) ?_
        exact ih y4_1 (y4_2 + (1 : Int32)) h _ _ _ hP hD hS (lv_sub hl [1, 2, 0] rfl)
      · have h := x_n c_3 h
        refine lv_iinc (v := (y4_1 + (1 : Int32))) (lv' := [(1, .int (y4_1 + (1 : Int32))), (0, .ref h_x), (2, .int y4_2)]) hx hb dX6_checkedCells_19 hl (k := 1) rfl rfl (by decide) rfl (fun ls hl => ?_)
        refine lv_iinc (v := (y4_2 + (1 : Int32))) (lv' := [(2, .int (y4_2 + (1 : Int32))), (1, .int (y4_1 + (1 : Int32))), (0, .ref h_x)]) hx hb dX6_checkedCells_22 hl (k := 2) rfl rfl (by decide) rfl (fun ls hl => ?_)
        refine lv_goto (tgt := 4) hx hb dX6_checkedCells_25 (by decide) ?_
        exact ih (y4_1 + (1 : Int32)) (y4_2 + (1 : Int32)) h _ _ _ hP hD hS (lv_sub hl [2, 1, 0] rfl)
set_option maxHeartbeats 4000000 in
set_option maxRecDepth 100000 in
theorem m_X6_checkedCells (l : Launch) (D : va_G) (cI : ClassId) (pt : Nat) (h_x h_p h_st h_ck h_t h_l h_a : Nat) (v_x_stale : Int32) (v_x_searches : Int32) (v_ck : Nat → Int32)  (fu : Nat) (res : Int32) (h : f_X6_checkedCells fu v_ck  = some res) :
    MT l D cI pt yX6_checkedCells wsX6_checkedCells ({ frames := 0, cells := 0, slots := 0, locals := 0 } : Room) [.ref h_x] [(h_x, .inr (5, [.ref h_p, .ref h_st, .ref h_ck, .ref h_t, .ref h_l, .ref h_a, .int v_x_stale, .int v_x_searches])), (h_ck, .inl (cI, 8, .inl v_ck))] (some (.int res)) [(h_x, .inr (5, [.ref h_p, .ref h_st, .ref h_ck, .ref h_t, .ref h_l, .ref h_a, .int v_x_stale, .int v_x_searches])), (h_ck, .inl (cI, 8, .inl v_ck))] := by
  refine MT.mk (cc := cX6_checkedCells) (maxL := 3) (ret := (some .int)) (own := RX6) (by decide) rfl rfl (Nat.le_of_ble_eq_true rfl) rfl ?_
  intro p e s m args below meth c A ls X hP hD hS hl
  obtain ⟨hx, hb, hml, hown, hts, hr, hlk, hE, hH, hA⟩ := id X
  have hl : lv_has ls 3 [(0, .ref h_x)] := hl
  unfold f_X6_checkedCells at h
  refine lv_iconst (v := (0 : Int32)) hx hb dX6_checkedCells_0 (by decide) ?_
  refine lv_istore_n (lv' := [(1, .int (0 : Int32)), (0, .ref h_x)]) hx hb dX6_checkedCells_1 rfl hl (by decide) rfl (fun ls hl => ?_)
  refine lv_iconst (v := (0 : Int32)) hx hb dX6_checkedCells_2 (by decide) ?_
  refine lv_istore_n (lv' := [(2, .int (0 : Int32)), (1, .int (0 : Int32)), (0, .ref h_x)]) hx hb dX6_checkedCells_3 rfl hl (by decide) rfl (fun ls hl => ?_)
  refine tr_X6_checkedCells_4 X h_x h_p h_st h_ck h_t h_l h_a v_x_stale v_x_searches v_ck  fu _ res ?_ fu (0 : Int32) (0 : Int32) h _ _ _ hP hD hS (lv_sub hl [2, 1, 0] rfl)
  · intro ye4_28_1 h H locs ls hP hD hS hl
    refine lv_iload_n hx hb dX6_checkedCells_28 rfl (lv_at hl 0 rfl) ?_
    cases h
    exact r_i X hP hD hS rfl dX6_checkedCells_29

theorem q_X6_priceOf_0 : (.fieldLink RX6 203 "StruckBits" "PRICES" "[I" : Cond) ∈ wsX6_priceOf := by decide +kernel
set_option maxHeartbeats 4000000 in
set_option maxRecDepth 100000 in
theorem tr_X6_priceOf_4 {p : Program} {l : Launch} {e : Env} {s : State} {m : MethodId} {args : Array Value} {below : List Frame} {meth : Method} {c : Code} {D : va_G} {cI : ClassId} {pt : Nat} {A : Nat → Prop} (X : CX p s m args meth c D cI pt A cX6_priceOf 3 (some .int) wsX6_priceOf RX6) (h_ck : Nat) (v_ck : Nat → Int32)   (fu : Nat) (k26 : Int32 → Option (Int32)) (res : Int32) (hk26 : ∀ (ye26_1 : Int32), k26 ye26_1 = some res → ∀ (H : Heap) (locs : List Loc) (ls : Array Slot), va_P D vwCl [(h_ck, .inl (cI, 8, .inl v_ck))] H → va_D A [(h_ck, .inl (cI, 8, .inl v_ck))] → va_S A s.heap H locs → lv_has ls 3 [(1, .int ye26_1)] → W p l e ({ frames := 0, cells := 0, slots := 0, locals := 0 } : Room) s m args below meth c H locs 0 0 (MQ below (Qg D A (some (.int res)) [(h_ck, .inl (cI, 8, .inl v_ck))]) args s 0 0 A) (F0 m 26 ls [])) :
    ∀ (n : Nat) (y4_1 : Int32) (y4_2 : Int32), fr_X6_priceOf_4 fu v_ck k26 n y4_1 y4_2 = some res → ∀ (H : Heap) (locs : List Loc) (ls : Array Slot), va_P D vwCl [(h_ck, .inl (cI, 8, .inl v_ck))] H → va_D A [(h_ck, .inl (cI, 8, .inl v_ck))] → va_S A s.heap H locs → lv_has ls 3 [(0, .ref h_ck), (1, .int y4_1), (2, .int y4_2)] → W p l e ({ frames := 0, cells := 0, slots := 0, locals := 0 } : Room) s m args below meth c H locs 0 0 (MQ below (Qg D A (some (.int res)) [(h_ck, .inl (cI, 8, .inl v_ck))]) args s 0 0 A) (F0 m 4 ls []) := by
  obtain ⟨hx, hb, hml, hown, hts, hr, hlk, hE, hH, hA⟩ := id X
  intro n
  induction n with
  | zero =>
    intro y4_1 y4_2 h
    cases (show none = some res from h)
  | succ n ih =>
    intro y4_1 y4_2 h H locs ls hP hD hS hl
    rw [fr_X6_priceOf_4] at h
    refine lv_iload_n hx hb dX6_priceOf_4 rfl (lv_at hl 2 rfl) ?_
    refine lv_bipush (v := (8 : Int32)) hx hb dX6_priceOf_5 (by decide) ?_
    refine lv_icmp_ge (tgt := 26) hx hb dX6_priceOf_7 (by decide) (fun c_1 => ?_) (fun c_1 => ?_)
    · have h := x_p c_1 h
      exact hk26 y4_1 h _ _ _ hP hD hS (lv_sub hl [1] rfl)
    · have h := x_n c_1 h
      refine lv_iload_n hx hb dX6_priceOf_10 rfl (lv_at hl 1 rfl) ?_
      refine va_gets hx hb hH.1 hS hown (hts _ q_X6_priceOf_0) (fun _ h9 => h9) dX6_priceOf_11 ?_
      refine lv_aload_n hx hb dX6_priceOf_14 rfl (lv_at hl 0 rfl) ?_
      refine lv_iload_n hx hb dX6_priceOf_15 rfl (lv_at hl 2 rfl) ?_
      obtain ⟨g_2, h⟩ := x_gd h
      refine va_iald hx hb hE.1 hP 0 0 rfl rfl g_2 dX6_priceOf_16 ?_
      obtain ⟨g_3, h⟩ := x_gd h
      refine va_ti hx hb hH.2 hS g_3 rfl dX6_priceOf_17 ?_
      refine lv_iadd hx hb dX6_priceOf_18 ?_
      refine lv_istore_n (lv' := [(1, .int (y4_1 + (pPr (v_ck y4_2.toNatClampNeg).toNatClampNeg))), (0, .ref h_ck), (2, .int y4_2)]) hx hb dX6_priceOf_19 rfl hl (by decide) rfl (fun ls hl => ?_)
      refine lv_iinc (v := (y4_2 + (1 : Int32))) (lv' := [(2, .int (y4_2 + (1 : Int32))), (1, .int (y4_1 + (pPr (v_ck y4_2.toNatClampNeg).toNatClampNeg))), (0, .ref h_ck)]) hx hb dX6_priceOf_20 hl (k := 2) rfl rfl (by decide) rfl (fun ls hl => ?_)
      refine lv_goto (tgt := 4) hx hb dX6_priceOf_23 (by decide) ?_
      exact ih (y4_1 + (pPr (v_ck y4_2.toNatClampNeg).toNatClampNeg)) (y4_2 + (1 : Int32)) h _ _ _ hP hD hS (lv_sub hl [2, 1, 0] rfl)
set_option maxHeartbeats 4000000 in
set_option maxRecDepth 100000 in
theorem m_X6_priceOf (l : Launch) (D : va_G) (cI : ClassId) (pt : Nat) (h_ck : Nat) (v_ck : Nat → Int32)  (fu : Nat) (res : Int32) (h : f_X6_priceOf fu v_ck  = some res) :
    MT l D cI pt yX6_priceOf wsX6_priceOf ({ frames := 0, cells := 0, slots := 0, locals := 0 } : Room) [.ref h_ck] [(h_ck, .inl (cI, 8, .inl v_ck))] (some (.int res)) [(h_ck, .inl (cI, 8, .inl v_ck))] := by
  refine MT.mk (cc := cX6_priceOf) (maxL := 3) (ret := (some .int)) (own := RX6) (by decide) rfl rfl (Nat.le_of_ble_eq_true rfl) rfl ?_
  intro p e s m args below meth c A ls X hP hD hS hl
  obtain ⟨hx, hb, hml, hown, hts, hr, hlk, hE, hH, hA⟩ := id X
  have hl : lv_has ls 3 [(0, .ref h_ck)] := hl
  unfold f_X6_priceOf at h
  refine lv_iconst (v := (0 : Int32)) hx hb dX6_priceOf_0 (by decide) ?_
  refine lv_istore_n (lv' := [(1, .int (0 : Int32)), (0, .ref h_ck)]) hx hb dX6_priceOf_1 rfl hl (by decide) rfl (fun ls hl => ?_)
  refine lv_iconst (v := (0 : Int32)) hx hb dX6_priceOf_2 (by decide) ?_
  refine lv_istore_n (lv' := [(2, .int (0 : Int32)), (1, .int (0 : Int32)), (0, .ref h_ck)]) hx hb dX6_priceOf_3 rfl hl (by decide) rfl (fun ls hl => ?_)
  refine tr_X6_priceOf_4 X h_ck v_ck  fu _ res ?_ fu (0 : Int32) (0 : Int32) h _ _ _ hP hD hS (lv_sub hl [2, 1, 0] rfl)
  · intro ye4_26_1 h H locs ls hP hD hS hl
    refine lv_iload_n hx hb dX6_priceOf_26 rfl (lv_at hl 0 rfl) ?_
    cases h
    exact r_i X hP hD hS rfl dX6_priceOf_27

theorem q_X6_order_0 : (.fieldLink RX6 10 "StruckBits" "program" "LStruckBits$Program;" : Cond) ∈ wsX6_order := by decide +kernel
theorem i_X6_order_X6 : ∀ w ∈ u_ws RX6 TX6 8, w ∈ wsX6_order := by decide +kernel
theorem q_X6_order_2 : (.fieldLink RX6 56 "StruckBits$Program" "length" "I" : Cond) ∈ wsX6_order := by decide +kernel
theorem i_X6_order_X4 : ∀ w ∈ u_ws RX4 TX4 4, w ∈ wsX6_order := by decide +kernel
theorem q_X6_order_4 : (.fieldLink RX6 48 "StruckBits" "stale" "Z" : Cond) ∈ wsX6_order := by decide +kernel
set_option maxHeartbeats 4000000 in
set_option maxRecDepth 100000 in
theorem m_X6_order (l : Launch) (D : va_G) (cI : ClassId) (pt : Nat) (h_x h_p h_po h_pf h_ps h_st h_ck h_t h_l h_a : Nat) (v_x_stale : Int32) (v_x_searches : Int32) (v_p_length : Int32) (v_po : Nat → Int32) (v_pf : Nat → Int32) (v_ps : Nat → Int32) (a0 : Int32) (a1 : Int32) (a2 : Int32) (fu : Nat) (res : Int32 × Int32 × Int32 × (Nat → Int32) × (Nat → Int32) × (Nat → Int32)) (h : f_X6_order fu v_x_stale v_p_length v_po v_pf v_ps a0 a1 a2 = some res) :
    MT l D cI pt yX6_order wsX6_order ({ frames := 2, cells := 0, slots := 0, locals := 42 } : Room) [.ref h_x, .int a0, .int a1, .int a2] [(h_x, .inr (5, [.ref h_p, .ref h_st, .ref h_ck, .ref h_t, .ref h_l, .ref h_a, .int v_x_stale, .int v_x_searches])), (h_p, .inr (3, [.ref h_po, .ref h_pf, .ref h_ps, .int v_p_length])), (h_po, .inl (cI, 20, .inl v_po)), (h_pf, .inl (cI, 20, .inl v_pf)), (h_ps, .inl (cI, 20, .inl v_ps))] (some (.int res.1)) [(h_x, .inr (5, [.ref h_p, .ref h_st, .ref h_ck, .ref h_t, .ref h_l, .ref h_a, .int res.2.1, .int v_x_searches])), (h_p, .inr (3, [.ref h_po, .ref h_pf, .ref h_ps, .int res.2.2.1])), (h_po, .inl (cI, 20, .inl res.2.2.2.1)), (h_pf, .inl (cI, 20, .inl res.2.2.2.2.1)), (h_ps, .inl (cI, 20, .inl res.2.2.2.2.2))] := by
  refine MT.mk (cc := cX6_order) (maxL := 4) (ret := (some .int)) (own := RX6) (by decide) rfl rfl (Nat.le_of_ble_eq_true rfl) rfl ?_
  intro p e s m args below meth c A ls X hP hD hS hl
  obtain ⟨hx, hb, hml, hown, hts, hr, hlk, hE, hH, hA⟩ := id X
  have hl : lv_has ls 4 [(0, .ref h_x), (1, .int a0), (2, .int a1), (3, .int a2)] := hl
  unfold f_X6_order at h
  refine lv_iload_n hx hb dX6_order_0 rfl (lv_at hl 1 rfl) ?_
  refine lv_iload_n hx hb dX6_order_1 rfl (lv_at hl 2 rfl) ?_
  refine lv_iload_n hx hb dX6_order_2 rfl (lv_at hl 3 rfl) ?_
  obtain ⟨t_1, hc, h⟩ := x_b h
  refine c_S (na := 3) (rest := []) (st1 := [.int t_1]) (Wr := [(h_x, .inr (5, [.ref h_p, .ref h_st, .ref h_ck, .ref h_t, .ref h_l, .ref h_a, .int v_x_stale, .int v_x_searches])), (h_p, .inr (3, [.ref h_po, .ref h_pf, .ref h_ps, .int v_p_length])), (h_po, .inl (cI, 20, .inl v_po)), (h_pf, .inl (cI, 20, .inl v_pf)), (h_ps, .inl (cI, 20, .inl v_ps))]) (Wn := [(h_x, .inr (5, [.ref h_p, .ref h_st, .ref h_ck, .ref h_t, .ref h_l, .ref h_a, .int v_x_stale, .int v_x_searches])), (h_p, .inr (3, [.ref h_po, .ref h_pf, .ref h_ps, .int v_p_length])), (h_po, .inl (cI, 20, .inl v_po)), (h_pf, .inl (cI, 20, .inl v_pf)), (h_ps, .inl (cI, 20, .inl v_ps))]) X hP hD hS hl.1 (m_X4_fits l D cI pt   a0 a1 a2 fu _ hc) gX6_order_X4_fits rfl ⟨rfl, rfl⟩ rfl (by decide +kernel) ⟨Nat.le_of_ble_eq_true rfl, Nat.le_of_ble_eq_true rfl⟩ [] [0, 1, 2, 3, 4] [0, 1, 2, 3, 4] rfl rfl rfl rfl (by decide) rfl rfl (Nat.le_of_ble_eq_true rfl) dX6_order_3 ⟨Nat.zero_le _, Nat.zero_le _⟩ rfl rfl (fun H locs hP hD hS => ?_)
  refine lv_if_ne (tgt := 12) hx hb dX6_order_6 (by decide) (fun c_2 => ?_) (fun c_2 => ?_)
  · have h := x_n c_2 h
    refine lv_aload_n hx hb dX6_order_12 rfl (lv_at hl 0 rfl) ?_
    refine va_get (D := D) (ci := 5) (v := .ref h_p) (C := RX6) (T := TX6) (N := 8) hx hb hts i_X6_order_X6 hown hE.1 hP 0 rfl rfl 0 (by decide) (hts _ q_X6_order_0) (fun _ h9 => h9) rfl dX6_order_13 ?_
    refine va_get (D := D) (ci := 3) (v := .int v_p_length) (C := RX4) (T := TX4) (N := 4) hx hb hts i_X6_order_X4 hown hE.1 hP 1 rfl rfl 3 (by decide) (hts _ q_X6_order_2) (fun _ h9 => h9) rfl dX6_order_16 ?_
    refine lv_bipush (v := (20 : Int32)) hx hb dX6_order_19 (by decide) ?_
    refine lv_icmp_lt (tgt := 27) hx hb dX6_order_21 (by decide) (fun c_3 => ?_) (fun c_3 => ?_)
    · have h := x_p c_3 h
      refine lv_aload_n hx hb dX6_order_27 rfl (lv_at hl 0 rfl) ?_
      refine va_get (D := D) (ci := 5) (v := .ref h_p) (C := RX6) (T := TX6) (N := 8) hx hb hts i_X6_order_X6 hown hE.1 hP 0 rfl rfl 0 (by decide) (hts _ q_X6_order_0) (fun _ h9 => h9) rfl dX6_order_28 ?_
      refine lv_aload_n hx hb dX6_order_31 rfl (lv_at hl 0 rfl) ?_
      refine va_get (D := D) (ci := 5) (v := .ref h_p) (C := RX6) (T := TX6) (N := 8) hx hb hts i_X6_order_X6 hown hE.1 hP 0 rfl rfl 0 (by decide) (hts _ q_X6_order_0) (fun _ h9 => h9) rfl dX6_order_32 ?_
      refine va_get (D := D) (ci := 3) (v := .int v_p_length) (C := RX4) (T := TX4) (N := 4) hx hb hts i_X6_order_X4 hown hE.1 hP 1 rfl rfl 3 (by decide) (hts _ q_X6_order_2) (fun _ h9 => h9) rfl dX6_order_35 ?_
      refine lv_iload_n hx hb dX6_order_38 rfl (lv_at hl 1 rfl) ?_
      refine lv_iload_n hx hb dX6_order_39 rfl (lv_at hl 2 rfl) ?_
      refine lv_iload_n hx hb dX6_order_40 rfl (lv_at hl 3 rfl) ?_
      obtain ⟨t_4, hc, h⟩ := x_b h
      refine c_V (q0 := 0) (ci := 3) (na := 4) (rest := []) (st1 := []) (Wr := [(h_x, .inr (5, [.ref h_p, .ref h_st, .ref h_ck, .ref h_t, .ref h_l, .ref h_a, .int v_x_stale, .int v_x_searches]))]) (Wn := [(h_x, .inr (5, [.ref h_p, .ref h_st, .ref h_ck, .ref h_t, .ref h_l, .ref h_a, .int v_x_stale, .int v_x_searches])), (h_p, .inr (3, [.ref h_po, .ref h_pf, .ref h_ps, .int v_p_length])), (h_po, .inl (cI, 20, .inl t_4.1)), (h_pf, .inl (cI, 20, .inl t_4.2.1)), (h_ps, .inl (cI, 20, .inl t_4.2.2))]) X hP hD hS hl.1 (m_X4_put l D cI pt h_p h_po h_pf h_ps v_p_length v_po v_pf v_ps v_p_length a0 a1 a2 fu _ hc) gX6_order_X4_put rfl ⟨rfl, rfl⟩ rfl (by decide +kernel) ⟨Nat.le_of_ble_eq_true rfl, Nat.le_of_ble_eq_true rfl⟩ rfl rfl [1, 2, 3, 4] [0] [0, 1, 2, 3, 4] rfl rfl rfl rfl rfl (by decide) rfl rfl (Nat.le_of_ble_eq_true rfl) dX6_order_41 ⟨Nat.zero_le _, Nat.zero_le _⟩ rfl rfl (fun H locs hP hD hS => ?_)
      refine lv_aload_n hx hb dX6_order_44 rfl (lv_at hl 0 rfl) ?_
      refine va_get (D := D) (ci := 5) (v := .ref h_p) (C := RX6) (T := TX6) (N := 8) hx hb hts i_X6_order_X6 hown hE.1 hP 0 rfl rfl 0 (by decide) (hts _ q_X6_order_0) (fun _ h9 => h9) rfl dX6_order_45 ?_
      refine lv_dup hx hb dX6_order_48 rfl ?_
      refine va_get (D := D) (ci := 3) (v := .int v_p_length) (C := RX4) (T := TX4) (N := 4) hx hb hts i_X6_order_X4 hown hE.1 hP 1 rfl rfl 3 (by decide) (hts _ q_X6_order_2) (fun _ h9 => h9) rfl dX6_order_49 ?_
      refine lv_iconst (v := (1 : Int32)) hx hb dX6_order_52 (by decide) ?_
      refine lv_iadd hx hb dX6_order_53 ?_
      refine va_put (D := D) (ci := 3) (v := .int (v_p_length + (1 : Int32))) (ty := .int) (C := RX4) (T := TX4) (N := 4) hx hb hts i_X6_order_X4 tyX4 tyX4_ok nmX4 hown hE.1 hP hD hS 1 rfl rfl 3 (by decide) (hts _ q_X6_order_2) (fun _ h9 => h9) rfl (by decide +kernel) rfl rfl (Nat.le_of_ble_eq_true rfl) dX6_order_54 (fun H locs hP hD hS => ?_)
      have hP : va_P D vwCl [(h_x, .inr (5, [.ref h_p, .ref h_st, .ref h_ck, .ref h_t, .ref h_l, .ref h_a, .int v_x_stale, .int v_x_searches])), (h_p, .inr (3, [.ref h_po, .ref h_pf, .ref h_ps, .int (v_p_length + (1 : Int32))])), (h_po, .inl (cI, 20, .inl t_4.1)), (h_pf, .inl (cI, 20, .inl t_4.2.1)), (h_ps, .inl (cI, 20, .inl t_4.2.2))] H := hP
      have hD : va_D A [(h_x, .inr (5, [.ref h_p, .ref h_st, .ref h_ck, .ref h_t, .ref h_l, .ref h_a, .int v_x_stale, .int v_x_searches])), (h_p, .inr (3, [.ref h_po, .ref h_pf, .ref h_ps, .int (v_p_length + (1 : Int32))])), (h_po, .inl (cI, 20, .inl t_4.1)), (h_pf, .inl (cI, 20, .inl t_4.2.1)), (h_ps, .inl (cI, 20, .inl t_4.2.2))] := hD
      refine lv_aload_n hx hb dX6_order_57 rfl (lv_at hl 0 rfl) ?_
      refine lv_iconst (v := (1 : Int32)) hx hb dX6_order_58 (by decide) ?_
      refine va_put (D := D) (ci := 5) (v := .int (1 : Int32)) (ty := .boolean) (C := RX6) (T := TX6) (N := 8) hx hb hts i_X6_order_X6 tyX6 tyX6_ok nmX6 hown hE.1 hP hD hS 0 rfl rfl 6 (by decide) (hts _ q_X6_order_4) (fun _ h9 => h9) rfl (by decide +kernel) rfl rfl (Nat.le_of_ble_eq_true rfl) dX6_order_59 (fun H locs hP hD hS => ?_)
      have hP : va_P D vwCl [(h_x, .inr (5, [.ref h_p, .ref h_st, .ref h_ck, .ref h_t, .ref h_l, .ref h_a, .int (1 : Int32), .int v_x_searches])), (h_p, .inr (3, [.ref h_po, .ref h_pf, .ref h_ps, .int (v_p_length + (1 : Int32))])), (h_po, .inl (cI, 20, .inl t_4.1)), (h_pf, .inl (cI, 20, .inl t_4.2.1)), (h_ps, .inl (cI, 20, .inl t_4.2.2))] H := hP
      have hD : va_D A [(h_x, .inr (5, [.ref h_p, .ref h_st, .ref h_ck, .ref h_t, .ref h_l, .ref h_a, .int (1 : Int32), .int v_x_searches])), (h_p, .inr (3, [.ref h_po, .ref h_pf, .ref h_ps, .int (v_p_length + (1 : Int32))])), (h_po, .inl (cI, 20, .inl t_4.1)), (h_pf, .inl (cI, 20, .inl t_4.2.1)), (h_ps, .inl (cI, 20, .inl t_4.2.2))] := hD
      refine lv_aload_n hx hb dX6_order_62 rfl (lv_at hl 0 rfl) ?_
      refine va_get (D := D) (ci := 5) (v := .ref h_p) (C := RX6) (T := TX6) (N := 8) hx hb hts i_X6_order_X6 hown hE.1 hP 0 rfl rfl 0 (by decide) (hts _ q_X6_order_0) (fun _ h9 => h9) rfl dX6_order_63 ?_
      refine va_get (D := D) (ci := 3) (v := .int (v_p_length + (1 : Int32))) (C := RX4) (T := TX4) (N := 4) hx hb hts i_X6_order_X4 hown hE.1 hP 1 rfl rfl 3 (by decide) (hts _ q_X6_order_2) (fun _ h9 => h9) rfl dX6_order_66 ?_
      cases h
      exact r_i X hP hD hS rfl dX6_order_69
    · have h := x_n c_3 h
      refine lv_bipush (v := (-104 : Int32)) hx hb dX6_order_24 (by decide) ?_
      cases h
      exact r_i X hP hD hS rfl dX6_order_26
  · have h := x_p c_2 h
    refine lv_bipush (v := (-102 : Int32)) hx hb dX6_order_9 (by decide) ?_
    cases h
    exact r_i X hP hD hS rfl dX6_order_11

theorem q_X6_change_0 : (.fieldLink RX6 10 "StruckBits" "program" "LStruckBits$Program;" : Cond) ∈ wsX6_change := by decide +kernel
theorem i_X6_change_X6 : ∀ w ∈ u_ws RX6 TX6 8, w ∈ wsX6_change := by decide +kernel
theorem q_X6_change_2 : (.fieldLink RX6 48 "StruckBits" "stale" "Z" : Cond) ∈ wsX6_change := by decide +kernel
set_option maxHeartbeats 4000000 in
set_option maxRecDepth 100000 in
theorem m_X6_change (l : Launch) (D : va_G) (cI : ClassId) (pt : Nat) (h_x h_p h_po h_pf h_ps h_st h_ck h_t h_l h_a : Nat) (v_x_stale : Int32) (v_x_searches : Int32) (v_p_length : Int32) (v_po : Nat → Int32) (v_pf : Nat → Int32) (v_ps : Nat → Int32) (a0 : Int32) (a1 : Int32) (a2 : Int32) (a3 : Int32) (fu : Nat) (res : Int32 × Int32 × (Nat → Int32) × (Nat → Int32) × (Nat → Int32)) (h : f_X6_change fu v_x_stale v_p_length v_po v_pf v_ps a0 a1 a2 a3 = some res) :
    MT l D cI pt yX6_change wsX6_change ({ frames := 2, cells := 0, slots := 0, locals := 42 } : Room) [.ref h_x, .int a0, .int a1, .int a2, .int a3] [(h_x, .inr (5, [.ref h_p, .ref h_st, .ref h_ck, .ref h_t, .ref h_l, .ref h_a, .int v_x_stale, .int v_x_searches])), (h_p, .inr (3, [.ref h_po, .ref h_pf, .ref h_ps, .int v_p_length])), (h_po, .inl (cI, 20, .inl v_po)), (h_pf, .inl (cI, 20, .inl v_pf)), (h_ps, .inl (cI, 20, .inl v_ps))] (some (.int res.1)) [(h_x, .inr (5, [.ref h_p, .ref h_st, .ref h_ck, .ref h_t, .ref h_l, .ref h_a, .int res.2.1, .int v_x_searches])), (h_p, .inr (3, [.ref h_po, .ref h_pf, .ref h_ps, .int v_p_length])), (h_po, .inl (cI, 20, .inl res.2.2.1)), (h_pf, .inl (cI, 20, .inl res.2.2.2.1)), (h_ps, .inl (cI, 20, .inl res.2.2.2.2))] := by
  refine MT.mk (cc := cX6_change) (maxL := 5) (ret := (some .int)) (own := RX6) (by decide) rfl rfl (Nat.le_of_ble_eq_true rfl) rfl ?_
  intro p e s m args below meth c A ls X hP hD hS hl
  obtain ⟨hx, hb, hml, hown, hts, hr, hlk, hE, hH, hA⟩ := id X
  have hl : lv_has ls 5 [(0, .ref h_x), (1, .int a0), (2, .int a1), (3, .int a2), (4, .int a3)] := hl
  unfold f_X6_change at h
  refine lv_aload_n hx hb dX6_change_0 rfl (lv_at hl 0 rfl) ?_
  refine va_get (D := D) (ci := 5) (v := .ref h_p) (C := RX6) (T := TX6) (N := 8) hx hb hts i_X6_change_X6 hown hE.1 hP 0 rfl rfl 0 (by decide) (hts _ q_X6_change_0) (fun _ h9 => h9) rfl dX6_change_1 ?_
  refine lv_iload_n hx hb dX6_change_4 rfl (lv_at hl 1 rfl) ?_
  obtain ⟨t_1, hc, h⟩ := x_b h
  refine c_V (q0 := 0) (ci := 3) (na := 1) (rest := []) (st1 := [.int t_1]) (Wr := [(h_x, .inr (5, [.ref h_p, .ref h_st, .ref h_ck, .ref h_t, .ref h_l, .ref h_a, .int v_x_stale, .int v_x_searches])), (h_po, .inl (cI, 20, .inl v_po)), (h_pf, .inl (cI, 20, .inl v_pf)), (h_ps, .inl (cI, 20, .inl v_ps))]) (Wn := [(h_x, .inr (5, [.ref h_p, .ref h_st, .ref h_ck, .ref h_t, .ref h_l, .ref h_a, .int v_x_stale, .int v_x_searches])), (h_p, .inr (3, [.ref h_po, .ref h_pf, .ref h_ps, .int v_p_length])), (h_po, .inl (cI, 20, .inl v_po)), (h_pf, .inl (cI, 20, .inl v_pf)), (h_ps, .inl (cI, 20, .inl v_ps))]) X hP hD hS hl.1 (m_X4_has l D cI pt h_p h_po h_pf h_ps v_p_length a0 fu _ hc) gX6_change_X4_has rfl ⟨rfl, rfl⟩ rfl (by decide +kernel) ⟨Nat.le_of_ble_eq_true rfl, Nat.le_of_ble_eq_true rfl⟩ rfl rfl [1] [0, 2, 3, 4] [0, 4, 1, 2, 3] rfl rfl rfl rfl rfl (by decide) rfl rfl (Nat.le_of_ble_eq_true rfl) dX6_change_5 ⟨Nat.zero_le _, Nat.zero_le _⟩ rfl rfl (fun H locs hP hD hS => ?_)
  refine lv_if_ne (tgt := 14) hx hb dX6_change_8 (by decide) (fun c_2 => ?_) (fun c_2 => ?_)
  · have h := x_n c_2 h
    refine lv_iload_n hx hb dX6_change_14 rfl (lv_at hl 2 rfl) ?_
    refine lv_iload_n hx hb dX6_change_15 rfl (lv_at hl 3 rfl) ?_
    refine lv_iload hx hb dX6_change_16 (lv_at hl 4 rfl) ?_
    obtain ⟨t_3, hc, h⟩ := x_b h
    refine c_S (na := 3) (rest := []) (st1 := [.int t_3]) (Wr := [(h_x, .inr (5, [.ref h_p, .ref h_st, .ref h_ck, .ref h_t, .ref h_l, .ref h_a, .int v_x_stale, .int v_x_searches])), (h_p, .inr (3, [.ref h_po, .ref h_pf, .ref h_ps, .int v_p_length])), (h_po, .inl (cI, 20, .inl v_po)), (h_pf, .inl (cI, 20, .inl v_pf)), (h_ps, .inl (cI, 20, .inl v_ps))]) (Wn := [(h_x, .inr (5, [.ref h_p, .ref h_st, .ref h_ck, .ref h_t, .ref h_l, .ref h_a, .int v_x_stale, .int v_x_searches])), (h_p, .inr (3, [.ref h_po, .ref h_pf, .ref h_ps, .int v_p_length])), (h_po, .inl (cI, 20, .inl v_po)), (h_pf, .inl (cI, 20, .inl v_pf)), (h_ps, .inl (cI, 20, .inl v_ps))]) X hP hD hS hl.1 (m_X4_fits l D cI pt   a1 a2 a3 fu _ hc) gX6_change_X4_fits rfl ⟨rfl, rfl⟩ rfl (by decide +kernel) ⟨Nat.le_of_ble_eq_true rfl, Nat.le_of_ble_eq_true rfl⟩ [] [0, 1, 2, 3, 4] [0, 1, 2, 3, 4] rfl rfl rfl rfl (by decide) rfl rfl (Nat.le_of_ble_eq_true rfl) dX6_change_18 ⟨Nat.zero_le _, Nat.zero_le _⟩ rfl rfl (fun H locs hP hD hS => ?_)
    refine lv_if_ne (tgt := 27) hx hb dX6_change_21 (by decide) (fun c_4 => ?_) (fun c_4 => ?_)
    · have h := x_n c_4 h
      refine lv_aload_n hx hb dX6_change_27 rfl (lv_at hl 0 rfl) ?_
      refine va_get (D := D) (ci := 5) (v := .ref h_p) (C := RX6) (T := TX6) (N := 8) hx hb hts i_X6_change_X6 hown hE.1 hP 0 rfl rfl 0 (by decide) (hts _ q_X6_change_0) (fun _ h9 => h9) rfl dX6_change_28 ?_
      refine lv_iload_n hx hb dX6_change_31 rfl (lv_at hl 1 rfl) ?_
      refine lv_iload_n hx hb dX6_change_32 rfl (lv_at hl 2 rfl) ?_
      refine lv_iload_n hx hb dX6_change_33 rfl (lv_at hl 3 rfl) ?_
      refine lv_iload hx hb dX6_change_34 (lv_at hl 4 rfl) ?_
      obtain ⟨t_5, hc, h⟩ := x_b h
      refine c_V (q0 := 0) (ci := 3) (na := 4) (rest := []) (st1 := []) (Wr := [(h_x, .inr (5, [.ref h_p, .ref h_st, .ref h_ck, .ref h_t, .ref h_l, .ref h_a, .int v_x_stale, .int v_x_searches]))]) (Wn := [(h_x, .inr (5, [.ref h_p, .ref h_st, .ref h_ck, .ref h_t, .ref h_l, .ref h_a, .int v_x_stale, .int v_x_searches])), (h_p, .inr (3, [.ref h_po, .ref h_pf, .ref h_ps, .int v_p_length])), (h_po, .inl (cI, 20, .inl t_5.1)), (h_pf, .inl (cI, 20, .inl t_5.2.1)), (h_ps, .inl (cI, 20, .inl t_5.2.2))]) X hP hD hS hl.1 (m_X4_put l D cI pt h_p h_po h_pf h_ps v_p_length v_po v_pf v_ps a0 a1 a2 a3 fu _ hc) gX6_change_X4_put rfl ⟨rfl, rfl⟩ rfl (by decide +kernel) ⟨Nat.le_of_ble_eq_true rfl, Nat.le_of_ble_eq_true rfl⟩ rfl rfl [1, 2, 3, 4] [0] [0, 1, 2, 3, 4] rfl rfl rfl rfl rfl (by decide) rfl rfl (Nat.le_of_ble_eq_true rfl) dX6_change_36 ⟨Nat.zero_le _, Nat.zero_le _⟩ rfl rfl (fun H locs hP hD hS => ?_)
      refine lv_aload_n hx hb dX6_change_39 rfl (lv_at hl 0 rfl) ?_
      refine lv_iconst (v := (1 : Int32)) hx hb dX6_change_40 (by decide) ?_
      refine va_put (D := D) (ci := 5) (v := .int (1 : Int32)) (ty := .boolean) (C := RX6) (T := TX6) (N := 8) hx hb hts i_X6_change_X6 tyX6 tyX6_ok nmX6 hown hE.1 hP hD hS 0 rfl rfl 6 (by decide) (hts _ q_X6_change_2) (fun _ h9 => h9) rfl (by decide +kernel) rfl rfl (Nat.le_of_ble_eq_true rfl) dX6_change_41 (fun H locs hP hD hS => ?_)
      have hP : va_P D vwCl [(h_x, .inr (5, [.ref h_p, .ref h_st, .ref h_ck, .ref h_t, .ref h_l, .ref h_a, .int (1 : Int32), .int v_x_searches])), (h_p, .inr (3, [.ref h_po, .ref h_pf, .ref h_ps, .int v_p_length])), (h_po, .inl (cI, 20, .inl t_5.1)), (h_pf, .inl (cI, 20, .inl t_5.2.1)), (h_ps, .inl (cI, 20, .inl t_5.2.2))] H := hP
      have hD : va_D A [(h_x, .inr (5, [.ref h_p, .ref h_st, .ref h_ck, .ref h_t, .ref h_l, .ref h_a, .int (1 : Int32), .int v_x_searches])), (h_p, .inr (3, [.ref h_po, .ref h_pf, .ref h_ps, .int v_p_length])), (h_po, .inl (cI, 20, .inl t_5.1)), (h_pf, .inl (cI, 20, .inl t_5.2.1)), (h_ps, .inl (cI, 20, .inl t_5.2.2))] := hD
      refine lv_iconst (v := (1 : Int32)) hx hb dX6_change_44 (by decide) ?_
      cases h
      exact r_i X hP hD hS rfl dX6_change_45
    · have h := x_p c_4 h
      refine lv_bipush (v := (-102 : Int32)) hx hb dX6_change_24 (by decide) ?_
      cases h
      exact r_i X hP hD hS rfl dX6_change_26
  · have h := x_p c_2 h
    refine lv_bipush (v := (-101 : Int32)) hx hb dX6_change_11 (by decide) ?_
    cases h
    exact r_i X hP hD hS rfl dX6_change_13

theorem q_X6_clear_0 : (.fieldLink RX6 10 "StruckBits" "program" "LStruckBits$Program;" : Cond) ∈ wsX6_clear := by decide +kernel
theorem i_X6_clear_X6 : ∀ w ∈ u_ws RX6 TX6 8, w ∈ wsX6_clear := by decide +kernel
theorem q_X6_clear_2 : (.fieldLink RX6 56 "StruckBits$Program" "length" "I" : Cond) ∈ wsX6_clear := by decide +kernel
theorem i_X6_clear_X4 : ∀ w ∈ u_ws RX4 TX4 4, w ∈ wsX6_clear := by decide +kernel
theorem q_X6_clear_4 : (.fieldLink RX6 48 "StruckBits" "stale" "Z" : Cond) ∈ wsX6_clear := by decide +kernel
set_option maxHeartbeats 4000000 in
set_option maxRecDepth 100000 in
theorem m_X6_clear (l : Launch) (D : va_G) (cI : ClassId) (pt : Nat) (h_x h_p h_po h_pf h_ps h_st h_ck h_t h_l h_a : Nat) (v_x_stale : Int32) (v_x_searches : Int32) (v_p_length : Int32)  (fu : Nat) (res : Int32 × Int32 × Int32) (h : f_X6_clear fu v_x_stale v_p_length  = some res) :
    MT l D cI pt yX6_clear wsX6_clear ({ frames := 0, cells := 0, slots := 0, locals := 0 } : Room) [.ref h_x] [(h_x, .inr (5, [.ref h_p, .ref h_st, .ref h_ck, .ref h_t, .ref h_l, .ref h_a, .int v_x_stale, .int v_x_searches])), (h_p, .inr (3, [.ref h_po, .ref h_pf, .ref h_ps, .int v_p_length]))] (some (.int res.1)) [(h_x, .inr (5, [.ref h_p, .ref h_st, .ref h_ck, .ref h_t, .ref h_l, .ref h_a, .int res.2.1, .int v_x_searches])), (h_p, .inr (3, [.ref h_po, .ref h_pf, .ref h_ps, .int res.2.2]))] := by
  refine MT.mk (cc := cX6_clear) (maxL := 2) (ret := (some .int)) (own := RX6) (by decide) rfl rfl (Nat.le_of_ble_eq_true rfl) rfl ?_
  intro p e s m args below meth c A ls X hP hD hS hl
  obtain ⟨hx, hb, hml, hown, hts, hr, hlk, hE, hH, hA⟩ := id X
  have hl : lv_has ls 2 [(0, .ref h_x)] := hl
  unfold f_X6_clear at h
  refine lv_aload_n hx hb dX6_clear_0 rfl (lv_at hl 0 rfl) ?_
  refine va_get (D := D) (ci := 5) (v := .ref h_p) (C := RX6) (T := TX6) (N := 8) hx hb hts i_X6_clear_X6 hown hE.1 hP 0 rfl rfl 0 (by decide) (hts _ q_X6_clear_0) (fun _ h9 => h9) rfl dX6_clear_1 ?_
  refine va_get (D := D) (ci := 3) (v := .int v_p_length) (C := RX4) (T := TX4) (N := 4) hx hb hts i_X6_clear_X4 hown hE.1 hP 1 rfl rfl 3 (by decide) (hts _ q_X6_clear_2) (fun _ h9 => h9) rfl dX6_clear_4 ?_
  refine lv_istore_n (lv' := [(1, .int v_p_length), (0, .ref h_x)]) hx hb dX6_clear_7 rfl hl (by decide) rfl (fun ls hl => ?_)
  refine lv_aload_n hx hb dX6_clear_8 rfl (lv_at hl 1 rfl) ?_
  refine va_get (D := D) (ci := 5) (v := .ref h_p) (C := RX6) (T := TX6) (N := 8) hx hb hts i_X6_clear_X6 hown hE.1 hP 0 rfl rfl 0 (by decide) (hts _ q_X6_clear_0) (fun _ h9 => h9) rfl dX6_clear_9 ?_
  refine lv_iconst (v := (0 : Int32)) hx hb dX6_clear_12 (by decide) ?_
  refine va_put (D := D) (ci := 3) (v := .int (0 : Int32)) (ty := .int) (C := RX4) (T := TX4) (N := 4) hx hb hts i_X6_clear_X4 tyX4 tyX4_ok nmX4 hown hE.1 hP hD hS 1 rfl rfl 3 (by decide) (hts _ q_X6_clear_2) (fun _ h9 => h9) rfl (by decide +kernel) rfl rfl (Nat.le_of_ble_eq_true rfl) dX6_clear_13 (fun H locs hP hD hS => ?_)
  have hP : va_P D vwCl [(h_x, .inr (5, [.ref h_p, .ref h_st, .ref h_ck, .ref h_t, .ref h_l, .ref h_a, .int v_x_stale, .int v_x_searches])), (h_p, .inr (3, [.ref h_po, .ref h_pf, .ref h_ps, .int (0 : Int32)]))] H := hP
  have hD : va_D A [(h_x, .inr (5, [.ref h_p, .ref h_st, .ref h_ck, .ref h_t, .ref h_l, .ref h_a, .int v_x_stale, .int v_x_searches])), (h_p, .inr (3, [.ref h_po, .ref h_pf, .ref h_ps, .int (0 : Int32)]))] := hD
  refine lv_aload_n hx hb dX6_clear_16 rfl (lv_at hl 1 rfl) ?_
  refine lv_iconst (v := (1 : Int32)) hx hb dX6_clear_17 (by decide) ?_
  refine va_put (D := D) (ci := 5) (v := .int (1 : Int32)) (ty := .boolean) (C := RX6) (T := TX6) (N := 8) hx hb hts i_X6_clear_X6 tyX6 tyX6_ok nmX6 hown hE.1 hP hD hS 0 rfl rfl 6 (by decide) (hts _ q_X6_clear_4) (fun _ h9 => h9) rfl (by decide +kernel) rfl rfl (Nat.le_of_ble_eq_true rfl) dX6_clear_18 (fun H locs hP hD hS => ?_)
  have hP : va_P D vwCl [(h_x, .inr (5, [.ref h_p, .ref h_st, .ref h_ck, .ref h_t, .ref h_l, .ref h_a, .int (1 : Int32), .int v_x_searches])), (h_p, .inr (3, [.ref h_po, .ref h_pf, .ref h_ps, .int (0 : Int32)]))] H := hP
  have hD : va_D A [(h_x, .inr (5, [.ref h_p, .ref h_st, .ref h_ck, .ref h_t, .ref h_l, .ref h_a, .int (1 : Int32), .int v_x_searches])), (h_p, .inr (3, [.ref h_po, .ref h_pf, .ref h_ps, .int (0 : Int32)]))] := hD
  refine lv_iload_n hx hb dX6_clear_21 rfl (lv_at hl 0 rfl) ?_
  cases h
  exact r_i X hP hD hS rfl dX6_clear_22

theorem q_X6_cell_0 : (.fieldLink RX6 16 "StruckBits" "start" "[I" : Cond) ∈ wsX6_cell := by decide +kernel
theorem i_X6_cell_X6 : ∀ w ∈ u_ws RX6 TX6 8, w ∈ wsX6_cell := by decide +kernel
theorem q_X6_cell_2 : (.fieldLink RX6 48 "StruckBits" "stale" "Z" : Cond) ∈ wsX6_cell := by decide +kernel
set_option maxHeartbeats 4000000 in
set_option maxRecDepth 100000 in
theorem m_X6_cell (l : Launch) (D : va_G) (cI : ClassId) (pt : Nat) (h_x h_p h_st h_ck h_t h_l h_a : Nat) (v_x_stale : Int32) (v_x_searches : Int32) (v_st : Nat → Int32) (a0 : Int32) (a1 : Int32) (fu : Nat) (res : Int32 × Int32 × (Nat → Int32)) (h : f_X6_cell fu v_x_stale v_st a0 a1 = some res) :
    MT l D cI pt yX6_cell wsX6_cell ({ frames := 1, cells := 0, slots := 0, locals := 20 } : Room) [.ref h_x, .int a0, .int a1] [(h_x, .inr (5, [.ref h_p, .ref h_st, .ref h_ck, .ref h_t, .ref h_l, .ref h_a, .int v_x_stale, .int v_x_searches])), (h_st, .inl (cI, 8, .inl v_st))] (some (.int res.1)) [(h_x, .inr (5, [.ref h_p, .ref h_st, .ref h_ck, .ref h_t, .ref h_l, .ref h_a, .int res.2.1, .int v_x_searches])), (h_st, .inl (cI, 8, .inl res.2.2))] := by
  refine MT.mk (cc := cX6_cell) (maxL := 4) (ret := (some .int)) (own := RX6) (by decide) rfl rfl (Nat.le_of_ble_eq_true rfl) rfl ?_
  intro p e s m args below meth c A ls X hP hD hS hl
  obtain ⟨hx, hb, hml, hown, hts, hr, hlk, hE, hH, hA⟩ := id X
  have hl : lv_has ls 4 [(0, .ref h_x), (1, .int a0), (2, .int a1)] := hl
  unfold f_X6_cell at h
  refine lv_iload_n hx hb dX6_cell_0 rfl (lv_at hl 1 rfl) ?_
  obtain ⟨t_1, hc, h⟩ := x_b h
  refine c_S (na := 1) (rest := []) (st1 := [.int t_1]) (Wr := [(h_x, .inr (5, [.ref h_p, .ref h_st, .ref h_ck, .ref h_t, .ref h_l, .ref h_a, .int v_x_stale, .int v_x_searches])), (h_st, .inl (cI, 8, .inl v_st))]) (Wn := [(h_x, .inr (5, [.ref h_p, .ref h_st, .ref h_ck, .ref h_t, .ref h_l, .ref h_a, .int v_x_stale, .int v_x_searches])), (h_st, .inl (cI, 8, .inl v_st))]) X hP hD hS hl.1 (m_X6_isCell l D cI pt   a0 fu _ hc) gX6_cell_X6_isCell rfl ⟨rfl, rfl⟩ rfl (by decide +kernel) ⟨Nat.le_of_ble_eq_true rfl, Nat.le_of_ble_eq_true rfl⟩ [] [0, 1] [0, 1] rfl rfl rfl rfl (by decide) rfl rfl (Nat.le_of_ble_eq_true rfl) dX6_cell_1 ⟨Nat.zero_le _, Nat.zero_le _⟩ rfl rfl (fun H locs hP hD hS => ?_)
  refine lv_if_ne (tgt := 10) hx hb dX6_cell_4 (by decide) (fun c_2 => ?_) (fun c_2 => ?_)
  · have h := x_n c_2 h
    refine lv_iload_n hx hb dX6_cell_10 rfl (lv_at hl 2 rfl) ?_
    refine lv_if_lt (tgt := 21) hx hb dX6_cell_11 (by decide) (fun c_3 => ?_) (fun c_3 => ?_)
    · have h := x_p c_3 h
      refine lv_bipush (v := (-102 : Int32)) hx hb dX6_cell_21 (by decide) ?_
      cases h
      exact r_i X hP hD hS rfl dX6_cell_23
    · have h := x_n c_3 h
      refine lv_iload_n hx hb dX6_cell_14 rfl (lv_at hl 2 rfl) ?_
      refine lv_sipush (v := (255 : Int32)) hx hb dX6_cell_15 (by decide) ?_
      refine lv_icmp_le (tgt := 24) hx hb dX6_cell_18 (by decide) (fun c_4 => ?_) (fun c_4 => ?_)
      · have h := x_p c_4 h
        refine lv_aload_n hx hb dX6_cell_24 rfl (lv_at hl 0 rfl) ?_
        refine va_get (D := D) (ci := 5) (v := .ref h_st) (C := RX6) (T := TX6) (N := 8) hx hb hts i_X6_cell_X6 hown hE.1 hP 0 rfl rfl 1 (by decide) (hts _ q_X6_cell_0) (fun _ h9 => h9) rfl dX6_cell_25 ?_
        refine lv_iload_n hx hb dX6_cell_28 rfl (lv_at hl 1 rfl) ?_
        obtain ⟨g_5, h⟩ := x_gd h
        refine va_iald hx hb hE.1 hP 1 0 rfl rfl g_5 dX6_cell_29 ?_
        refine lv_istore_n (lv' := [(3, .int (v_st a0.toNatClampNeg)), (0, .ref h_x), (1, .int a0), (2, .int a1)]) hx hb dX6_cell_30 rfl hl (by decide) rfl (fun ls hl => ?_)
        refine lv_aload_n hx hb dX6_cell_31 rfl (lv_at hl 1 rfl) ?_
        refine va_get (D := D) (ci := 5) (v := .ref h_st) (C := RX6) (T := TX6) (N := 8) hx hb hts i_X6_cell_X6 hown hE.1 hP 0 rfl rfl 1 (by decide) (hts _ q_X6_cell_0) (fun _ h9 => h9) rfl dX6_cell_32 ?_
        refine lv_iload_n hx hb dX6_cell_35 rfl (lv_at hl 2 rfl) ?_
        refine lv_iload_n hx hb dX6_cell_36 rfl (lv_at hl 3 rfl) ?_
        obtain ⟨g_6, h⟩ := x_gd h
        refine va_iast hx hb hE.1 hP hD hS 1 0 rfl rfl g_6 dX6_cell_37 (fun H locs hP hD hS => ?_)
        have hP : va_P D vwCl [(h_x, .inr (5, [.ref h_p, .ref h_st, .ref h_ck, .ref h_t, .ref h_l, .ref h_a, .int v_x_stale, .int v_x_searches])), (h_st, .inl (cI, 8, .inl (upd v_st a0.toNatClampNeg a1)))] H := hP
        have hD : va_D A [(h_x, .inr (5, [.ref h_p, .ref h_st, .ref h_ck, .ref h_t, .ref h_l, .ref h_a, .int v_x_stale, .int v_x_searches])), (h_st, .inl (cI, 8, .inl (upd v_st a0.toNatClampNeg a1)))] := hD
        refine lv_aload_n hx hb dX6_cell_38 rfl (lv_at hl 1 rfl) ?_
        refine lv_iconst (v := (1 : Int32)) hx hb dX6_cell_39 (by decide) ?_
        refine va_put (D := D) (ci := 5) (v := .int (1 : Int32)) (ty := .boolean) (C := RX6) (T := TX6) (N := 8) hx hb hts i_X6_cell_X6 tyX6 tyX6_ok nmX6 hown hE.1 hP hD hS 0 rfl rfl 6 (by decide) (hts _ q_X6_cell_2) (fun _ h9 => h9) rfl (by decide +kernel) rfl rfl (Nat.le_of_ble_eq_true rfl) dX6_cell_40 (fun H locs hP hD hS => ?_)
        have hP : va_P D vwCl [(h_x, .inr (5, [.ref h_p, .ref h_st, .ref h_ck, .ref h_t, .ref h_l, .ref h_a, .int (1 : Int32), .int v_x_searches])), (h_st, .inl (cI, 8, .inl (upd v_st a0.toNatClampNeg a1)))] H := hP
        have hD : va_D A [(h_x, .inr (5, [.ref h_p, .ref h_st, .ref h_ck, .ref h_t, .ref h_l, .ref h_a, .int (1 : Int32), .int v_x_searches])), (h_st, .inl (cI, 8, .inl (upd v_st a0.toNatClampNeg a1)))] := hD
        refine lv_iload_n hx hb dX6_cell_43 rfl (lv_at hl 0 rfl) ?_
        cases h
        exact r_i X hP hD hS rfl dX6_cell_44
      · have h := x_n c_4 h
        refine lv_bipush (v := (-102 : Int32)) hx hb dX6_cell_21 (by decide) ?_
        cases h
        exact r_i X hP hD hS rfl dX6_cell_23
  · have h := x_p c_2 h
    refine lv_bipush (v := (-101 : Int32)) hx hb dX6_cell_7 (by decide) ?_
    cases h
    exact r_i X hP hD hS rfl dX6_cell_9

theorem q_X6_check_0 : (.fieldLink RX6 20 "StruckBits" "checks" "[I" : Cond) ∈ wsX6_check := by decide +kernel
theorem i_X6_check_X6 : ∀ w ∈ u_ws RX6 TX6 8, w ∈ wsX6_check := by decide +kernel
set_option maxHeartbeats 4000000 in
set_option maxRecDepth 100000 in
theorem m_X6_check (l : Launch) (D : va_G) (cI : ClassId) (pt : Nat) (h_x h_p h_st h_ck h_t h_l h_a : Nat) (v_x_stale : Int32) (v_x_searches : Int32) (v_ck : Nat → Int32) (a0 : Int32) (a1 : Int32) (fu : Nat) (res : Int32 × (Nat → Int32)) (h : f_X6_check fu v_ck a0 a1 = some res) :
    MT l D cI pt yX6_check wsX6_check ({ frames := 1, cells := 0, slots := 0, locals := 20 } : Room) [.ref h_x, .int a0, .int a1] [(h_x, .inr (5, [.ref h_p, .ref h_st, .ref h_ck, .ref h_t, .ref h_l, .ref h_a, .int v_x_stale, .int v_x_searches])), (h_ck, .inl (cI, 8, .inl v_ck))] (some (.int res.1)) [(h_x, .inr (5, [.ref h_p, .ref h_st, .ref h_ck, .ref h_t, .ref h_l, .ref h_a, .int v_x_stale, .int v_x_searches])), (h_ck, .inl (cI, 8, .inl res.2))] := by
  refine MT.mk (cc := cX6_check) (maxL := 4) (ret := (some .int)) (own := RX6) (by decide) rfl rfl (Nat.le_of_ble_eq_true rfl) rfl ?_
  intro p e s m args below meth c A ls X hP hD hS hl
  obtain ⟨hx, hb, hml, hown, hts, hr, hlk, hE, hH, hA⟩ := id X
  have hl : lv_has ls 4 [(0, .ref h_x), (1, .int a0), (2, .int a1)] := hl
  unfold f_X6_check at h
  refine lv_iload_n hx hb dX6_check_0 rfl (lv_at hl 1 rfl) ?_
  obtain ⟨t_1, hc, h⟩ := x_b h
  refine c_S (na := 1) (rest := []) (st1 := [.int t_1]) (Wr := [(h_x, .inr (5, [.ref h_p, .ref h_st, .ref h_ck, .ref h_t, .ref h_l, .ref h_a, .int v_x_stale, .int v_x_searches])), (h_ck, .inl (cI, 8, .inl v_ck))]) (Wn := [(h_x, .inr (5, [.ref h_p, .ref h_st, .ref h_ck, .ref h_t, .ref h_l, .ref h_a, .int v_x_stale, .int v_x_searches])), (h_ck, .inl (cI, 8, .inl v_ck))]) X hP hD hS hl.1 (m_X6_isCell l D cI pt   a0 fu _ hc) gX6_check_X6_isCell rfl ⟨rfl, rfl⟩ rfl (by decide +kernel) ⟨Nat.le_of_ble_eq_true rfl, Nat.le_of_ble_eq_true rfl⟩ [] [0, 1] [0, 1] rfl rfl rfl rfl (by decide) rfl rfl (Nat.le_of_ble_eq_true rfl) dX6_check_1 ⟨Nat.zero_le _, Nat.zero_le _⟩ rfl rfl (fun H locs hP hD hS => ?_)
  refine lv_if_ne (tgt := 10) hx hb dX6_check_4 (by decide) (fun c_2 => ?_) (fun c_2 => ?_)
  · have h := x_n c_2 h
    refine lv_iload_n hx hb dX6_check_10 rfl (lv_at hl 2 rfl) ?_
    refine lv_if_lt (tgt := 19) hx hb dX6_check_11 (by decide) (fun c_3 => ?_) (fun c_3 => ?_)
    · have h := x_p c_3 h
      refine lv_bipush (v := (-102 : Int32)) hx hb dX6_check_19 (by decide) ?_
      cases h
      exact r_i X hP hD hS rfl dX6_check_21
    · have h := x_n c_3 h
      refine lv_iload_n hx hb dX6_check_14 rfl (lv_at hl 2 rfl) ?_
      refine lv_iconst (v := (4 : Int32)) hx hb dX6_check_15 (by decide) ?_
      refine lv_icmp_lt (tgt := 22) hx hb dX6_check_16 (by decide) (fun c_4 => ?_) (fun c_4 => ?_)
      · have h := x_p c_4 h
        refine lv_aload_n hx hb dX6_check_22 rfl (lv_at hl 0 rfl) ?_
        refine va_get (D := D) (ci := 5) (v := .ref h_ck) (C := RX6) (T := TX6) (N := 8) hx hb hts i_X6_check_X6 hown hE.1 hP 0 rfl rfl 2 (by decide) (hts _ q_X6_check_0) (fun _ h9 => h9) rfl dX6_check_23 ?_
        refine lv_iload_n hx hb dX6_check_26 rfl (lv_at hl 1 rfl) ?_
        obtain ⟨g_5, h⟩ := x_gd h
        refine va_iald hx hb hE.1 hP 1 0 rfl rfl g_5 dX6_check_27 ?_
        refine lv_istore_n (lv' := [(3, .int (v_ck a0.toNatClampNeg)), (0, .ref h_x), (1, .int a0), (2, .int a1)]) hx hb dX6_check_28 rfl hl (by decide) rfl (fun ls hl => ?_)
        refine lv_aload_n hx hb dX6_check_29 rfl (lv_at hl 1 rfl) ?_
        refine va_get (D := D) (ci := 5) (v := .ref h_ck) (C := RX6) (T := TX6) (N := 8) hx hb hts i_X6_check_X6 hown hE.1 hP 0 rfl rfl 2 (by decide) (hts _ q_X6_check_0) (fun _ h9 => h9) rfl dX6_check_30 ?_
        refine lv_iload_n hx hb dX6_check_33 rfl (lv_at hl 2 rfl) ?_
        refine lv_iload_n hx hb dX6_check_34 rfl (lv_at hl 3 rfl) ?_
        obtain ⟨g_6, h⟩ := x_gd h
        refine va_iast hx hb hE.1 hP hD hS 1 0 rfl rfl g_6 dX6_check_35 (fun H locs hP hD hS => ?_)
        have hP : va_P D vwCl [(h_x, .inr (5, [.ref h_p, .ref h_st, .ref h_ck, .ref h_t, .ref h_l, .ref h_a, .int v_x_stale, .int v_x_searches])), (h_ck, .inl (cI, 8, .inl (upd v_ck a0.toNatClampNeg a1)))] H := hP
        have hD : va_D A [(h_x, .inr (5, [.ref h_p, .ref h_st, .ref h_ck, .ref h_t, .ref h_l, .ref h_a, .int v_x_stale, .int v_x_searches])), (h_ck, .inl (cI, 8, .inl (upd v_ck a0.toNatClampNeg a1)))] := hD
        refine lv_iload_n hx hb dX6_check_36 rfl (lv_at hl 0 rfl) ?_
        cases h
        exact r_i X hP hD hS rfl dX6_check_37
      · have h := x_n c_4 h
        refine lv_bipush (v := (-102 : Int32)) hx hb dX6_check_19 (by decide) ?_
        cases h
        exact r_i X hP hD hS rfl dX6_check_21
  · have h := x_p c_2 h
    refine lv_bipush (v := (-101 : Int32)) hx hb dX6_check_7 (by decide) ?_
    cases h
    exact r_i X hP hD hS rfl dX6_check_9

theorem q_X6_run_0 : (.fieldLink RX6 75 "StruckBits$Machine" "ending" "I" : Cond) ∈ wsX6_run := by decide +kernel
theorem i_X6_run_X3 : ∀ w ∈ u_ws RX3 TX3 10, w ∈ wsX6_run := by decide +kernel
set_option maxHeartbeats 4000000 in
set_option maxRecDepth 100000 in
theorem m_X6_run (l : Launch) (D : va_G) (cI : ClassId) (pt : Nat) (h_x h_p h_po h_pf h_ps h_st h_ck h_t h_m h_mc h_mr h_tc h_tn h_tt h_tr h_tw h_l h_k h_lf h_ls h_a : Nat) (v_x_stale : Int32) (v_x_searches : Int32) (v_p_length : Int32) (v_po : Nat → Int32) (v_pf : Nat → Int32) (v_ps : Nat → Int32) (v_st : Nat → Int32) (v_m_rowLength : Int32) (v_m_next : Int32) (v_m_tick : Int32) (v_m_ending : Int32) (v_m_readNow : Int32) (v_m_writtenNow : Int32) (v_m_writtenSince : Int32) (v_mc : Nat → Int32) (v_mr : Nat → Int32) (v_tc : Nat → Int32) (v_tn : Nat → Int32) (v_tt : Nat → Int32) (v_tr : Nat → Int32) (v_tw : Nat → Int32) (v_l_width : Int32)  (fu : Nat) (res : Int32 × Int32 × Int32 × Int32 × Int32 × Int32 × Int32 × Int32 × Int32 × (Nat → Int32) × (Nat → Int32) × (Nat → Int32) × (Nat → Int32) × (Nat → Int32) × (Nat → Int32) × (Nat → Int32) × Int32) (h : f_X6_run fu v_x_stale v_p_length v_po v_pf v_ps v_st v_m_rowLength v_m_next v_m_tick v_m_ending v_m_readNow v_m_writtenNow v_m_writtenSince v_mc v_mr v_tc v_tn v_tt v_tr v_tw v_l_width  = some res) :
    MT l D cI pt yX6_run wsX6_run ({ frames := 5, cells := 0, slots := 0, locals := 111 } : Room) [.ref h_x] [(h_x, .inr (5, [.ref h_p, .ref h_st, .ref h_ck, .ref h_t, .ref h_l, .ref h_a, .int v_x_stale, .int v_x_searches])), (h_p, .inr (3, [.ref h_po, .ref h_pf, .ref h_ps, .int v_p_length])), (h_po, .inl (cI, 20, .inl v_po)), (h_pf, .inl (cI, 20, .inl v_pf)), (h_ps, .inl (cI, 20, .inl v_ps)), (h_st, .inl (cI, 8, .inl v_st)), (h_t, .inr (4, [.ref h_m, .ref h_tc, .ref h_tn, .ref h_tt, .ref h_tr, .ref h_tw])), (h_m, .inr (2, [.ref h_p, .ref h_mc, .ref h_mr, .int v_m_rowLength, .int v_m_next, .int v_m_tick, .int v_m_ending, .int v_m_readNow, .int v_m_writtenNow, .int v_m_writtenSince])), (h_mc, .inl (cI, 8, .inl v_mc)), (h_mr, .inl (cI, 12, .inl v_mr)), (h_tc, .inl (cI, 800, .inl v_tc)), (h_tn, .inl (cI, 100, .inl v_tn)), (h_tt, .inl (cI, 100, .inl v_tt)), (h_tr, .inl (cI, 100, .inl v_tr)), (h_tw, .inl (cI, 100, .inl v_tw)), (h_l, .inr (1, [.ref h_t, .ref h_k, .ref h_lf, .ref h_ls, .int v_l_width]))] (some (.int res.1)) [(h_x, .inr (5, [.ref h_p, .ref h_st, .ref h_ck, .ref h_t, .ref h_l, .ref h_a, .int res.2.1, .int v_x_searches])), (h_p, .inr (3, [.ref h_po, .ref h_pf, .ref h_ps, .int v_p_length])), (h_po, .inl (cI, 20, .inl v_po)), (h_pf, .inl (cI, 20, .inl v_pf)), (h_ps, .inl (cI, 20, .inl v_ps)), (h_st, .inl (cI, 8, .inl v_st)), (h_t, .inr (4, [.ref h_m, .ref h_tc, .ref h_tn, .ref h_tt, .ref h_tr, .ref h_tw])), (h_m, .inr (2, [.ref h_p, .ref h_mc, .ref h_mr, .int res.2.2.1, .int res.2.2.2.1, .int res.2.2.2.2.1, .int res.2.2.2.2.2.1, .int res.2.2.2.2.2.2.1, .int res.2.2.2.2.2.2.2.1, .int res.2.2.2.2.2.2.2.2.1])), (h_mc, .inl (cI, 8, .inl res.2.2.2.2.2.2.2.2.2.1)), (h_mr, .inl (cI, 12, .inl res.2.2.2.2.2.2.2.2.2.2.1)), (h_tc, .inl (cI, 800, .inl res.2.2.2.2.2.2.2.2.2.2.2.1)), (h_tn, .inl (cI, 100, .inl res.2.2.2.2.2.2.2.2.2.2.2.2.1)), (h_tt, .inl (cI, 100, .inl res.2.2.2.2.2.2.2.2.2.2.2.2.2.1)), (h_tr, .inl (cI, 100, .inl res.2.2.2.2.2.2.2.2.2.2.2.2.2.2.1)), (h_tw, .inl (cI, 100, .inl res.2.2.2.2.2.2.2.2.2.2.2.2.2.2.2.1)), (h_l, .inr (1, [.ref h_t, .ref h_k, .ref h_lf, .ref h_ls, .int res.2.2.2.2.2.2.2.2.2.2.2.2.2.2.2.2]))] := by
  refine MT.mk (cc := cX6_run) (maxL := 1) (ret := (some .int)) (own := RX6) (by decide) rfl rfl (Nat.le_of_ble_eq_true rfl) rfl ?_
  intro p e s m args below meth c A ls X hP hD hS hl
  obtain ⟨hx, hb, hml, hown, hts, hr, hlk, hE, hH, hA⟩ := id X
  have hl : lv_has ls 1 [(0, .ref h_x)] := hl
  unfold f_X6_run at h
  refine lv_aload_n hx hb dX6_run_0 rfl (lv_at hl 0 rfl) ?_
  obtain ⟨t_1, hc, h⟩ := x_b h
  refine c_V (q0 := 0) (ci := 5) (na := 0) (rest := []) (st1 := [.ref h_m]) (Wr := []) (Wn := [(h_x, .inr (5, [.ref h_p, .ref h_st, .ref h_ck, .ref h_t, .ref h_l, .ref h_a, .int t_1.1, .int v_x_searches])), (h_p, .inr (3, [.ref h_po, .ref h_pf, .ref h_ps, .int v_p_length])), (h_po, .inl (cI, 20, .inl v_po)), (h_pf, .inl (cI, 20, .inl v_pf)), (h_ps, .inl (cI, 20, .inl v_ps)), (h_st, .inl (cI, 8, .inl v_st)), (h_t, .inr (4, [.ref h_m, .ref h_tc, .ref h_tn, .ref h_tt, .ref h_tr, .ref h_tw])), (h_m, .inr (2, [.ref h_p, .ref h_mc, .ref h_mr, .int t_1.2.1, .int t_1.2.2.1, .int t_1.2.2.2.1, .int t_1.2.2.2.2.1, .int t_1.2.2.2.2.2.1, .int t_1.2.2.2.2.2.2.1, .int t_1.2.2.2.2.2.2.2.1])), (h_mc, .inl (cI, 8, .inl t_1.2.2.2.2.2.2.2.2.1)), (h_mr, .inl (cI, 12, .inl t_1.2.2.2.2.2.2.2.2.2.1)), (h_tc, .inl (cI, 800, .inl t_1.2.2.2.2.2.2.2.2.2.2.1)), (h_tn, .inl (cI, 100, .inl t_1.2.2.2.2.2.2.2.2.2.2.2.1)), (h_tt, .inl (cI, 100, .inl t_1.2.2.2.2.2.2.2.2.2.2.2.2.1)), (h_tr, .inl (cI, 100, .inl t_1.2.2.2.2.2.2.2.2.2.2.2.2.2.1)), (h_tw, .inl (cI, 100, .inl t_1.2.2.2.2.2.2.2.2.2.2.2.2.2.2.1)), (h_l, .inr (1, [.ref h_t, .ref h_k, .ref h_lf, .ref h_ls, .int t_1.2.2.2.2.2.2.2.2.2.2.2.2.2.2.2]))]) X hP hD hS hl.1 (m_X6_plainRun l D cI pt h_x h_p h_po h_pf h_ps h_st h_ck h_t h_m h_mc h_mr h_tc h_tn h_tt h_tr h_tw h_l h_k h_lf h_ls h_a v_x_stale v_x_searches v_p_length v_po v_pf v_ps v_st v_m_rowLength v_m_next v_m_tick v_m_ending v_m_readNow v_m_writtenNow v_m_writtenSince v_mc v_mr v_tc v_tn v_tt v_tr v_tw v_l_width  fu _ hc) gX6_run_X6_plainRun rfl ⟨rfl, rfl⟩ rfl (by decide +kernel) ⟨Nat.le_of_ble_eq_true rfl, Nat.le_of_ble_eq_true rfl⟩ rfl rfl [0, 1, 2, 3, 4, 5, 6, 7, 8, 9, 10, 11, 12, 13, 14, 15] [] [0, 1, 2, 3, 4, 5, 6, 7, 8, 9, 10, 11, 12, 13, 14, 15] rfl rfl rfl rfl rfl (by decide) rfl rfl (Nat.le_of_ble_eq_true rfl) dX6_run_1 ⟨Nat.zero_le _, Nat.zero_le _⟩ rfl rfl (fun H locs hP hD hS => ?_)
  refine va_get (D := D) (ci := 2) (v := .int t_1.2.2.2.2.1) (C := RX3) (T := TX3) (N := 10) hx hb hts i_X6_run_X3 hown hE.1 hP 7 rfl rfl 6 (by decide) (hts _ q_X6_run_0) (fun _ h9 => h9) rfl dX6_run_4 ?_
  cases h
  exact r_i X hP hD hS rfl dX6_run_7

theorem q_X6_ticks_0 : (.fieldLink RX6 80 "StruckBits$Machine" "tick" "I" : Cond) ∈ wsX6_ticks := by decide +kernel
theorem i_X6_ticks_X3 : ∀ w ∈ u_ws RX3 TX3 10, w ∈ wsX6_ticks := by decide +kernel
set_option maxHeartbeats 4000000 in
set_option maxRecDepth 100000 in
theorem m_X6_ticks (l : Launch) (D : va_G) (cI : ClassId) (pt : Nat) (h_x h_p h_po h_pf h_ps h_st h_ck h_t h_m h_mc h_mr h_tc h_tn h_tt h_tr h_tw h_l h_k h_lf h_ls h_a : Nat) (v_x_stale : Int32) (v_x_searches : Int32) (v_p_length : Int32) (v_po : Nat → Int32) (v_pf : Nat → Int32) (v_ps : Nat → Int32) (v_st : Nat → Int32) (v_m_rowLength : Int32) (v_m_next : Int32) (v_m_tick : Int32) (v_m_ending : Int32) (v_m_readNow : Int32) (v_m_writtenNow : Int32) (v_m_writtenSince : Int32) (v_mc : Nat → Int32) (v_mr : Nat → Int32) (v_tc : Nat → Int32) (v_tn : Nat → Int32) (v_tt : Nat → Int32) (v_tr : Nat → Int32) (v_tw : Nat → Int32) (v_l_width : Int32)  (fu : Nat) (res : Int32 × Int32 × Int32 × Int32 × Int32 × Int32 × Int32 × Int32 × Int32 × (Nat → Int32) × (Nat → Int32) × (Nat → Int32) × (Nat → Int32) × (Nat → Int32) × (Nat → Int32) × (Nat → Int32) × Int32) (h : f_X6_ticks fu v_x_stale v_p_length v_po v_pf v_ps v_st v_m_rowLength v_m_next v_m_tick v_m_ending v_m_readNow v_m_writtenNow v_m_writtenSince v_mc v_mr v_tc v_tn v_tt v_tr v_tw v_l_width  = some res) :
    MT l D cI pt yX6_ticks wsX6_ticks ({ frames := 5, cells := 0, slots := 0, locals := 111 } : Room) [.ref h_x] [(h_x, .inr (5, [.ref h_p, .ref h_st, .ref h_ck, .ref h_t, .ref h_l, .ref h_a, .int v_x_stale, .int v_x_searches])), (h_p, .inr (3, [.ref h_po, .ref h_pf, .ref h_ps, .int v_p_length])), (h_po, .inl (cI, 20, .inl v_po)), (h_pf, .inl (cI, 20, .inl v_pf)), (h_ps, .inl (cI, 20, .inl v_ps)), (h_st, .inl (cI, 8, .inl v_st)), (h_t, .inr (4, [.ref h_m, .ref h_tc, .ref h_tn, .ref h_tt, .ref h_tr, .ref h_tw])), (h_m, .inr (2, [.ref h_p, .ref h_mc, .ref h_mr, .int v_m_rowLength, .int v_m_next, .int v_m_tick, .int v_m_ending, .int v_m_readNow, .int v_m_writtenNow, .int v_m_writtenSince])), (h_mc, .inl (cI, 8, .inl v_mc)), (h_mr, .inl (cI, 12, .inl v_mr)), (h_tc, .inl (cI, 800, .inl v_tc)), (h_tn, .inl (cI, 100, .inl v_tn)), (h_tt, .inl (cI, 100, .inl v_tt)), (h_tr, .inl (cI, 100, .inl v_tr)), (h_tw, .inl (cI, 100, .inl v_tw)), (h_l, .inr (1, [.ref h_t, .ref h_k, .ref h_lf, .ref h_ls, .int v_l_width]))] (some (.int res.1)) [(h_x, .inr (5, [.ref h_p, .ref h_st, .ref h_ck, .ref h_t, .ref h_l, .ref h_a, .int res.2.1, .int v_x_searches])), (h_p, .inr (3, [.ref h_po, .ref h_pf, .ref h_ps, .int v_p_length])), (h_po, .inl (cI, 20, .inl v_po)), (h_pf, .inl (cI, 20, .inl v_pf)), (h_ps, .inl (cI, 20, .inl v_ps)), (h_st, .inl (cI, 8, .inl v_st)), (h_t, .inr (4, [.ref h_m, .ref h_tc, .ref h_tn, .ref h_tt, .ref h_tr, .ref h_tw])), (h_m, .inr (2, [.ref h_p, .ref h_mc, .ref h_mr, .int res.2.2.1, .int res.2.2.2.1, .int res.2.2.2.2.1, .int res.2.2.2.2.2.1, .int res.2.2.2.2.2.2.1, .int res.2.2.2.2.2.2.2.1, .int res.2.2.2.2.2.2.2.2.1])), (h_mc, .inl (cI, 8, .inl res.2.2.2.2.2.2.2.2.2.1)), (h_mr, .inl (cI, 12, .inl res.2.2.2.2.2.2.2.2.2.2.1)), (h_tc, .inl (cI, 800, .inl res.2.2.2.2.2.2.2.2.2.2.2.1)), (h_tn, .inl (cI, 100, .inl res.2.2.2.2.2.2.2.2.2.2.2.2.1)), (h_tt, .inl (cI, 100, .inl res.2.2.2.2.2.2.2.2.2.2.2.2.2.1)), (h_tr, .inl (cI, 100, .inl res.2.2.2.2.2.2.2.2.2.2.2.2.2.2.1)), (h_tw, .inl (cI, 100, .inl res.2.2.2.2.2.2.2.2.2.2.2.2.2.2.2.1)), (h_l, .inr (1, [.ref h_t, .ref h_k, .ref h_lf, .ref h_ls, .int res.2.2.2.2.2.2.2.2.2.2.2.2.2.2.2.2]))] := by
  refine MT.mk (cc := cX6_ticks) (maxL := 1) (ret := (some .int)) (own := RX6) (by decide) rfl rfl (Nat.le_of_ble_eq_true rfl) rfl ?_
  intro p e s m args below meth c A ls X hP hD hS hl
  obtain ⟨hx, hb, hml, hown, hts, hr, hlk, hE, hH, hA⟩ := id X
  have hl : lv_has ls 1 [(0, .ref h_x)] := hl
  unfold f_X6_ticks at h
  refine lv_aload_n hx hb dX6_ticks_0 rfl (lv_at hl 0 rfl) ?_
  obtain ⟨t_1, hc, h⟩ := x_b h
  refine c_V (q0 := 0) (ci := 5) (na := 0) (rest := []) (st1 := [.ref h_m]) (Wr := []) (Wn := [(h_x, .inr (5, [.ref h_p, .ref h_st, .ref h_ck, .ref h_t, .ref h_l, .ref h_a, .int t_1.1, .int v_x_searches])), (h_p, .inr (3, [.ref h_po, .ref h_pf, .ref h_ps, .int v_p_length])), (h_po, .inl (cI, 20, .inl v_po)), (h_pf, .inl (cI, 20, .inl v_pf)), (h_ps, .inl (cI, 20, .inl v_ps)), (h_st, .inl (cI, 8, .inl v_st)), (h_t, .inr (4, [.ref h_m, .ref h_tc, .ref h_tn, .ref h_tt, .ref h_tr, .ref h_tw])), (h_m, .inr (2, [.ref h_p, .ref h_mc, .ref h_mr, .int t_1.2.1, .int t_1.2.2.1, .int t_1.2.2.2.1, .int t_1.2.2.2.2.1, .int t_1.2.2.2.2.2.1, .int t_1.2.2.2.2.2.2.1, .int t_1.2.2.2.2.2.2.2.1])), (h_mc, .inl (cI, 8, .inl t_1.2.2.2.2.2.2.2.2.1)), (h_mr, .inl (cI, 12, .inl t_1.2.2.2.2.2.2.2.2.2.1)), (h_tc, .inl (cI, 800, .inl t_1.2.2.2.2.2.2.2.2.2.2.1)), (h_tn, .inl (cI, 100, .inl t_1.2.2.2.2.2.2.2.2.2.2.2.1)), (h_tt, .inl (cI, 100, .inl t_1.2.2.2.2.2.2.2.2.2.2.2.2.1)), (h_tr, .inl (cI, 100, .inl t_1.2.2.2.2.2.2.2.2.2.2.2.2.2.1)), (h_tw, .inl (cI, 100, .inl t_1.2.2.2.2.2.2.2.2.2.2.2.2.2.2.1)), (h_l, .inr (1, [.ref h_t, .ref h_k, .ref h_lf, .ref h_ls, .int t_1.2.2.2.2.2.2.2.2.2.2.2.2.2.2.2]))]) X hP hD hS hl.1 (m_X6_plainRun l D cI pt h_x h_p h_po h_pf h_ps h_st h_ck h_t h_m h_mc h_mr h_tc h_tn h_tt h_tr h_tw h_l h_k h_lf h_ls h_a v_x_stale v_x_searches v_p_length v_po v_pf v_ps v_st v_m_rowLength v_m_next v_m_tick v_m_ending v_m_readNow v_m_writtenNow v_m_writtenSince v_mc v_mr v_tc v_tn v_tt v_tr v_tw v_l_width  fu _ hc) gX6_ticks_X6_plainRun rfl ⟨rfl, rfl⟩ rfl (by decide +kernel) ⟨Nat.le_of_ble_eq_true rfl, Nat.le_of_ble_eq_true rfl⟩ rfl rfl [0, 1, 2, 3, 4, 5, 6, 7, 8, 9, 10, 11, 12, 13, 14, 15] [] [0, 1, 2, 3, 4, 5, 6, 7, 8, 9, 10, 11, 12, 13, 14, 15] rfl rfl rfl rfl rfl (by decide) rfl rfl (Nat.le_of_ble_eq_true rfl) dX6_ticks_1 ⟨Nat.zero_le _, Nat.zero_le _⟩ rfl rfl (fun H locs hP hD hS => ?_)
  refine va_get (D := D) (ci := 2) (v := .int t_1.2.2.2.1) (C := RX3) (T := TX3) (N := 10) hx hb hts i_X6_ticks_X3 hown hE.1 hP 7 rfl rfl 5 (by decide) (hts _ q_X6_ticks_0) (fun _ h9 => h9) rfl dX6_ticks_4 ?_
  cases h
  exact r_i X hP hD hS rfl dX6_ticks_7

theorem q_X6_many_0 : (.fieldLink RX6 83 "StruckBits$Machine" "rowLength" "I" : Cond) ∈ wsX6_many := by decide +kernel
theorem i_X6_many_X3 : ∀ w ∈ u_ws RX3 TX3 10, w ∈ wsX6_many := by decide +kernel
set_option maxHeartbeats 4000000 in
set_option maxRecDepth 100000 in
theorem m_X6_many (l : Launch) (D : va_G) (cI : ClassId) (pt : Nat) (h_x h_p h_po h_pf h_ps h_st h_ck h_t h_m h_mc h_mr h_tc h_tn h_tt h_tr h_tw h_l h_k h_lf h_ls h_a : Nat) (v_x_stale : Int32) (v_x_searches : Int32) (v_p_length : Int32) (v_po : Nat → Int32) (v_pf : Nat → Int32) (v_ps : Nat → Int32) (v_st : Nat → Int32) (v_m_rowLength : Int32) (v_m_next : Int32) (v_m_tick : Int32) (v_m_ending : Int32) (v_m_readNow : Int32) (v_m_writtenNow : Int32) (v_m_writtenSince : Int32) (v_mc : Nat → Int32) (v_mr : Nat → Int32) (v_tc : Nat → Int32) (v_tn : Nat → Int32) (v_tt : Nat → Int32) (v_tr : Nat → Int32) (v_tw : Nat → Int32) (v_l_width : Int32)  (fu : Nat) (res : Int32 × Int32 × Int32 × Int32 × Int32 × Int32 × Int32 × Int32 × Int32 × (Nat → Int32) × (Nat → Int32) × (Nat → Int32) × (Nat → Int32) × (Nat → Int32) × (Nat → Int32) × (Nat → Int32) × Int32) (h : f_X6_many fu v_x_stale v_p_length v_po v_pf v_ps v_st v_m_rowLength v_m_next v_m_tick v_m_ending v_m_readNow v_m_writtenNow v_m_writtenSince v_mc v_mr v_tc v_tn v_tt v_tr v_tw v_l_width  = some res) :
    MT l D cI pt yX6_many wsX6_many ({ frames := 5, cells := 0, slots := 0, locals := 111 } : Room) [.ref h_x] [(h_x, .inr (5, [.ref h_p, .ref h_st, .ref h_ck, .ref h_t, .ref h_l, .ref h_a, .int v_x_stale, .int v_x_searches])), (h_p, .inr (3, [.ref h_po, .ref h_pf, .ref h_ps, .int v_p_length])), (h_po, .inl (cI, 20, .inl v_po)), (h_pf, .inl (cI, 20, .inl v_pf)), (h_ps, .inl (cI, 20, .inl v_ps)), (h_st, .inl (cI, 8, .inl v_st)), (h_t, .inr (4, [.ref h_m, .ref h_tc, .ref h_tn, .ref h_tt, .ref h_tr, .ref h_tw])), (h_m, .inr (2, [.ref h_p, .ref h_mc, .ref h_mr, .int v_m_rowLength, .int v_m_next, .int v_m_tick, .int v_m_ending, .int v_m_readNow, .int v_m_writtenNow, .int v_m_writtenSince])), (h_mc, .inl (cI, 8, .inl v_mc)), (h_mr, .inl (cI, 12, .inl v_mr)), (h_tc, .inl (cI, 800, .inl v_tc)), (h_tn, .inl (cI, 100, .inl v_tn)), (h_tt, .inl (cI, 100, .inl v_tt)), (h_tr, .inl (cI, 100, .inl v_tr)), (h_tw, .inl (cI, 100, .inl v_tw)), (h_l, .inr (1, [.ref h_t, .ref h_k, .ref h_lf, .ref h_ls, .int v_l_width]))] (some (.int res.1)) [(h_x, .inr (5, [.ref h_p, .ref h_st, .ref h_ck, .ref h_t, .ref h_l, .ref h_a, .int res.2.1, .int v_x_searches])), (h_p, .inr (3, [.ref h_po, .ref h_pf, .ref h_ps, .int v_p_length])), (h_po, .inl (cI, 20, .inl v_po)), (h_pf, .inl (cI, 20, .inl v_pf)), (h_ps, .inl (cI, 20, .inl v_ps)), (h_st, .inl (cI, 8, .inl v_st)), (h_t, .inr (4, [.ref h_m, .ref h_tc, .ref h_tn, .ref h_tt, .ref h_tr, .ref h_tw])), (h_m, .inr (2, [.ref h_p, .ref h_mc, .ref h_mr, .int res.2.2.1, .int res.2.2.2.1, .int res.2.2.2.2.1, .int res.2.2.2.2.2.1, .int res.2.2.2.2.2.2.1, .int res.2.2.2.2.2.2.2.1, .int res.2.2.2.2.2.2.2.2.1])), (h_mc, .inl (cI, 8, .inl res.2.2.2.2.2.2.2.2.2.1)), (h_mr, .inl (cI, 12, .inl res.2.2.2.2.2.2.2.2.2.2.1)), (h_tc, .inl (cI, 800, .inl res.2.2.2.2.2.2.2.2.2.2.2.1)), (h_tn, .inl (cI, 100, .inl res.2.2.2.2.2.2.2.2.2.2.2.2.1)), (h_tt, .inl (cI, 100, .inl res.2.2.2.2.2.2.2.2.2.2.2.2.2.1)), (h_tr, .inl (cI, 100, .inl res.2.2.2.2.2.2.2.2.2.2.2.2.2.2.1)), (h_tw, .inl (cI, 100, .inl res.2.2.2.2.2.2.2.2.2.2.2.2.2.2.2.1)), (h_l, .inr (1, [.ref h_t, .ref h_k, .ref h_lf, .ref h_ls, .int res.2.2.2.2.2.2.2.2.2.2.2.2.2.2.2.2]))] := by
  refine MT.mk (cc := cX6_many) (maxL := 1) (ret := (some .int)) (own := RX6) (by decide) rfl rfl (Nat.le_of_ble_eq_true rfl) rfl ?_
  intro p e s m args below meth c A ls X hP hD hS hl
  obtain ⟨hx, hb, hml, hown, hts, hr, hlk, hE, hH, hA⟩ := id X
  have hl : lv_has ls 1 [(0, .ref h_x)] := hl
  unfold f_X6_many at h
  refine lv_aload_n hx hb dX6_many_0 rfl (lv_at hl 0 rfl) ?_
  obtain ⟨t_1, hc, h⟩ := x_b h
  refine c_V (q0 := 0) (ci := 5) (na := 0) (rest := []) (st1 := [.ref h_m]) (Wr := []) (Wn := [(h_x, .inr (5, [.ref h_p, .ref h_st, .ref h_ck, .ref h_t, .ref h_l, .ref h_a, .int t_1.1, .int v_x_searches])), (h_p, .inr (3, [.ref h_po, .ref h_pf, .ref h_ps, .int v_p_length])), (h_po, .inl (cI, 20, .inl v_po)), (h_pf, .inl (cI, 20, .inl v_pf)), (h_ps, .inl (cI, 20, .inl v_ps)), (h_st, .inl (cI, 8, .inl v_st)), (h_t, .inr (4, [.ref h_m, .ref h_tc, .ref h_tn, .ref h_tt, .ref h_tr, .ref h_tw])), (h_m, .inr (2, [.ref h_p, .ref h_mc, .ref h_mr, .int t_1.2.1, .int t_1.2.2.1, .int t_1.2.2.2.1, .int t_1.2.2.2.2.1, .int t_1.2.2.2.2.2.1, .int t_1.2.2.2.2.2.2.1, .int t_1.2.2.2.2.2.2.2.1])), (h_mc, .inl (cI, 8, .inl t_1.2.2.2.2.2.2.2.2.1)), (h_mr, .inl (cI, 12, .inl t_1.2.2.2.2.2.2.2.2.2.1)), (h_tc, .inl (cI, 800, .inl t_1.2.2.2.2.2.2.2.2.2.2.1)), (h_tn, .inl (cI, 100, .inl t_1.2.2.2.2.2.2.2.2.2.2.2.1)), (h_tt, .inl (cI, 100, .inl t_1.2.2.2.2.2.2.2.2.2.2.2.2.1)), (h_tr, .inl (cI, 100, .inl t_1.2.2.2.2.2.2.2.2.2.2.2.2.2.1)), (h_tw, .inl (cI, 100, .inl t_1.2.2.2.2.2.2.2.2.2.2.2.2.2.2.1)), (h_l, .inr (1, [.ref h_t, .ref h_k, .ref h_lf, .ref h_ls, .int t_1.2.2.2.2.2.2.2.2.2.2.2.2.2.2.2]))]) X hP hD hS hl.1 (m_X6_plainRun l D cI pt h_x h_p h_po h_pf h_ps h_st h_ck h_t h_m h_mc h_mr h_tc h_tn h_tt h_tr h_tw h_l h_k h_lf h_ls h_a v_x_stale v_x_searches v_p_length v_po v_pf v_ps v_st v_m_rowLength v_m_next v_m_tick v_m_ending v_m_readNow v_m_writtenNow v_m_writtenSince v_mc v_mr v_tc v_tn v_tt v_tr v_tw v_l_width  fu _ hc) gX6_many_X6_plainRun rfl ⟨rfl, rfl⟩ rfl (by decide +kernel) ⟨Nat.le_of_ble_eq_true rfl, Nat.le_of_ble_eq_true rfl⟩ rfl rfl [0, 1, 2, 3, 4, 5, 6, 7, 8, 9, 10, 11, 12, 13, 14, 15] [] [0, 1, 2, 3, 4, 5, 6, 7, 8, 9, 10, 11, 12, 13, 14, 15] rfl rfl rfl rfl rfl (by decide) rfl rfl (Nat.le_of_ble_eq_true rfl) dX6_many_1 ⟨Nat.zero_le _, Nat.zero_le _⟩ rfl rfl (fun H locs hP hD hS => ?_)
  refine va_get (D := D) (ci := 2) (v := .int t_1.2.1) (C := RX3) (T := TX3) (N := 10) hx hb hts i_X6_many_X3 hown hE.1 hP 7 rfl rfl 3 (by decide) (hts _ q_X6_many_0) (fun _ h9 => h9) rfl dX6_many_4 ?_
  cases h
  exact r_i X hP hD hS rfl dX6_many_7

theorem q_X6_told_0 : (.fieldLink RX6 83 "StruckBits$Machine" "rowLength" "I" : Cond) ∈ wsX6_told := by decide +kernel
theorem i_X6_told_X3 : ∀ w ∈ u_ws RX3 TX3 10, w ∈ wsX6_told := by decide +kernel
theorem q_X6_told_2 : (.fieldLink RX6 86 "StruckBits$Machine" "row" "[I" : Cond) ∈ wsX6_told := by decide +kernel
set_option maxHeartbeats 4000000 in
set_option maxRecDepth 100000 in
theorem m_X6_told (l : Launch) (D : va_G) (cI : ClassId) (pt : Nat) (h_x h_p h_po h_pf h_ps h_st h_ck h_t h_m h_mc h_mr h_tc h_tn h_tt h_tr h_tw h_l h_k h_lf h_ls h_a : Nat) (v_x_stale : Int32) (v_x_searches : Int32) (v_p_length : Int32) (v_po : Nat → Int32) (v_pf : Nat → Int32) (v_ps : Nat → Int32) (v_st : Nat → Int32) (v_m_rowLength : Int32) (v_m_next : Int32) (v_m_tick : Int32) (v_m_ending : Int32) (v_m_readNow : Int32) (v_m_writtenNow : Int32) (v_m_writtenSince : Int32) (v_mc : Nat → Int32) (v_mr : Nat → Int32) (v_tc : Nat → Int32) (v_tn : Nat → Int32) (v_tt : Nat → Int32) (v_tr : Nat → Int32) (v_tw : Nat → Int32) (v_l_width : Int32) (a0 : Int32) (fu : Nat) (res : Int32 × Int32 × Int32 × Int32 × Int32 × Int32 × Int32 × Int32 × Int32 × (Nat → Int32) × (Nat → Int32) × (Nat → Int32) × (Nat → Int32) × (Nat → Int32) × (Nat → Int32) × (Nat → Int32) × Int32) (h : f_X6_told fu v_x_stale v_p_length v_po v_pf v_ps v_st v_m_rowLength v_m_next v_m_tick v_m_ending v_m_readNow v_m_writtenNow v_m_writtenSince v_mc v_mr v_tc v_tn v_tt v_tr v_tw v_l_width a0 = some res) :
    MT l D cI pt yX6_told wsX6_told ({ frames := 5, cells := 0, slots := 0, locals := 111 } : Room) [.ref h_x, .int a0] [(h_x, .inr (5, [.ref h_p, .ref h_st, .ref h_ck, .ref h_t, .ref h_l, .ref h_a, .int v_x_stale, .int v_x_searches])), (h_p, .inr (3, [.ref h_po, .ref h_pf, .ref h_ps, .int v_p_length])), (h_po, .inl (cI, 20, .inl v_po)), (h_pf, .inl (cI, 20, .inl v_pf)), (h_ps, .inl (cI, 20, .inl v_ps)), (h_st, .inl (cI, 8, .inl v_st)), (h_t, .inr (4, [.ref h_m, .ref h_tc, .ref h_tn, .ref h_tt, .ref h_tr, .ref h_tw])), (h_m, .inr (2, [.ref h_p, .ref h_mc, .ref h_mr, .int v_m_rowLength, .int v_m_next, .int v_m_tick, .int v_m_ending, .int v_m_readNow, .int v_m_writtenNow, .int v_m_writtenSince])), (h_mc, .inl (cI, 8, .inl v_mc)), (h_mr, .inl (cI, 12, .inl v_mr)), (h_tc, .inl (cI, 800, .inl v_tc)), (h_tn, .inl (cI, 100, .inl v_tn)), (h_tt, .inl (cI, 100, .inl v_tt)), (h_tr, .inl (cI, 100, .inl v_tr)), (h_tw, .inl (cI, 100, .inl v_tw)), (h_l, .inr (1, [.ref h_t, .ref h_k, .ref h_lf, .ref h_ls, .int v_l_width]))] (some (.int res.1)) [(h_x, .inr (5, [.ref h_p, .ref h_st, .ref h_ck, .ref h_t, .ref h_l, .ref h_a, .int res.2.1, .int v_x_searches])), (h_p, .inr (3, [.ref h_po, .ref h_pf, .ref h_ps, .int v_p_length])), (h_po, .inl (cI, 20, .inl v_po)), (h_pf, .inl (cI, 20, .inl v_pf)), (h_ps, .inl (cI, 20, .inl v_ps)), (h_st, .inl (cI, 8, .inl v_st)), (h_t, .inr (4, [.ref h_m, .ref h_tc, .ref h_tn, .ref h_tt, .ref h_tr, .ref h_tw])), (h_m, .inr (2, [.ref h_p, .ref h_mc, .ref h_mr, .int res.2.2.1, .int res.2.2.2.1, .int res.2.2.2.2.1, .int res.2.2.2.2.2.1, .int res.2.2.2.2.2.2.1, .int res.2.2.2.2.2.2.2.1, .int res.2.2.2.2.2.2.2.2.1])), (h_mc, .inl (cI, 8, .inl res.2.2.2.2.2.2.2.2.2.1)), (h_mr, .inl (cI, 12, .inl res.2.2.2.2.2.2.2.2.2.2.1)), (h_tc, .inl (cI, 800, .inl res.2.2.2.2.2.2.2.2.2.2.2.1)), (h_tn, .inl (cI, 100, .inl res.2.2.2.2.2.2.2.2.2.2.2.2.1)), (h_tt, .inl (cI, 100, .inl res.2.2.2.2.2.2.2.2.2.2.2.2.2.1)), (h_tr, .inl (cI, 100, .inl res.2.2.2.2.2.2.2.2.2.2.2.2.2.2.1)), (h_tw, .inl (cI, 100, .inl res.2.2.2.2.2.2.2.2.2.2.2.2.2.2.2.1)), (h_l, .inr (1, [.ref h_t, .ref h_k, .ref h_lf, .ref h_ls, .int res.2.2.2.2.2.2.2.2.2.2.2.2.2.2.2.2]))] := by
  refine MT.mk (cc := cX6_told) (maxL := 3) (ret := (some .int)) (own := RX6) (by decide) rfl rfl (Nat.le_of_ble_eq_true rfl) rfl ?_
  intro p e s m args below meth c A ls X hP hD hS hl
  obtain ⟨hx, hb, hml, hown, hts, hr, hlk, hE, hH, hA⟩ := id X
  have hl : lv_has ls 3 [(0, .ref h_x), (1, .int a0)] := hl
  unfold f_X6_told at h
  refine lv_aload_n hx hb dX6_told_0 rfl (lv_at hl 0 rfl) ?_
  obtain ⟨t_1, hc, h⟩ := x_b h
  refine c_V (q0 := 0) (ci := 5) (na := 0) (rest := []) (st1 := [.ref h_m]) (Wr := []) (Wn := [(h_x, .inr (5, [.ref h_p, .ref h_st, .ref h_ck, .ref h_t, .ref h_l, .ref h_a, .int t_1.1, .int v_x_searches])), (h_p, .inr (3, [.ref h_po, .ref h_pf, .ref h_ps, .int v_p_length])), (h_po, .inl (cI, 20, .inl v_po)), (h_pf, .inl (cI, 20, .inl v_pf)), (h_ps, .inl (cI, 20, .inl v_ps)), (h_st, .inl (cI, 8, .inl v_st)), (h_t, .inr (4, [.ref h_m, .ref h_tc, .ref h_tn, .ref h_tt, .ref h_tr, .ref h_tw])), (h_m, .inr (2, [.ref h_p, .ref h_mc, .ref h_mr, .int t_1.2.1, .int t_1.2.2.1, .int t_1.2.2.2.1, .int t_1.2.2.2.2.1, .int t_1.2.2.2.2.2.1, .int t_1.2.2.2.2.2.2.1, .int t_1.2.2.2.2.2.2.2.1])), (h_mc, .inl (cI, 8, .inl t_1.2.2.2.2.2.2.2.2.1)), (h_mr, .inl (cI, 12, .inl t_1.2.2.2.2.2.2.2.2.2.1)), (h_tc, .inl (cI, 800, .inl t_1.2.2.2.2.2.2.2.2.2.2.1)), (h_tn, .inl (cI, 100, .inl t_1.2.2.2.2.2.2.2.2.2.2.2.1)), (h_tt, .inl (cI, 100, .inl t_1.2.2.2.2.2.2.2.2.2.2.2.2.1)), (h_tr, .inl (cI, 100, .inl t_1.2.2.2.2.2.2.2.2.2.2.2.2.2.1)), (h_tw, .inl (cI, 100, .inl t_1.2.2.2.2.2.2.2.2.2.2.2.2.2.2.1)), (h_l, .inr (1, [.ref h_t, .ref h_k, .ref h_lf, .ref h_ls, .int t_1.2.2.2.2.2.2.2.2.2.2.2.2.2.2.2]))]) X hP hD hS hl.1 (m_X6_plainRun l D cI pt h_x h_p h_po h_pf h_ps h_st h_ck h_t h_m h_mc h_mr h_tc h_tn h_tt h_tr h_tw h_l h_k h_lf h_ls h_a v_x_stale v_x_searches v_p_length v_po v_pf v_ps v_st v_m_rowLength v_m_next v_m_tick v_m_ending v_m_readNow v_m_writtenNow v_m_writtenSince v_mc v_mr v_tc v_tn v_tt v_tr v_tw v_l_width  fu _ hc) gX6_told_X6_plainRun rfl ⟨rfl, rfl⟩ rfl (by decide +kernel) ⟨Nat.le_of_ble_eq_true rfl, Nat.le_of_ble_eq_true rfl⟩ rfl rfl [0, 1, 2, 3, 4, 5, 6, 7, 8, 9, 10, 11, 12, 13, 14, 15] [] [0, 1, 2, 3, 4, 5, 6, 7, 8, 9, 10, 11, 12, 13, 14, 15] rfl rfl rfl rfl rfl (by decide) rfl rfl (Nat.le_of_ble_eq_true rfl) dX6_told_1 ⟨Nat.zero_le _, Nat.zero_le _⟩ rfl rfl (fun H locs hP hD hS => ?_)
  refine lv_astore_n (lv' := [(2, .ref h_m), (0, .ref h_x), (1, .int a0)]) hx hb dX6_told_4 rfl hl (by decide) rfl (fun ls hl => ?_)
  refine lv_iload_n hx hb dX6_told_5 rfl (lv_at hl 2 rfl) ?_
  refine lv_if_lt (tgt := 17) hx hb dX6_told_6 (by decide) (fun c_2 => ?_) (fun c_2 => ?_)
  · have h := x_p c_2 h
    refine lv_iconst (v := (-1 : Int32)) hx hb dX6_told_17 (by decide) ?_
    cases h
    exact r_i X hP hD hS rfl dX6_told_18
  · have h := x_n c_2 h
    refine lv_iload_n hx hb dX6_told_9 rfl (lv_at hl 2 rfl) ?_
    refine lv_aload_n hx hb dX6_told_10 rfl (lv_at hl 0 rfl) ?_
    refine va_get (D := D) (ci := 2) (v := .int t_1.2.1) (C := RX3) (T := TX3) (N := 10) hx hb hts i_X6_told_X3 hown hE.1 hP 7 rfl rfl 3 (by decide) (hts _ q_X6_told_0) (fun _ h9 => h9) rfl dX6_told_11 ?_
    refine lv_icmp_lt (tgt := 19) hx hb dX6_told_14 (by decide) (fun c_3 => ?_) (fun c_3 => ?_)
    · have h := x_p c_3 h
      refine lv_aload_n hx hb dX6_told_19 rfl (lv_at hl 0 rfl) ?_
      refine va_get (D := D) (ci := 2) (v := .ref h_mr) (C := RX3) (T := TX3) (N := 10) hx hb hts i_X6_told_X3 hown hE.1 hP 7 rfl rfl 2 (by decide) (hts _ q_X6_told_2) (fun _ h9 => h9) rfl dX6_told_20 ?_
      refine lv_iload_n hx hb dX6_told_23 rfl (lv_at hl 2 rfl) ?_
      obtain ⟨g_4, h⟩ := x_gd h
      refine va_iald hx hb hE.1 hP 9 0 rfl rfl g_4 dX6_told_24 ?_
      cases h
      exact r_i X hP hD hS rfl dX6_told_25
    · have h := x_n c_3 h
      refine lv_iconst (v := (-1 : Int32)) hx hb dX6_told_17 (by decide) ?_
      cases h
      exact r_i X hP hD hS rfl dX6_told_18

theorem q_X6_after_0 : (.fieldLink RX6 89 "StruckBits$Machine" "cells" "[I" : Cond) ∈ wsX6_after := by decide +kernel
theorem i_X6_after_X3 : ∀ w ∈ u_ws RX3 TX3 10, w ∈ wsX6_after := by decide +kernel
set_option maxHeartbeats 4000000 in
set_option maxRecDepth 100000 in
theorem m_X6_after (l : Launch) (D : va_G) (cI : ClassId) (pt : Nat) (h_x h_p h_po h_pf h_ps h_st h_ck h_t h_m h_mc h_mr h_tc h_tn h_tt h_tr h_tw h_l h_k h_lf h_ls h_a : Nat) (v_x_stale : Int32) (v_x_searches : Int32) (v_p_length : Int32) (v_po : Nat → Int32) (v_pf : Nat → Int32) (v_ps : Nat → Int32) (v_st : Nat → Int32) (v_m_rowLength : Int32) (v_m_next : Int32) (v_m_tick : Int32) (v_m_ending : Int32) (v_m_readNow : Int32) (v_m_writtenNow : Int32) (v_m_writtenSince : Int32) (v_mc : Nat → Int32) (v_mr : Nat → Int32) (v_tc : Nat → Int32) (v_tn : Nat → Int32) (v_tt : Nat → Int32) (v_tr : Nat → Int32) (v_tw : Nat → Int32) (v_l_width : Int32) (a0 : Int32) (fu : Nat) (res : Int32 × Int32 × Int32 × Int32 × Int32 × Int32 × Int32 × Int32 × Int32 × (Nat → Int32) × (Nat → Int32) × (Nat → Int32) × (Nat → Int32) × (Nat → Int32) × (Nat → Int32) × (Nat → Int32) × Int32) (h : f_X6_after fu v_x_stale v_p_length v_po v_pf v_ps v_st v_m_rowLength v_m_next v_m_tick v_m_ending v_m_readNow v_m_writtenNow v_m_writtenSince v_mc v_mr v_tc v_tn v_tt v_tr v_tw v_l_width a0 = some res) :
    MT l D cI pt yX6_after wsX6_after ({ frames := 5, cells := 0, slots := 0, locals := 111 } : Room) [.ref h_x, .int a0] [(h_x, .inr (5, [.ref h_p, .ref h_st, .ref h_ck, .ref h_t, .ref h_l, .ref h_a, .int v_x_stale, .int v_x_searches])), (h_p, .inr (3, [.ref h_po, .ref h_pf, .ref h_ps, .int v_p_length])), (h_po, .inl (cI, 20, .inl v_po)), (h_pf, .inl (cI, 20, .inl v_pf)), (h_ps, .inl (cI, 20, .inl v_ps)), (h_st, .inl (cI, 8, .inl v_st)), (h_t, .inr (4, [.ref h_m, .ref h_tc, .ref h_tn, .ref h_tt, .ref h_tr, .ref h_tw])), (h_m, .inr (2, [.ref h_p, .ref h_mc, .ref h_mr, .int v_m_rowLength, .int v_m_next, .int v_m_tick, .int v_m_ending, .int v_m_readNow, .int v_m_writtenNow, .int v_m_writtenSince])), (h_mc, .inl (cI, 8, .inl v_mc)), (h_mr, .inl (cI, 12, .inl v_mr)), (h_tc, .inl (cI, 800, .inl v_tc)), (h_tn, .inl (cI, 100, .inl v_tn)), (h_tt, .inl (cI, 100, .inl v_tt)), (h_tr, .inl (cI, 100, .inl v_tr)), (h_tw, .inl (cI, 100, .inl v_tw)), (h_l, .inr (1, [.ref h_t, .ref h_k, .ref h_lf, .ref h_ls, .int v_l_width]))] (some (.int res.1)) [(h_x, .inr (5, [.ref h_p, .ref h_st, .ref h_ck, .ref h_t, .ref h_l, .ref h_a, .int res.2.1, .int v_x_searches])), (h_p, .inr (3, [.ref h_po, .ref h_pf, .ref h_ps, .int v_p_length])), (h_po, .inl (cI, 20, .inl v_po)), (h_pf, .inl (cI, 20, .inl v_pf)), (h_ps, .inl (cI, 20, .inl v_ps)), (h_st, .inl (cI, 8, .inl v_st)), (h_t, .inr (4, [.ref h_m, .ref h_tc, .ref h_tn, .ref h_tt, .ref h_tr, .ref h_tw])), (h_m, .inr (2, [.ref h_p, .ref h_mc, .ref h_mr, .int res.2.2.1, .int res.2.2.2.1, .int res.2.2.2.2.1, .int res.2.2.2.2.2.1, .int res.2.2.2.2.2.2.1, .int res.2.2.2.2.2.2.2.1, .int res.2.2.2.2.2.2.2.2.1])), (h_mc, .inl (cI, 8, .inl res.2.2.2.2.2.2.2.2.2.1)), (h_mr, .inl (cI, 12, .inl res.2.2.2.2.2.2.2.2.2.2.1)), (h_tc, .inl (cI, 800, .inl res.2.2.2.2.2.2.2.2.2.2.2.1)), (h_tn, .inl (cI, 100, .inl res.2.2.2.2.2.2.2.2.2.2.2.2.1)), (h_tt, .inl (cI, 100, .inl res.2.2.2.2.2.2.2.2.2.2.2.2.2.1)), (h_tr, .inl (cI, 100, .inl res.2.2.2.2.2.2.2.2.2.2.2.2.2.2.1)), (h_tw, .inl (cI, 100, .inl res.2.2.2.2.2.2.2.2.2.2.2.2.2.2.2.1)), (h_l, .inr (1, [.ref h_t, .ref h_k, .ref h_lf, .ref h_ls, .int res.2.2.2.2.2.2.2.2.2.2.2.2.2.2.2.2]))] := by
  refine MT.mk (cc := cX6_after) (maxL := 2) (ret := (some .int)) (own := RX6) (by decide) rfl rfl (Nat.le_of_ble_eq_true rfl) rfl ?_
  intro p e s m args below meth c A ls X hP hD hS hl
  obtain ⟨hx, hb, hml, hown, hts, hr, hlk, hE, hH, hA⟩ := id X
  have hl : lv_has ls 2 [(0, .ref h_x), (1, .int a0)] := hl
  unfold f_X6_after at h
  refine lv_iload_n hx hb dX6_after_0 rfl (lv_at hl 1 rfl) ?_
  obtain ⟨t_1, hc, h⟩ := x_b h
  refine c_S (na := 1) (rest := []) (st1 := [.int t_1]) (Wr := [(h_x, .inr (5, [.ref h_p, .ref h_st, .ref h_ck, .ref h_t, .ref h_l, .ref h_a, .int v_x_stale, .int v_x_searches])), (h_p, .inr (3, [.ref h_po, .ref h_pf, .ref h_ps, .int v_p_length])), (h_po, .inl (cI, 20, .inl v_po)), (h_pf, .inl (cI, 20, .inl v_pf)), (h_ps, .inl (cI, 20, .inl v_ps)), (h_st, .inl (cI, 8, .inl v_st)), (h_t, .inr (4, [.ref h_m, .ref h_tc, .ref h_tn, .ref h_tt, .ref h_tr, .ref h_tw])), (h_m, .inr (2, [.ref h_p, .ref h_mc, .ref h_mr, .int v_m_rowLength, .int v_m_next, .int v_m_tick, .int v_m_ending, .int v_m_readNow, .int v_m_writtenNow, .int v_m_writtenSince])), (h_mc, .inl (cI, 8, .inl v_mc)), (h_mr, .inl (cI, 12, .inl v_mr)), (h_tc, .inl (cI, 800, .inl v_tc)), (h_tn, .inl (cI, 100, .inl v_tn)), (h_tt, .inl (cI, 100, .inl v_tt)), (h_tr, .inl (cI, 100, .inl v_tr)), (h_tw, .inl (cI, 100, .inl v_tw)), (h_l, .inr (1, [.ref h_t, .ref h_k, .ref h_lf, .ref h_ls, .int v_l_width]))]) (Wn := [(h_x, .inr (5, [.ref h_p, .ref h_st, .ref h_ck, .ref h_t, .ref h_l, .ref h_a, .int v_x_stale, .int v_x_searches])), (h_p, .inr (3, [.ref h_po, .ref h_pf, .ref h_ps, .int v_p_length])), (h_po, .inl (cI, 20, .inl v_po)), (h_pf, .inl (cI, 20, .inl v_pf)), (h_ps, .inl (cI, 20, .inl v_ps)), (h_st, .inl (cI, 8, .inl v_st)), (h_t, .inr (4, [.ref h_m, .ref h_tc, .ref h_tn, .ref h_tt, .ref h_tr, .ref h_tw])), (h_m, .inr (2, [.ref h_p, .ref h_mc, .ref h_mr, .int v_m_rowLength, .int v_m_next, .int v_m_tick, .int v_m_ending, .int v_m_readNow, .int v_m_writtenNow, .int v_m_writtenSince])), (h_mc, .inl (cI, 8, .inl v_mc)), (h_mr, .inl (cI, 12, .inl v_mr)), (h_tc, .inl (cI, 800, .inl v_tc)), (h_tn, .inl (cI, 100, .inl v_tn)), (h_tt, .inl (cI, 100, .inl v_tt)), (h_tr, .inl (cI, 100, .inl v_tr)), (h_tw, .inl (cI, 100, .inl v_tw)), (h_l, .inr (1, [.ref h_t, .ref h_k, .ref h_lf, .ref h_ls, .int v_l_width]))]) X hP hD hS hl.1 (m_X6_isCell l D cI pt   a0 fu _ hc) gX6_after_X6_isCell rfl ⟨rfl, rfl⟩ rfl (by decide +kernel) ⟨Nat.le_of_ble_eq_true rfl, Nat.le_of_ble_eq_true rfl⟩ [] [0, 1, 2, 3, 4, 5, 6, 7, 8, 9, 10, 11, 12, 13, 14, 15] [0, 1, 2, 3, 4, 5, 6, 7, 8, 9, 10, 11, 12, 13, 14, 15] rfl rfl rfl rfl (by decide) rfl rfl (Nat.le_of_ble_eq_true rfl) dX6_after_1 ⟨Nat.zero_le _, Nat.zero_le _⟩ rfl rfl (fun H locs hP hD hS => ?_)
  refine lv_if_ne (tgt := 10) hx hb dX6_after_4 (by decide) (fun c_2 => ?_) (fun c_2 => ?_)
  · have h := x_n c_2 h
    refine lv_aload_n hx hb dX6_after_10 rfl (lv_at hl 0 rfl) ?_
    obtain ⟨t_3, hc, h⟩ := x_b h
    refine c_V (q0 := 0) (ci := 5) (na := 0) (rest := []) (st1 := [.ref h_m]) (Wr := []) (Wn := [(h_x, .inr (5, [.ref h_p, .ref h_st, .ref h_ck, .ref h_t, .ref h_l, .ref h_a, .int t_3.1, .int v_x_searches])), (h_p, .inr (3, [.ref h_po, .ref h_pf, .ref h_ps, .int v_p_length])), (h_po, .inl (cI, 20, .inl v_po)), (h_pf, .inl (cI, 20, .inl v_pf)), (h_ps, .inl (cI, 20, .inl v_ps)), (h_st, .inl (cI, 8, .inl v_st)), (h_t, .inr (4, [.ref h_m, .ref h_tc, .ref h_tn, .ref h_tt, .ref h_tr, .ref h_tw])), (h_m, .inr (2, [.ref h_p, .ref h_mc, .ref h_mr, .int t_3.2.1, .int t_3.2.2.1, .int t_3.2.2.2.1, .int t_3.2.2.2.2.1, .int t_3.2.2.2.2.2.1, .int t_3.2.2.2.2.2.2.1, .int t_3.2.2.2.2.2.2.2.1])), (h_mc, .inl (cI, 8, .inl t_3.2.2.2.2.2.2.2.2.1)), (h_mr, .inl (cI, 12, .inl t_3.2.2.2.2.2.2.2.2.2.1)), (h_tc, .inl (cI, 800, .inl t_3.2.2.2.2.2.2.2.2.2.2.1)), (h_tn, .inl (cI, 100, .inl t_3.2.2.2.2.2.2.2.2.2.2.2.1)), (h_tt, .inl (cI, 100, .inl t_3.2.2.2.2.2.2.2.2.2.2.2.2.1)), (h_tr, .inl (cI, 100, .inl t_3.2.2.2.2.2.2.2.2.2.2.2.2.2.1)), (h_tw, .inl (cI, 100, .inl t_3.2.2.2.2.2.2.2.2.2.2.2.2.2.2.1)), (h_l, .inr (1, [.ref h_t, .ref h_k, .ref h_lf, .ref h_ls, .int t_3.2.2.2.2.2.2.2.2.2.2.2.2.2.2.2]))]) X hP hD hS hl.1 (m_X6_plainRun l D cI pt h_x h_p h_po h_pf h_ps h_st h_ck h_t h_m h_mc h_mr h_tc h_tn h_tt h_tr h_tw h_l h_k h_lf h_ls h_a v_x_stale v_x_searches v_p_length v_po v_pf v_ps v_st v_m_rowLength v_m_next v_m_tick v_m_ending v_m_readNow v_m_writtenNow v_m_writtenSince v_mc v_mr v_tc v_tn v_tt v_tr v_tw v_l_width  fu _ hc) gX6_after_X6_plainRun rfl ⟨rfl, rfl⟩ rfl (by decide +kernel) ⟨Nat.le_of_ble_eq_true rfl, Nat.le_of_ble_eq_true rfl⟩ rfl rfl [0, 1, 2, 3, 4, 5, 6, 7, 8, 9, 10, 11, 12, 13, 14, 15] [] [0, 1, 2, 3, 4, 5, 6, 7, 8, 9, 10, 11, 12, 13, 14, 15] rfl rfl rfl rfl rfl (by decide) rfl rfl (Nat.le_of_ble_eq_true rfl) dX6_after_11 ⟨Nat.zero_le _, Nat.zero_le _⟩ rfl rfl (fun H locs hP hD hS => ?_)
    refine va_get (D := D) (ci := 2) (v := .ref h_mc) (C := RX3) (T := TX3) (N := 10) hx hb hts i_X6_after_X3 hown hE.1 hP 7 rfl rfl 1 (by decide) (hts _ q_X6_after_0) (fun _ h9 => h9) rfl dX6_after_14 ?_
    refine lv_iload_n hx hb dX6_after_17 rfl (lv_at hl 1 rfl) ?_
    obtain ⟨g_4, h⟩ := x_gd h
    refine va_iald hx hb hE.1 hP 8 0 rfl rfl g_4 dX6_after_18 ?_
    cases h
    exact r_i X hP hD hS rfl dX6_after_19
  · have h := x_p c_2 h
    refine lv_bipush (v := (-101 : Int32)) hx hb dX6_after_7 (by decide) ?_
    cases h
    exact r_i X hP hD hS rfl dX6_after_9

theorem q_X6_dead_0 : (.fieldLink RX6 28 "StruckBits" "trace" "LStruckBits$Trace;" : Cond) ∈ wsX6_dead := by decide +kernel
theorem i_X6_dead_X6 : ∀ w ∈ u_ws RX6 TX6 8, w ∈ wsX6_dead := by decide +kernel
set_option maxHeartbeats 4000000 in
set_option maxRecDepth 100000 in
theorem m_X6_dead (l : Launch) (D : va_G) (cI : ClassId) (pt : Nat) (h_x h_p h_po h_pf h_ps h_st h_ck h_t h_m h_mc h_mr h_tc h_tn h_tt h_tr h_tw h_l h_k h_lf h_ls h_a : Nat) (v_x_stale : Int32) (v_x_searches : Int32) (v_p_length : Int32) (v_po : Nat → Int32) (v_pf : Nat → Int32) (v_ps : Nat → Int32) (v_st : Nat → Int32) (v_m_rowLength : Int32) (v_m_next : Int32) (v_m_tick : Int32) (v_m_ending : Int32) (v_m_readNow : Int32) (v_m_writtenNow : Int32) (v_m_writtenSince : Int32) (v_mc : Nat → Int32) (v_mr : Nat → Int32) (v_tc : Nat → Int32) (v_tn : Nat → Int32) (v_tt : Nat → Int32) (v_tr : Nat → Int32) (v_tw : Nat → Int32) (v_l_width : Int32) (a0 : Int32) (a1 : Int32) (fu : Nat) (res : Int32 × Int32 × Int32 × Int32 × Int32 × Int32 × Int32 × Int32 × Int32 × (Nat → Int32) × (Nat → Int32) × (Nat → Int32) × (Nat → Int32) × (Nat → Int32) × (Nat → Int32) × (Nat → Int32) × Int32) (h : f_X6_dead fu v_x_stale v_p_length v_po v_pf v_ps v_st v_m_rowLength v_m_next v_m_tick v_m_ending v_m_readNow v_m_writtenNow v_m_writtenSince v_mc v_mr v_tc v_tn v_tt v_tr v_tw v_l_width a0 a1 = some res) :
    MT l D cI pt yX6_dead wsX6_dead ({ frames := 6, cells := 0, slots := 0, locals := 133 } : Room) [.ref h_x, .int a0, .int a1] [(h_x, .inr (5, [.ref h_p, .ref h_st, .ref h_ck, .ref h_t, .ref h_l, .ref h_a, .int v_x_stale, .int v_x_searches])), (h_p, .inr (3, [.ref h_po, .ref h_pf, .ref h_ps, .int v_p_length])), (h_po, .inl (cI, 20, .inl v_po)), (h_pf, .inl (cI, 20, .inl v_pf)), (h_ps, .inl (cI, 20, .inl v_ps)), (h_st, .inl (cI, 8, .inl v_st)), (h_t, .inr (4, [.ref h_m, .ref h_tc, .ref h_tn, .ref h_tt, .ref h_tr, .ref h_tw])), (h_m, .inr (2, [.ref h_p, .ref h_mc, .ref h_mr, .int v_m_rowLength, .int v_m_next, .int v_m_tick, .int v_m_ending, .int v_m_readNow, .int v_m_writtenNow, .int v_m_writtenSince])), (h_mc, .inl (cI, 8, .inl v_mc)), (h_mr, .inl (cI, 12, .inl v_mr)), (h_tc, .inl (cI, 800, .inl v_tc)), (h_tn, .inl (cI, 100, .inl v_tn)), (h_tt, .inl (cI, 100, .inl v_tt)), (h_tr, .inl (cI, 100, .inl v_tr)), (h_tw, .inl (cI, 100, .inl v_tw)), (h_l, .inr (1, [.ref h_t, .ref h_k, .ref h_lf, .ref h_ls, .int v_l_width]))] (some (.int res.1)) [(h_x, .inr (5, [.ref h_p, .ref h_st, .ref h_ck, .ref h_t, .ref h_l, .ref h_a, .int res.2.1, .int v_x_searches])), (h_p, .inr (3, [.ref h_po, .ref h_pf, .ref h_ps, .int v_p_length])), (h_po, .inl (cI, 20, .inl v_po)), (h_pf, .inl (cI, 20, .inl v_pf)), (h_ps, .inl (cI, 20, .inl v_ps)), (h_st, .inl (cI, 8, .inl v_st)), (h_t, .inr (4, [.ref h_m, .ref h_tc, .ref h_tn, .ref h_tt, .ref h_tr, .ref h_tw])), (h_m, .inr (2, [.ref h_p, .ref h_mc, .ref h_mr, .int res.2.2.1, .int res.2.2.2.1, .int res.2.2.2.2.1, .int res.2.2.2.2.2.1, .int res.2.2.2.2.2.2.1, .int res.2.2.2.2.2.2.2.1, .int res.2.2.2.2.2.2.2.2.1])), (h_mc, .inl (cI, 8, .inl res.2.2.2.2.2.2.2.2.2.1)), (h_mr, .inl (cI, 12, .inl res.2.2.2.2.2.2.2.2.2.2.1)), (h_tc, .inl (cI, 800, .inl res.2.2.2.2.2.2.2.2.2.2.2.1)), (h_tn, .inl (cI, 100, .inl res.2.2.2.2.2.2.2.2.2.2.2.2.1)), (h_tt, .inl (cI, 100, .inl res.2.2.2.2.2.2.2.2.2.2.2.2.2.1)), (h_tr, .inl (cI, 100, .inl res.2.2.2.2.2.2.2.2.2.2.2.2.2.2.1)), (h_tw, .inl (cI, 100, .inl res.2.2.2.2.2.2.2.2.2.2.2.2.2.2.2.1)), (h_l, .inr (1, [.ref h_t, .ref h_k, .ref h_lf, .ref h_ls, .int res.2.2.2.2.2.2.2.2.2.2.2.2.2.2.2.2]))] := by
  refine MT.mk (cc := cX6_dead) (maxL := 4) (ret := (some .int)) (own := RX6) (by decide) rfl rfl (Nat.le_of_ble_eq_true rfl) rfl ?_
  intro p e s m args below meth c A ls X hP hD hS hl
  obtain ⟨hx, hb, hml, hown, hts, hr, hlk, hE, hH, hA⟩ := id X
  have hl : lv_has ls 4 [(0, .ref h_x), (1, .int a0), (2, .int a1)] := hl
  unfold f_X6_dead at h
  refine lv_iload_n hx hb dX6_dead_0 rfl (lv_at hl 1 rfl) ?_
  obtain ⟨t_1, hc, h⟩ := x_b h
  refine c_S (na := 1) (rest := []) (st1 := [.int t_1]) (Wr := [(h_x, .inr (5, [.ref h_p, .ref h_st, .ref h_ck, .ref h_t, .ref h_l, .ref h_a, .int v_x_stale, .int v_x_searches])), (h_p, .inr (3, [.ref h_po, .ref h_pf, .ref h_ps, .int v_p_length])), (h_po, .inl (cI, 20, .inl v_po)), (h_pf, .inl (cI, 20, .inl v_pf)), (h_ps, .inl (cI, 20, .inl v_ps)), (h_st, .inl (cI, 8, .inl v_st)), (h_t, .inr (4, [.ref h_m, .ref h_tc, .ref h_tn, .ref h_tt, .ref h_tr, .ref h_tw])), (h_m, .inr (2, [.ref h_p, .ref h_mc, .ref h_mr, .int v_m_rowLength, .int v_m_next, .int v_m_tick, .int v_m_ending, .int v_m_readNow, .int v_m_writtenNow, .int v_m_writtenSince])), (h_mc, .inl (cI, 8, .inl v_mc)), (h_mr, .inl (cI, 12, .inl v_mr)), (h_tc, .inl (cI, 800, .inl v_tc)), (h_tn, .inl (cI, 100, .inl v_tn)), (h_tt, .inl (cI, 100, .inl v_tt)), (h_tr, .inl (cI, 100, .inl v_tr)), (h_tw, .inl (cI, 100, .inl v_tw)), (h_l, .inr (1, [.ref h_t, .ref h_k, .ref h_lf, .ref h_ls, .int v_l_width]))]) (Wn := [(h_x, .inr (5, [.ref h_p, .ref h_st, .ref h_ck, .ref h_t, .ref h_l, .ref h_a, .int v_x_stale, .int v_x_searches])), (h_p, .inr (3, [.ref h_po, .ref h_pf, .ref h_ps, .int v_p_length])), (h_po, .inl (cI, 20, .inl v_po)), (h_pf, .inl (cI, 20, .inl v_pf)), (h_ps, .inl (cI, 20, .inl v_ps)), (h_st, .inl (cI, 8, .inl v_st)), (h_t, .inr (4, [.ref h_m, .ref h_tc, .ref h_tn, .ref h_tt, .ref h_tr, .ref h_tw])), (h_m, .inr (2, [.ref h_p, .ref h_mc, .ref h_mr, .int v_m_rowLength, .int v_m_next, .int v_m_tick, .int v_m_ending, .int v_m_readNow, .int v_m_writtenNow, .int v_m_writtenSince])), (h_mc, .inl (cI, 8, .inl v_mc)), (h_mr, .inl (cI, 12, .inl v_mr)), (h_tc, .inl (cI, 800, .inl v_tc)), (h_tn, .inl (cI, 100, .inl v_tn)), (h_tt, .inl (cI, 100, .inl v_tt)), (h_tr, .inl (cI, 100, .inl v_tr)), (h_tw, .inl (cI, 100, .inl v_tw)), (h_l, .inr (1, [.ref h_t, .ref h_k, .ref h_lf, .ref h_ls, .int v_l_width]))]) X hP hD hS hl.1 (m_X6_isCell l D cI pt   a0 fu _ hc) gX6_dead_X6_isCell rfl ⟨rfl, rfl⟩ rfl (by decide +kernel) ⟨Nat.le_of_ble_eq_true rfl, Nat.le_of_ble_eq_true rfl⟩ [] [0, 1, 2, 3, 4, 5, 6, 7, 8, 9, 10, 11, 12, 13, 14, 15] [0, 1, 2, 3, 4, 5, 6, 7, 8, 9, 10, 11, 12, 13, 14, 15] rfl rfl rfl rfl (by decide) rfl rfl (Nat.le_of_ble_eq_true rfl) dX6_dead_1 ⟨Nat.zero_le _, Nat.zero_le _⟩ rfl rfl (fun H locs hP hD hS => ?_)
  refine lv_if_ne (tgt := 10) hx hb dX6_dead_4 (by decide) (fun c_2 => ?_) (fun c_2 => ?_)
  · have h := x_n c_2 h
    refine lv_aload_n hx hb dX6_dead_10 rfl (lv_at hl 0 rfl) ?_
    refine lv_iload_n hx hb dX6_dead_11 rfl (lv_at hl 2 rfl) ?_
    obtain ⟨t_3, hc, h⟩ := x_b h
    refine c_V (q0 := 0) (ci := 5) (na := 1) (rest := []) (st1 := [.int t_3.1]) (Wr := []) (Wn := [(h_x, .inr (5, [.ref h_p, .ref h_st, .ref h_ck, .ref h_t, .ref h_l, .ref h_a, .int t_3.2.1, .int v_x_searches])), (h_p, .inr (3, [.ref h_po, .ref h_pf, .ref h_ps, .int v_p_length])), (h_po, .inl (cI, 20, .inl v_po)), (h_pf, .inl (cI, 20, .inl v_pf)), (h_ps, .inl (cI, 20, .inl v_ps)), (h_st, .inl (cI, 8, .inl v_st)), (h_t, .inr (4, [.ref h_m, .ref h_tc, .ref h_tn, .ref h_tt, .ref h_tr, .ref h_tw])), (h_m, .inr (2, [.ref h_p, .ref h_mc, .ref h_mr, .int t_3.2.2.1, .int t_3.2.2.2.1, .int t_3.2.2.2.2.1, .int t_3.2.2.2.2.2.1, .int t_3.2.2.2.2.2.2.1, .int t_3.2.2.2.2.2.2.2.1, .int t_3.2.2.2.2.2.2.2.2.1])), (h_mc, .inl (cI, 8, .inl t_3.2.2.2.2.2.2.2.2.2.1)), (h_mr, .inl (cI, 12, .inl t_3.2.2.2.2.2.2.2.2.2.2.1)), (h_tc, .inl (cI, 800, .inl t_3.2.2.2.2.2.2.2.2.2.2.2.1)), (h_tn, .inl (cI, 100, .inl t_3.2.2.2.2.2.2.2.2.2.2.2.2.1)), (h_tt, .inl (cI, 100, .inl t_3.2.2.2.2.2.2.2.2.2.2.2.2.2.1)), (h_tr, .inl (cI, 100, .inl t_3.2.2.2.2.2.2.2.2.2.2.2.2.2.2.1)), (h_tw, .inl (cI, 100, .inl t_3.2.2.2.2.2.2.2.2.2.2.2.2.2.2.2.1)), (h_l, .inr (1, [.ref h_t, .ref h_k, .ref h_lf, .ref h_ls, .int t_3.2.2.2.2.2.2.2.2.2.2.2.2.2.2.2.2]))]) X hP hD hS hl.1 (m_X6_refusalOfTick l D cI pt h_x h_p h_po h_pf h_ps h_st h_ck h_t h_m h_mc h_mr h_tc h_tn h_tt h_tr h_tw h_l h_k h_lf h_ls h_a v_x_stale v_x_searches v_p_length v_po v_pf v_ps v_st v_m_rowLength v_m_next v_m_tick v_m_ending v_m_readNow v_m_writtenNow v_m_writtenSince v_mc v_mr v_tc v_tn v_tt v_tr v_tw v_l_width a1 fu _ hc) gX6_dead_X6_refusalOfTick rfl ⟨rfl, rfl⟩ rfl (by decide +kernel) ⟨Nat.le_of_ble_eq_true rfl, Nat.le_of_ble_eq_true rfl⟩ rfl rfl [0, 1, 2, 3, 4, 5, 6, 7, 8, 9, 10, 11, 12, 13, 14, 15] [] [0, 1, 2, 3, 4, 5, 6, 7, 8, 9, 10, 11, 12, 13, 14, 15] rfl rfl rfl rfl rfl (by decide) rfl rfl (Nat.le_of_ble_eq_true rfl) dX6_dead_12 ⟨Nat.zero_le _, Nat.zero_le _⟩ rfl rfl (fun H locs hP hD hS => ?_)
    refine lv_istore_n (lv' := [(3, .int t_3.1), (0, .ref h_x), (1, .int a0), (2, .int a1)]) hx hb dX6_dead_15 rfl hl (by decide) rfl (fun ls hl => ?_)
    refine lv_iload_n hx hb dX6_dead_16 rfl (lv_at hl 0 rfl) ?_
    refine lv_if_eq (tgt := 22) hx hb dX6_dead_17 (by decide) (fun c_4 => ?_) (fun c_4 => ?_)
    · have h := x_p c_4 h
      refine lv_aload_n hx hb dX6_dead_22 rfl (lv_at hl 1 rfl) ?_
      refine va_get (D := D) (ci := 5) (v := .ref h_t) (C := RX6) (T := TX6) (N := 8) hx hb hts i_X6_dead_X6 hown hE.1 hP 0 rfl rfl 3 (by decide) (hts _ q_X6_dead_0) (fun _ h9 => h9) rfl dX6_dead_23 ?_
      refine lv_iload_n hx hb dX6_dead_26 rfl (lv_at hl 2 rfl) ?_
      refine lv_aload_n hx hb dX6_dead_27 rfl (lv_at hl 1 rfl) ?_
      refine va_get (D := D) (ci := 5) (v := .ref h_t) (C := RX6) (T := TX6) (N := 8) hx hb hts i_X6_dead_X6 hown hE.1 hP 0 rfl rfl 3 (by decide) (hts _ q_X6_dead_0) (fun _ h9 => h9) rfl dX6_dead_28 ?_
      refine lv_iload_n hx hb dX6_dead_31 rfl (lv_at hl 2 rfl) ?_
      refine lv_iload_n hx hb dX6_dead_32 rfl (lv_at hl 3 rfl) ?_
      obtain ⟨t_5, hc, h⟩ := x_b h
      refine c_V (q0 := 0) (ci := 4) (na := 2) (rest := [.int a0, .ref h_t]) (st1 := [.int t_5, .int a0, .ref h_t]) (Wr := [(h_x, .inr (5, [.ref h_p, .ref h_st, .ref h_ck, .ref h_t, .ref h_l, .ref h_a, .int t_3.2.1, .int v_x_searches])), (h_p, .inr (3, [.ref h_po, .ref h_pf, .ref h_ps, .int v_p_length])), (h_po, .inl (cI, 20, .inl v_po)), (h_pf, .inl (cI, 20, .inl v_pf)), (h_ps, .inl (cI, 20, .inl v_ps)), (h_st, .inl (cI, 8, .inl v_st)), (h_mc, .inl (cI, 8, .inl t_3.2.2.2.2.2.2.2.2.2.1)), (h_mr, .inl (cI, 12, .inl t_3.2.2.2.2.2.2.2.2.2.2.1)), (h_tc, .inl (cI, 800, .inl t_3.2.2.2.2.2.2.2.2.2.2.2.1)), (h_tn, .inl (cI, 100, .inl t_3.2.2.2.2.2.2.2.2.2.2.2.2.1)), (h_tt, .inl (cI, 100, .inl t_3.2.2.2.2.2.2.2.2.2.2.2.2.2.1)), (h_l, .inr (1, [.ref h_t, .ref h_k, .ref h_lf, .ref h_ls, .int t_3.2.2.2.2.2.2.2.2.2.2.2.2.2.2.2.2]))]) (Wn := [(h_x, .inr (5, [.ref h_p, .ref h_st, .ref h_ck, .ref h_t, .ref h_l, .ref h_a, .int t_3.2.1, .int v_x_searches])), (h_p, .inr (3, [.ref h_po, .ref h_pf, .ref h_ps, .int v_p_length])), (h_po, .inl (cI, 20, .inl v_po)), (h_pf, .inl (cI, 20, .inl v_pf)), (h_ps, .inl (cI, 20, .inl v_ps)), (h_st, .inl (cI, 8, .inl v_st)), (h_t, .inr (4, [.ref h_m, .ref h_tc, .ref h_tn, .ref h_tt, .ref h_tr, .ref h_tw])), (h_m, .inr (2, [.ref h_p, .ref h_mc, .ref h_mr, .int t_3.2.2.1, .int t_3.2.2.2.1, .int t_3.2.2.2.2.1, .int t_3.2.2.2.2.2.1, .int t_3.2.2.2.2.2.2.1, .int t_3.2.2.2.2.2.2.2.1, .int t_3.2.2.2.2.2.2.2.2.1])), (h_mc, .inl (cI, 8, .inl t_3.2.2.2.2.2.2.2.2.2.1)), (h_mr, .inl (cI, 12, .inl t_3.2.2.2.2.2.2.2.2.2.2.1)), (h_tc, .inl (cI, 800, .inl t_3.2.2.2.2.2.2.2.2.2.2.2.1)), (h_tn, .inl (cI, 100, .inl t_3.2.2.2.2.2.2.2.2.2.2.2.2.1)), (h_tt, .inl (cI, 100, .inl t_3.2.2.2.2.2.2.2.2.2.2.2.2.2.1)), (h_tr, .inl (cI, 100, .inl t_3.2.2.2.2.2.2.2.2.2.2.2.2.2.2.1)), (h_tw, .inl (cI, 100, .inl t_3.2.2.2.2.2.2.2.2.2.2.2.2.2.2.2.1)), (h_l, .inr (1, [.ref h_t, .ref h_k, .ref h_lf, .ref h_ls, .int t_3.2.2.2.2.2.2.2.2.2.2.2.2.2.2.2.2]))]) X hP hD hS hl.1 (m_X5_nextUse l D cI pt h_p h_t h_m h_mc h_mr h_tc h_tn h_tt h_tr h_tw t_3.2.2.1 t_3.2.2.2.1 t_3.2.2.2.2.1 t_3.2.2.2.2.2.1 t_3.2.2.2.2.2.2.1 t_3.2.2.2.2.2.2.2.1 t_3.2.2.2.2.2.2.2.2.1 t_3.2.2.2.2.2.2.2.2.2.2.2.2.2.2.1 t_3.2.2.2.2.2.2.2.2.2.2.2.2.2.2.2.1 a0 a1 fu _ hc) gX6_dead_X5_nextUse rfl ⟨rfl, rfl⟩ rfl (by decide +kernel) ⟨Nat.le_of_ble_eq_true rfl, Nat.le_of_ble_eq_true rfl⟩ rfl rfl [6, 7, 13, 14] [0, 1, 2, 3, 4, 5, 8, 9, 10, 11, 12, 15] [0, 1, 2, 3, 4, 5, 12, 13, 6, 7, 8, 9, 10, 14, 15, 11] rfl rfl rfl rfl rfl (by decide) rfl rfl (Nat.le_of_ble_eq_true rfl) dX6_dead_33 ⟨Nat.zero_le _, Nat.zero_le _⟩ rfl rfl (fun H locs hP hD hS => ?_)
      obtain ⟨t_6, hc, h⟩ := x_b h
      refine c_V (q0 := 0) (ci := 4) (na := 2) (rest := []) (st1 := [.int t_6]) (Wr := [(h_x, .inr (5, [.ref h_p, .ref h_st, .ref h_ck, .ref h_t, .ref h_l, .ref h_a, .int t_3.2.1, .int v_x_searches])), (h_p, .inr (3, [.ref h_po, .ref h_pf, .ref h_ps, .int v_p_length])), (h_po, .inl (cI, 20, .inl v_po)), (h_pf, .inl (cI, 20, .inl v_pf)), (h_ps, .inl (cI, 20, .inl v_ps)), (h_st, .inl (cI, 8, .inl v_st)), (h_mc, .inl (cI, 8, .inl t_3.2.2.2.2.2.2.2.2.2.1)), (h_mr, .inl (cI, 12, .inl t_3.2.2.2.2.2.2.2.2.2.2.1)), (h_tc, .inl (cI, 800, .inl t_3.2.2.2.2.2.2.2.2.2.2.2.1)), (h_tn, .inl (cI, 100, .inl t_3.2.2.2.2.2.2.2.2.2.2.2.2.1)), (h_tt, .inl (cI, 100, .inl t_3.2.2.2.2.2.2.2.2.2.2.2.2.2.1)), (h_tw, .inl (cI, 100, .inl t_3.2.2.2.2.2.2.2.2.2.2.2.2.2.2.2.1)), (h_l, .inr (1, [.ref h_t, .ref h_k, .ref h_lf, .ref h_ls, .int t_3.2.2.2.2.2.2.2.2.2.2.2.2.2.2.2.2]))]) (Wn := [(h_x, .inr (5, [.ref h_p, .ref h_st, .ref h_ck, .ref h_t, .ref h_l, .ref h_a, .int t_3.2.1, .int v_x_searches])), (h_p, .inr (3, [.ref h_po, .ref h_pf, .ref h_ps, .int v_p_length])), (h_po, .inl (cI, 20, .inl v_po)), (h_pf, .inl (cI, 20, .inl v_pf)), (h_ps, .inl (cI, 20, .inl v_ps)), (h_st, .inl (cI, 8, .inl v_st)), (h_t, .inr (4, [.ref h_m, .ref h_tc, .ref h_tn, .ref h_tt, .ref h_tr, .ref h_tw])), (h_m, .inr (2, [.ref h_p, .ref h_mc, .ref h_mr, .int t_3.2.2.1, .int t_3.2.2.2.1, .int t_3.2.2.2.2.1, .int t_3.2.2.2.2.2.1, .int t_3.2.2.2.2.2.2.1, .int t_3.2.2.2.2.2.2.2.1, .int t_3.2.2.2.2.2.2.2.2.1])), (h_mc, .inl (cI, 8, .inl t_3.2.2.2.2.2.2.2.2.2.1)), (h_mr, .inl (cI, 12, .inl t_3.2.2.2.2.2.2.2.2.2.2.1)), (h_tc, .inl (cI, 800, .inl t_3.2.2.2.2.2.2.2.2.2.2.2.1)), (h_tn, .inl (cI, 100, .inl t_3.2.2.2.2.2.2.2.2.2.2.2.2.1)), (h_tt, .inl (cI, 100, .inl t_3.2.2.2.2.2.2.2.2.2.2.2.2.2.1)), (h_tr, .inl (cI, 100, .inl t_3.2.2.2.2.2.2.2.2.2.2.2.2.2.2.1)), (h_tw, .inl (cI, 100, .inl t_3.2.2.2.2.2.2.2.2.2.2.2.2.2.2.2.1)), (h_l, .inr (1, [.ref h_t, .ref h_k, .ref h_lf, .ref h_ls, .int t_3.2.2.2.2.2.2.2.2.2.2.2.2.2.2.2.2]))]) X hP hD hS hl.1 (m_X5_isRead l D cI pt h_p h_t h_m h_mc h_mr h_tc h_tn h_tt h_tr h_tw t_3.2.2.1 t_3.2.2.2.1 t_3.2.2.2.2.1 t_3.2.2.2.2.2.1 t_3.2.2.2.2.2.2.1 t_3.2.2.2.2.2.2.2.1 t_3.2.2.2.2.2.2.2.2.1 t_3.2.2.2.2.2.2.2.2.2.2.2.2.2.2.1 a0 t_5 fu _ hc) gX6_dead_X5_isRead rfl ⟨rfl, rfl⟩ rfl (by decide +kernel) ⟨Nat.le_of_ble_eq_true rfl, Nat.le_of_ble_eq_true rfl⟩ rfl rfl [6, 7, 13] [0, 1, 2, 3, 4, 5, 8, 9, 10, 11, 12, 14, 15] [0, 1, 2, 3, 4, 5, 13, 14, 6, 7, 8, 9, 10, 15, 11, 12] rfl rfl rfl rfl rfl (by decide) rfl rfl (Nat.le_of_ble_eq_true rfl) dX6_dead_36 ⟨Nat.zero_le _, Nat.zero_le _⟩ rfl rfl (fun H locs hP hD hS => ?_)
      refine lv_if_eq (tgt := 46) hx hb dX6_dead_39 (by decide) (fun c_7 => ?_) (fun c_7 => ?_)
      · have h := x_p c_7 h
        refine lv_iconst (v := (1 : Int32)) hx hb dX6_dead_46 (by decide) ?_
        cases h
        exact r_i X hP hD hS rfl dX6_dead_47
      · have h := x_n c_7 h
        refine lv_iconst (v := (0 : Int32)) hx hb dX6_dead_42 (by decide) ?_
        refine lv_goto (tgt := 47) hx hb dX6_dead_43 (by decide) ?_
        cases h
        exact r_i X hP hD hS rfl dX6_dead_47
    · have h := x_n c_4 h
      refine lv_iload_n hx hb dX6_dead_20 rfl (lv_at hl 0 rfl) ?_
      cases h
      exact r_i X hP hD hS rfl dX6_dead_21
  · have h := x_p c_2 h
    refine lv_bipush (v := (-101 : Int32)) hx hb dX6_dead_7 (by decide) ?_
    cases h
    exact r_i X hP hD hS rfl dX6_dead_9
