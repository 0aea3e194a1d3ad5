theorem q_X0_fewestWith_0 : (.fieldLink RX0 15 "StruckBits$Advice" "silent" "[I" : Cond) ∈ wsX0_fewestWith := by decide +kernel
theorem i_X0_fewestWith_X0 : ∀ w ∈ u_ws RX0 TX0 4, w ∈ wsX0_fewestWith := by decide +kernel
theorem q_X0_fewestWith_2 : (.fieldLink RX0 18 "StruckBits$Advice" "fewest" "[I" : Cond) ∈ wsX0_fewestWith := by decide +kernel
set_option maxHeartbeats 4000000 in
set_option maxRecDepth 100000 in
theorem m_X0_fewestWith (l : Launch) (D : va_G) (cI : ClassId) (pt : Nat) (h_a h_ap h_as h_af : Nat) (v_a_given : Int32) (v_as : Nat → Int32) (v_af : Nat → Int32) (a0 : Int32) (a1 : Int32) (a2 : Int32) (fu : Nat) (res : Int32) (h : f_X0_fewestWith fu v_as v_af a0 a1 a2 = some res) :
    MT l D cI pt yX0_fewestWith wsX0_fewestWith ({ frames := 0, cells := 0, slots := 0, locals := 0 } : Room) [.ref h_a, .int a0, .int a1, .int a2] [(h_a, .inr (0, [.ref h_ap, .int v_a_given, .ref h_as, .ref h_af])), (h_as, .inl (cI, 32, .inl v_as)), (h_af, .inl (cI, 585, .inl v_af))] (some (.int res)) [(h_a, .inr (0, [.ref h_ap, .int v_a_given, .ref h_as, .ref h_af])), (h_as, .inl (cI, 32, .inl v_as)), (h_af, .inl (cI, 585, .inl v_af))] := by
  refine MT.mk (cc := cX0_fewestWith) (maxL := 4) (ret := (some .int)) (own := RX0) (by decide) rfl rfl (Nat.le_of_ble_eq_true rfl) rfl ?_
  intro p e s m args below meth c A ls X hP hD hS hl
  obtain ⟨hx, hb, hml, hown, hts, hr, hlk, hE, hH, hA⟩ := id X
  have hl : lv_has ls 4 [(0, .ref h_a), (1, .int a0), (2, .int a1), (3, .int a2)] := hl
  unfold f_X0_fewestWith at h
  refine lv_aload_n hx hb dX0_fewestWith_0 rfl (lv_at hl 0 rfl) ?_
  refine va_get (D := D) (ci := 0) (v := .ref h_as) (C := RX0) (T := TX0) (N := 4) hx hb hts i_X0_fewestWith_X0 hown hE.1 hP 0 rfl rfl 2 (by decide) (hts _ q_X0_fewestWith_0) (fun _ h9 => h9) rfl dX0_fewestWith_1 ?_
  refine lv_iload_n hx hb dX0_fewestWith_4 rfl (lv_at hl 1 rfl) ?_
  refine lv_iconst (v := (4 : Int32)) hx hb dX0_fewestWith_5 (by decide) ?_
  refine lv_imul hx hb dX0_fewestWith_6 ?_
  refine lv_iload_n hx hb dX0_fewestWith_7 rfl (lv_at hl 3 rfl) ?_
  refine lv_iadd hx hb dX0_fewestWith_8 ?_
  obtain ⟨g_1, h⟩ := x_gd h
  refine va_iald hx hb hE.1 hP 1 0 rfl rfl g_1 dX0_fewestWith_9 ?_
  refine lv_aload_n hx hb dX0_fewestWith_10 rfl (lv_at hl 0 rfl) ?_
  refine va_get (D := D) (ci := 0) (v := .ref h_af) (C := RX0) (T := TX0) (N := 4) hx hb hts i_X0_fewestWith_X0 hown hE.1 hP 0 rfl rfl 3 (by decide) (hts _ q_X0_fewestWith_2) (fun _ h9 => h9) rfl dX0_fewestWith_11 ?_
  refine lv_iload_n hx hb dX0_fewestWith_14 rfl (lv_at hl 1 rfl) ?_
  refine lv_iconst (v := (1 : Int32)) hx hb dX0_fewestWith_15 (by decide) ?_
  refine lv_iadd hx hb dX0_fewestWith_16 ?_
  refine lv_bipush (v := (65 : Int32)) hx hb dX0_fewestWith_17 (by decide) ?_
  refine lv_imul hx hb dX0_fewestWith_19 ?_
  refine lv_iload_n hx hb dX0_fewestWith_20 rfl (lv_at hl 2 rfl) ?_
  refine lv_iadd hx hb dX0_fewestWith_21 ?_
  refine va_getsN hx hb hH.1 hS hown (va_Nw.use rfl hE.2.2.2.1) (fun _ h9 => h9) dX0_fewestWith_22 ?_
  refine lv_iload_n hx hb dX0_fewestWith_25 rfl (lv_at hl 3 rfl) ?_
  obtain ⟨g_2, h⟩ := x_gd h
  refine va_ti hx hb hH.2 hS g_2 rfl dX0_fewestWith_26 ?_
  refine lv_isub hx hb dX0_fewestWith_27 ?_
  obtain ⟨g_3, h⟩ := x_gd h
  refine va_iald hx hb hE.1 hP 2 0 rfl rfl g_3 dX0_fewestWith_28 ?_
  refine lv_iadd hx hb dX0_fewestWith_29 ?_
  cases h
  exact r_i X hP hD hS rfl dX0_fewestWith_30

theorem q_X0_fewestFrom_0 : (.methodLink RX0 69 Lib.Math.min.name : Cond) ∈ wsX0_fewestFrom := by decide +kernel
theorem q_X0_fewestFrom_1 : (.static Lib.Math.min.name : Cond) ∈ wsX0_fewestFrom := by decide +kernel
theorem q_X0_fewestFrom_2 : (.initialized "java/lang/Math" : Cond) ∈ wsX0_fewestFrom := by decide +kernel
theorem q_X0_fewestFrom_3 : (.code Lib.Math.min.name Lib.Math.min.code 2 (some .int) : Cond) ∈ wsX0_fewestFrom := by decide +kernel
set_option maxHeartbeats 4000000 in
set_option maxRecDepth 100000 in
theorem tr_X0_fewestFrom_11 {p : Program} {l : Launch} {e : Env} {s : State} {m : MethodId} {args : Array Value} {below : List Frame} {meth : Method} {c : Code} {D : va_G} {cI : ClassId} {pt : Nat} {A : Nat → Prop} (X : CX p s m args meth c D cI pt A cX0_fewestFrom 5 (some .int) wsX0_fewestFrom RX0) (h_a h_ap h_as h_af : Nat) (v_a_given : Int32) (v_as : Nat → Int32) (v_af : Nat → Int32)  (y11_1 : Int32) (y11_2 : Int32) (fu : Nat) (k46 : Int32 → Option (Int32)) (res : Int32) (hk46 : ∀ (ye46_3 : Int32), k46 ye46_3 = some res → ∀ (H : Heap) (locs : List Loc) (ls : Array Slot), va_P D vwCl [(h_a, .inr (0, [.ref h_ap, .int v_a_given, .ref h_as, .ref h_af])), (h_as, .inl (cI, 32, .inl v_as)), (h_af, .inl (cI, 585, .inl v_af))] H → va_D A [(h_a, .inr (0, [.ref h_ap, .int v_a_given, .ref h_as, .ref h_af])), (h_as, .inl (cI, 32, .inl v_as)), (h_af, .inl (cI, 585, .inl v_af))] → va_S A s.heap H locs → lv_has ls 5 [(3, .int ye46_3)] → W p l e ({ frames := 1, cells := 0, slots := 0, locals := 23 } : Room) s m args below meth c H locs 0 0 (MQ below (Qg D A (some (.int res)) [(h_a, .inr (0, [.ref h_ap, .int v_a_given, .ref h_as, .ref h_af])), (h_as, .inl (cI, 32, .inl v_as)), (h_af, .inl (cI, 585, .inl v_af))]) args s 0 0 A) (F0 m 46 ls [])) :
    ∀ (n : Nat) (y11_3 : Int32) (y11_4 : Int32), fr_X0_fewestFrom_11 fu v_as v_af y11_1 y11_2 k46 n y11_3 y11_4 = some res → ∀ (H : Heap) (locs : List Loc) (ls : Array Slot), va_P D vwCl [(h_a, .inr (0, [.ref h_ap, .int v_a_given, .ref h_as, .ref h_af])), (h_as, .inl (cI, 32, .inl v_as)), (h_af, .inl (cI, 585, .inl v_af))] H → va_D A [(h_a, .inr (0, [.ref h_ap, .int v_a_given, .ref h_as, .ref h_af])), (h_as, .inl (cI, 32, .inl v_as)), (h_af, .inl (cI, 585, .inl v_af))] → va_S A s.heap H locs → lv_has ls 5 [(0, .ref h_a), (1, .int y11_1), (2, .int y11_2), (3, .int y11_3), (4, .int y11_4)] → W p l e ({ frames := 1, cells := 0, slots := 0, locals := 23 } : Room) s m args below meth c H locs 0 0 (MQ below (Qg D A (some (.int res)) [(h_a, .inr (0, [.ref h_ap, .int v_a_given, .ref h_as, .ref h_af])), (h_as, .inl (cI, 32, .inl v_as)), (h_af, .inl (cI, 585, .inl v_af))]) args s 0 0 A) (F0 m 11 ls []) := by
  obtain ⟨hx, hb, hml, hown, hts, hr, hlk, hE, hH, hA⟩ := id X
  intro n
  induction n with
  | zero =>
    intro y11_3 y11_4 h
    cases (show none = some res from h)
  | succ n ih =>
    intro y11_3 y11_4 h H locs ls hP hD hS hl
    rw [fr_X0_fewestFrom_11] at h
    refine lv_iload hx hb dX0_fewestFrom_11 (lv_at hl 4 rfl) ?_
    refine lv_iconst (v := (4 : Int32)) hx hb dX0_fewestFrom_13 (by decide) ?_
    refine lv_icmp_ge (tgt := 46) hx hb dX0_fewestFrom_14 (by decide) (fun c_2 => ?_) (fun c_2 => ?_)
    · have h := x_p c_2 h
      exact hk46 y11_3 h _ _ _ hP hD hS (lv_sub hl [3] rfl)
    · have h := x_n c_2 h
      refine va_getsN hx hb hH.1 hS hown (va_Nw.use rfl hE.2.2.2.1) (fun _ h9 => h9) dX0_fewestFrom_17 ?_
      refine lv_iload hx hb dX0_fewestFrom_20 (lv_at hl 4 rfl) ?_
      obtain ⟨g_3, h⟩ := x_gd h
      refine va_ti hx hb hH.2 hS g_3 rfl dX0_fewestFrom_22 ?_
      refine lv_iload_n hx hb dX0_fewestFrom_23 rfl (lv_at hl 2 rfl) ?_
      refine lv_icmp_gt (tgt := 40) hx hb dX0_fewestFrom_24 (by decide) (fun c_4 => ?_) (fun c_4 => ?_)
      · have h := x_p c_4 h
        refine lv_iinc (v := (y11_4 + (1 : Int32))) (lv' := [(4, .int (y11_4 + (1 : Int32))), (0, .ref h_a), (1, .int y11_1), (2, .int y11_2), (3, .int y11_3)]) hx hb dX0_fewestFrom_40 hl (k := 4) rfl rfl (by decide) rfl (fun ls hl => ?_)
        refine lv_goto (tgt := 11) hx hb dX0_fewestFrom_43 (by decide) ?_
        exact ih y11_3 (y11_4 + (1 : Int32)) h _ _ _ hP hD hS (lv_sub hl [1, 2, 3, 4, 0] rfl)
      · have h := x_n c_4 h
        refine lv_iload_n hx hb dX0_fewestFrom_27 rfl (lv_at hl 3 rfl) ?_
        refine lv_aload_n hx hb dX0_fewestFrom_28 rfl (lv_at hl 0 rfl) ?_
        refine lv_iload_n hx hb dX0_fewestFrom_29 rfl (lv_at hl 1 rfl) ?_
        refine lv_iload_n hx hb dX0_fewestFrom_30 rfl (lv_at hl 2 rfl) ?_
        refine lv_iload hx hb dX0_fewestFrom_31 (lv_at hl 4 rfl) ?_
        obtain ⟨t_5, hc, h⟩ := x_b h
        refine c_V (q0 := 0) (ci := 0) (na := 3) (rest := [.int y11_3]) (st1 := [.int t_5, .int y11_3]) (Wr := []) (Wn := [(h_a, .inr (0, [.ref h_ap, .int v_a_given, .ref h_as, .ref h_af])), (h_as, .inl (cI, 32, .inl v_as)), (h_af, .inl (cI, 585, .inl v_af))]) X hP hD hS hl.1 (m_X0_fewestWith l D cI pt h_a h_ap h_as h_af v_a_given v_as v_af y11_1 y11_2 y11_4 fu _ hc) gX0_fewestFrom_X0_fewestWith rfl ⟨rfl, rfl⟩ rfl (by decide +kernel) ⟨Nat.le_of_ble_eq_true rfl, Nat.le_of_ble_eq_true rfl⟩ rfl rfl [0, 1, 2] [] [0, 1, 2] rfl rfl rfl rfl rfl (by decide) rfl rfl (Nat.le_of_ble_eq_true rfl) dX0_fewestFrom_33 ⟨Nat.zero_le _, Nat.zero_le _⟩ rfl rfl (fun H locs hP hD hS => ?_)
        refine va_mmin hx hb (hml.trans hl.1.symm) hown (hts _ q_X0_fewestFrom_0) (hts _ q_X0_fewestFrom_1) (hts _ q_X0_fewestFrom_2) (hts _ q_X0_fewestFrom_3) (by decide) (by decide) (Nat.zero_le _) (Nat.zero_le _) dX0_fewestFrom_36 ?_
        refine lv_istore_n (lv' := [(3, .int (if t_5 < y11_3 then t_5 else y11_3)), (0, .ref h_a), (1, .int y11_1), (2, .int y11_2), (4, .int y11_4)]) hx hb dX0_fewestFrom_39 rfl hl (by decide) rfl (fun ls hl => ?_)
        refine lv_iinc (v := (y11_4 + (1 : Int32))) (lv' := [(4, .int (y11_4 + (1 : Int32))), (3, .int (if t_5 < y11_3 then t_5 else y11_3)), (0, .ref h_a), (1, .int y11_1), (2, .int y11_2)]) hx hb dX0_fewestFrom_40 hl (k := 4) rfl rfl (by decide) rfl (fun ls hl => ?_)
        refine lv_goto (tgt := 11) hx hb dX0_fewestFrom_43 (by decide) ?_
        exact ih (if t_5 < y11_3 then t_5 else y11_3) (y11_4 + (1 : Int32)) h _ _ _ hP hD hS (lv_sub hl [2, 3, 4, 1, 0] rfl)
set_option maxHeartbeats 4000000 in
set_option maxRecDepth 100000 in
theorem m_X0_fewestFrom (l : Launch) (D : va_G) (cI : ClassId) (pt : Nat) (h_a h_ap h_as h_af : Nat) (v_a_given : Int32) (v_as : Nat → Int32) (v_af : Nat → Int32) (a0 : Int32) (a1 : Int32) (fu : Nat) (res : Int32) (h : f_X0_fewestFrom fu v_as v_af a0 a1 = some res) :
    MT l D cI pt yX0_fewestFrom wsX0_fewestFrom ({ frames := 1, cells := 0, slots := 0, locals := 23 } : Room) [.ref h_a, .int a0, .int a1] [(h_a, .inr (0, [.ref h_ap, .int v_a_given, .ref h_as, .ref h_af])), (h_as, .inl (cI, 32, .inl v_as)), (h_af, .inl (cI, 585, .inl v_af))] (some (.int res)) [(h_a, .inr (0, [.ref h_ap, .int v_a_given, .ref h_as, .ref h_af])), (h_as, .inl (cI, 32, .inl v_as)), (h_af, .inl (cI, 585, .inl v_af))] := by
  refine MT.mk (cc := cX0_fewestFrom) (maxL := 5) (ret := (some .int)) (own := RX0) (by decide) rfl rfl (Nat.le_of_ble_eq_true rfl) rfl ?_
  intro p e s m args below meth c A ls X hP hD hS hl
  obtain ⟨hx, hb, hml, hown, hts, hr, hlk, hE, hH, hA⟩ := id X
  have hl : lv_has ls 5 [(0, .ref h_a), (1, .int a0), (2, .int a1)] := hl
  unfold f_X0_fewestFrom at h
  refine lv_aload_n hx hb dX0_fewestFrom_0 rfl (lv_at hl 0 rfl) ?_
  refine lv_iload_n hx hb dX0_fewestFrom_1 rfl (lv_at hl 1 rfl) ?_
  refine lv_iload_n hx hb dX0_fewestFrom_2 rfl (lv_at hl 2 rfl) ?_
  refine lv_iconst (v := (0 : Int32)) hx hb dX0_fewestFrom_3 (by decide) ?_
  obtain ⟨t_1, hc, h⟩ := x_b h
  refine c_V (q0 := 0) (ci := 0) (na := 3) (rest := []) (st1 := [.int t_1]) (Wr := []) (Wn := [(h_a, .inr (0, [.ref h_ap, .int v_a_given, .ref h_as, .ref h_af])), (h_as, .inl (cI, 32, .inl v_as)), (h_af, .inl (cI, 585, .inl v_af))]) X hP hD hS hl.1 (m_X0_fewestWith l D cI pt h_a h_ap h_as h_af v_a_given v_as v_af a0 a1 (0 : Int32) fu _ hc) gX0_fewestFrom_X0_fewestWith rfl ⟨rfl, rfl⟩ rfl (by decide +kernel) ⟨Nat.le_of_ble_eq_true rfl, Nat.le_of_ble_eq_true rfl⟩ rfl rfl [0, 1, 2] [] [0, 1, 2] rfl rfl rfl rfl rfl (by decide) rfl rfl (Nat.le_of_ble_eq_true rfl) dX0_fewestFrom_4 ⟨Nat.zero_le _, Nat.zero_le _⟩ rfl rfl (fun H locs hP hD hS => ?_)
  refine lv_istore_n (lv' := [(3, .int t_1), (0, .ref h_a), (1, .int a0), (2, .int a1)]) hx hb dX0_fewestFrom_7 rfl hl (by decide) rfl (fun ls hl => ?_)
  refine lv_iconst (v := (1 : Int32)) hx hb dX0_fewestFrom_8 (by decide) ?_
  refine lv_istore (lv' := [(4, .int (1 : Int32)), (3, .int t_1), (0, .ref h_a), (1, .int a0), (2, .int a1)]) hx hb dX0_fewestFrom_9 hl (by decide) rfl (fun ls hl => ?_)
  refine tr_X0_fewestFrom_11 X h_a h_ap h_as h_af v_a_given v_as v_af a0 a1 fu _ res ?_ fu t_1 (1 : Int32) h _ _ _ hP hD hS (lv_sub hl [2, 3, 4, 1, 0] rfl)
  · intro ye11_46_3 h H locs ls hP hD hS hl
    refine lv_iload_n hx hb dX0_fewestFrom_46 rfl (lv_at hl 0 rfl) ?_
    cases h
    exact r_i X hP hD hS rfl dX0_fewestFrom_47

theorem q_X0_leastPurse_0 : (.fieldLink RX0 18 "StruckBits$Advice" "fewest" "[I" : Cond) ∈ wsX0_leastPurse := by decide +kernel
theorem i_X0_leastPurse_X0 : ∀ w ∈ u_ws RX0 TX0 4, w ∈ wsX0_leastPurse := by decide +kernel
set_option maxHeartbeats 4000000 in
set_option maxRecDepth 100000 in
theorem tr_X0_leastPurse_2 {p : Program} {l : Launch} {e : Env} {s : State} {m : MethodId} {args : Array Value} {below : List Frame} {meth : Method} {c : Code} {D : va_G} {cI : ClassId} {pt : Nat} {A : Nat → Prop} (X : CX p s m args meth c D cI pt A cX0_leastPurse 3 (some .int) wsX0_leastPurse RX0) (h_a h_ap h_as h_af : Nat) (v_a_given : Int32) (v_af : Nat → Int32)  (y2_1 : Int32) (fu : Nat) (k29 : Int32 → Option (Int32)) (res : Int32) (hk29 : ∀ (ye29_2 : Int32), k29 ye29_2 = some res → ∀ (H : Heap) (locs : List Loc) (ls : Array Slot), va_P D vwCl [(h_a, .inr (0, [.ref h_ap, .int v_a_given, .ref h_as, .ref h_af])), (h_af, .inl (cI, 585, .inl v_af))] H → va_D A [(h_a, .inr (0, [.ref h_ap, .int v_a_given, .ref h_as, .ref h_af])), (h_af, .inl (cI, 585, .inl v_af))] → va_S A s.heap H locs → lv_has ls 3 [(2, .int ye29_2)] → W p l e ({ frames := 0, cells := 0, slots := 0, locals := 0 } : Room) s m args below meth c H locs 0 0 (MQ below (Qg D A (some (.int res)) [(h_a, .inr (0, [.ref h_ap, .int v_a_given, .ref h_as, .ref h_af])), (h_af, .inl (cI, 585, .inl v_af))]) args s 0 0 A) (F0 m 29 ls [])) :
    ∀ (n : Nat) (y2_2 : Int32), fr_X0_leastPurse_2 fu v_af y2_1 k29 n y2_2 = some res → ∀ (H : Heap) (locs : List Loc) (ls : Array Slot), va_P D vwCl [(h_a, .inr (0, [.ref h_ap, .int v_a_given, .ref h_as, .ref h_af])), (h_af, .inl (cI, 585, .inl v_af))] H → va_D A [(h_a, .inr (0, [.ref h_ap, .int v_a_given, .ref h_as, .ref h_af])), (h_af, .inl (cI, 585, .inl v_af))] → va_S A s.heap H locs → lv_has ls 3 [(0, .ref h_a), (1, .int y2_1), (2, .int y2_2)] → W p l e ({ frames := 0, cells := 0, slots := 0, locals := 0 } : Room) s m args below meth c H locs 0 0 (MQ below (Qg D A (some (.int res)) [(h_a, .inr (0, [.ref h_ap, .int v_a_given, .ref h_as, .ref h_af])), (h_af, .inl (cI, 585, .inl v_af))]) args s 0 0 A) (F0 m 2 ls []) := by
  obtain ⟨hx, hb, hml, hown, hts, hr, hlk, hE, hH, hA⟩ := id X
  intro n
  induction n with
  | zero =>
    intro y2_2 h
    cases (show none = some res from h)
  | succ n ih =>
    intro y2_2 h H locs ls hP hD hS hl
    rw [fr_X0_leastPurse_2] at h
    refine lv_iload_n hx hb dX0_leastPurse_2 rfl (lv_at hl 2 rfl) ?_
    refine lv_if_le (tgt := 29) hx hb dX0_leastPurse_3 (by decide) (fun c_1 => ?_) (fun c_1 => ?_)
    · have h := x_p c_1 h
      exact hk29 y2_2 h _ _ _ hP hD hS (lv_sub hl [2] rfl)
    · have h := x_n c_1 h
      refine lv_aload_n hx hb dX0_leastPurse_6 rfl (lv_at hl 0 rfl) ?_
      refine va_get (D := D) (ci := 0) (v := .ref h_af) (C := RX0) (T := TX0) (N := 4) hx hb hts i_X0_leastPurse_X0 hown hE.1 hP 0 rfl rfl 3 (by decide) (hts _ q_X0_leastPurse_0) (fun _ h9 => h9) rfl dX0_leastPurse_7 ?_
      refine lv_iload_n hx hb dX0_leastPurse_10 rfl (lv_at hl 2 rfl) ?_
      refine lv_iconst (v := (1 : Int32)) hx hb dX0_leastPurse_11 (by decide) ?_
      refine lv_isub hx hb dX0_leastPurse_12 ?_
      obtain ⟨g_2, h⟩ := x_gd h
      refine va_iald hx hb hE.1 hP 1 0 rfl rfl g_2 dX0_leastPurse_13 ?_
      refine lv_aload_n hx hb dX0_leastPurse_14 rfl (lv_at hl 0 rfl) ?_
      refine va_get (D := D) (ci := 0) (v := .ref h_af) (C := RX0) (T := TX0) (N := 4) hx hb hts i_X0_leastPurse_X0 hown hE.1 hP 0 rfl rfl 3 (by decide) (hts _ q_X0_leastPurse_0) (fun _ h9 => h9) rfl dX0_leastPurse_15 ?_
      refine lv_iload_n hx hb dX0_leastPurse_18 rfl (lv_at hl 1 rfl) ?_
      obtain ⟨g_3, h⟩ := x_gd h
      refine va_iald hx hb hE.1 hP 1 0 rfl rfl g_3 dX0_leastPurse_19 ?_
      refine lv_icmp_ne (tgt := 29) hx hb dX0_leastPurse_20 (by decide) (fun c_4 => ?_) (fun c_4 => ?_)
      · have h := x_n c_4 h
        exact hk29 y2_2 h _ _ _ hP hD hS (lv_sub hl [2] rfl)
      · have h := x_p c_4 h
        refine lv_iinc (v := (y2_2 + (-1 : Int32))) (lv' := [(2, .int (y2_2 + (-1 : Int32))), (0, .ref h_a), (1, .int y2_1)]) hx hb dX0_leastPurse_23 hl (k := 2) rfl rfl (by decide) rfl (fun ls hl => ?_)
        refine lv_goto (tgt := 2) hx hb dX0_leastPurse_26 (by decide) ?_
        exact ih (y2_2 + (-1 : Int32)) h _ _ _ hP hD hS (lv_sub hl [1, 2, 0] rfl)
set_option maxHeartbeats 4000000 in
set_option maxRecDepth 100000 in
theorem m_X0_leastPurse (l : Launch) (D : va_G) (cI : ClassId) (pt : Nat) (h_a h_ap h_as h_af : Nat) (v_a_given : Int32) (v_af : Nat → Int32) (a0 : Int32) (fu : Nat) (res : Int32) (h : f_X0_leastPurse fu v_af a0 = some res) :
    MT l D cI pt yX0_leastPurse wsX0_leastPurse ({ frames := 0, cells := 0, slots := 0, locals := 0 } : Room) [.ref h_a, .int a0] [(h_a, .inr (0, [.ref h_ap, .int v_a_given, .ref h_as, .ref h_af])), (h_af, .inl (cI, 585, .inl v_af))] (some (.int res)) [(h_a, .inr (0, [.ref h_ap, .int v_a_given, .ref h_as, .ref h_af])), (h_af, .inl (cI, 585, .inl v_af))] := by
  refine MT.mk (cc := cX0_leastPurse) (maxL := 3) (ret := (some .int)) (own := RX0) (by decide) rfl rfl (Nat.le_of_ble_eq_true rfl) rfl ?_
  intro p e s m args below meth c A ls X hP hD hS hl
  obtain ⟨hx, hb, hml, hown, hts, hr, hlk, hE, hH, hA⟩ := id X
  have hl : lv_has ls 3 [(0, .ref h_a), (1, .int a0)] := hl
  unfold f_X0_leastPurse at h
  refine lv_iload_n hx hb dX0_leastPurse_0 rfl (lv_at hl 1 rfl) ?_
  refine lv_istore_n (lv' := [(2, .int a0), (0, .ref h_a), (1, .int a0)]) hx hb dX0_leastPurse_1 rfl hl (by decide) rfl (fun ls hl => ?_)
  refine tr_X0_leastPurse_2 X h_a h_ap h_as h_af v_a_given v_af a0 fu _ res ?_ fu a0 h _ _ _ hP hD hS (lv_sub hl [1, 2, 0] rfl)
  · intro ye2_29_2 h H locs ls hP hD hS hl
    refine lv_iload_n hx hb dX0_leastPurse_29 rfl (lv_at hl 0 rfl) ?_
    cases h
    exact r_i X hP hD hS rfl dX0_leastPurse_30

theorem q_X0_leastCheck_0 : (.fieldLink RX0 18 "StruckBits$Advice" "fewest" "[I" : Cond) ∈ wsX0_leastCheck := by decide +kernel
theorem i_X0_leastCheck_X0 : ∀ w ∈ u_ws RX0 TX0 4, w ∈ wsX0_leastCheck := by decide +kernel
set_option maxHeartbeats 4000000 in
set_option maxRecDepth 100000 in
theorem tr_X0_leastCheck_2 {p : Program} {l : Launch} {e : Env} {s : State} {m : MethodId} {args : Array Value} {below : List Frame} {meth : Method} {c : Code} {D : va_G} {cI : ClassId} {pt : Nat} {A : Nat → Prop} (X : CX p s m args meth c D cI pt A cX0_leastCheck 4 (some .int) wsX0_leastCheck RX0) (h_a h_ap h_as h_af : Nat) (v_a_given : Int32) (v_as : Nat → Int32) (v_af : Nat → Int32)  (y2_1 : Int32) (y2_2 : Int32) (fu : Nat) (k37 : Int32 → Option (Int32)) (k45 : Option (Int32)) (res : Int32) (hk37 : ∀ (ye37_3 : Int32), k37 ye37_3 = some res → ∀ (H : Heap) (locs : List Loc) (ls : Array Slot), va_P D vwCl [(h_a, .inr (0, [.ref h_ap, .int v_a_given, .ref h_as, .ref h_af])), (h_as, .inl (cI, 32, .inl v_as)), (h_af, .inl (cI, 585, .inl v_af))] H → va_D A [(h_a, .inr (0, [.ref h_ap, .int v_a_given, .ref h_as, .ref h_af])), (h_as, .inl (cI, 32, .inl v_as)), (h_af, .inl (cI, 585, .inl v_af))] → va_S A s.heap H locs → lv_has ls 4 [(3, .int ye37_3)] → W p l e ({ frames := 1, cells := 0, slots := 0, locals := 23 } : Room) s m args below meth c H locs 0 0 (MQ below (Qg D A (some (.int res)) [(h_a, .inr (0, [.ref h_ap, .int v_a_given, .ref h_as, .ref h_af])), (h_as, .inl (cI, 32, .inl v_as)), (h_af, .inl (cI, 585, .inl v_af))]) args s 0 0 A) (F0 m 37 ls [])) (hk45 : k45  = some res → ∀ (H : Heap) (locs : List Loc) (ls : Array Slot), va_P D vwCl [(h_a, .inr (0, [.ref h_ap, .int v_a_given, .ref h_as, .ref h_af])), (h_as, .inl (cI, 32, .inl v_as)), (h_af, .inl (cI, 585, .inl v_af))] H → va_D A [(h_a, .inr (0, [.ref h_ap, .int v_a_given, .ref h_as, .ref h_af])), (h_as, .inl (cI, 32, .inl v_as)), (h_af, .inl (cI, 585, .inl v_af))] → va_S A s.heap H locs → lv_has ls 4 [] → W p l e ({ frames := 1, cells := 0, slots := 0, locals := 23 } : Room) s m args below meth c H locs 0 0 (MQ below (Qg D A (some (.int res)) [(h_a, .inr (0, [.ref h_ap, .int v_a_given, .ref h_as, .ref h_af])), (h_as, .inl (cI, 32, .inl v_as)), (h_af, .inl (cI, 585, .inl v_af))]) args s 0 0 A) (F0 m 45 ls [])) :
    ∀ (n : Nat) (y2_3 : Int32), fr_X0_leastCheck_2 fu v_as v_af y2_1 y2_2 k37 k45 n y2_3 = some res → ∀ (H : Heap) (locs : List Loc) (ls : Array Slot), va_P D vwCl [(h_a, .inr (0, [.ref h_ap, .int v_a_given, .ref h_as, .ref h_af])), (h_as, .inl (cI, 32, .inl v_as)), (h_af, .inl (cI, 585, .inl v_af))] H → va_D A [(h_a, .inr (0, [.ref h_ap, .int v_a_given, .ref h_as, .ref h_af])), (h_as, .inl (cI, 32, .inl v_as)), (h_af, .inl (cI, 585, .inl v_af))] → va_S A s.heap H locs → lv_has ls 4 [(0, .ref h_a), (1, .int y2_1), (2, .int y2_2), (3, .int y2_3)] → W p l e ({ frames := 1, cells := 0, slots := 0, locals := 23 } : Room) s m args below meth c H locs 0 0 (MQ below (Qg D A (some (.int res)) [(h_a, .inr (0, [.ref h_ap, .int v_a_given, .ref h_as, .ref h_af])), (h_as, .inl (cI, 32, .inl v_as)), (h_af, .inl (cI, 585, .inl v_af))]) args s 0 0 A) (F0 m 2 ls []) := by
  obtain ⟨hx, hb, hml, hown, hts, hr, hlk, hE, hH, hA⟩ := id X
  intro n
  induction n with
  | zero =>
    intro y2_3 h
    cases (show none = some res from h)
  | succ n ih =>
    intro y2_3 h H locs ls hP hD hS hl
    rw [fr_X0_leastCheck_2] at h
    refine lv_iload_n hx hb dX0_leastCheck_2 rfl (lv_at hl 3 rfl) ?_
    refine lv_iconst (v := (4 : Int32)) hx hb dX0_leastCheck_3 (by decide) ?_
    refine lv_icmp_ge (tgt := 45) hx hb dX0_leastCheck_4 (by decide) (fun c_1 => ?_) (fun c_1 => ?_)
    · have h := x_p c_1 h
      exact hk45  h _ _ _ hP hD hS (lv_sub hl [] rfl)
    · have h := x_n c_1 h
      refine va_getsN hx hb hH.1 hS hown (va_Nw.use rfl hE.2.2.2.1) (fun _ h9 => h9) dX0_leastCheck_7 ?_
      refine lv_iload_n hx hb dX0_leastCheck_10 rfl (lv_at hl 3 rfl) ?_
      obtain ⟨g_2, h⟩ := x_gd h
      refine va_ti hx hb hH.2 hS g_2 rfl dX0_leastCheck_11 ?_
      refine lv_iload_n hx hb dX0_leastCheck_12 rfl (lv_at hl 2 rfl) ?_
      refine lv_icmp_gt (tgt := 39) hx hb dX0_leastCheck_13 (by decide) (fun c_3 => ?_) (fun c_3 => ?_)
      · have h := x_p c_3 h
        refine lv_iinc (v := (y2_3 + (1 : Int32))) (lv' := [(3, .int (y2_3 + (1 : Int32))), (0, .ref h_a), (1, .int y2_1), (2, .int y2_2)]) hx hb dX0_leastCheck_39 hl (k := 3) rfl rfl (by decide) rfl (fun ls hl => ?_)
        refine lv_goto (tgt := 2) hx hb dX0_leastCheck_42 (by decide) ?_
        exact ih (y2_3 + (1 : Int32)) h _ _ _ hP hD hS (lv_sub hl [1, 2, 3, 0] rfl)
      · have h := x_n c_3 h
        refine lv_aload_n hx hb dX0_leastCheck_16 rfl (lv_at hl 0 rfl) ?_
        refine lv_iload_n hx hb dX0_leastCheck_17 rfl (lv_at hl 1 rfl) ?_
        refine lv_iload_n hx hb dX0_leastCheck_18 rfl (lv_at hl 2 rfl) ?_
        refine lv_iload_n hx hb dX0_leastCheck_19 rfl (lv_at hl 3 rfl) ?_
        obtain ⟨t_4, hc, h⟩ := x_b h
        refine c_V (q0 := 0) (ci := 0) (na := 3) (rest := []) (st1 := [.int t_4]) (Wr := []) (Wn := [(h_a, .inr (0, [.ref h_ap, .int v_a_given, .ref h_as, .ref h_af])), (h_as, .inl (cI, 32, .inl v_as)), (h_af, .inl (cI, 585, .inl v_af))]) X hP hD hS hl.1 (m_X0_fewestWith l D cI pt h_a h_ap h_as h_af v_a_given v_as v_af y2_1 y2_2 y2_3 fu _ hc) gX0_leastCheck_X0_fewestWith rfl ⟨rfl, rfl⟩ rfl (by decide +kernel) ⟨Nat.le_of_ble_eq_true rfl, Nat.le_of_ble_eq_true rfl⟩ rfl rfl [0, 1, 2] [] [0, 1, 2] rfl rfl rfl rfl rfl (by decide) rfl rfl (Nat.le_of_ble_eq_true rfl) dX0_leastCheck_20 ⟨Nat.zero_le _, Nat.zero_le _⟩ rfl rfl (fun H locs hP hD hS => ?_)
        refine lv_aload_n hx hb dX0_leastCheck_23 rfl (lv_at hl 0 rfl) ?_
        refine va_get (D := D) (ci := 0) (v := .ref h_af) (C := RX0) (T := TX0) (N := 4) hx hb hts i_X0_leastCheck_X0 hown hE.1 hP 0 rfl rfl 3 (by decide) (hts _ q_X0_leastCheck_0) (fun _ h9 => h9) rfl dX0_leastCheck_24 ?_
        refine lv_iload_n hx hb dX0_leastCheck_27 rfl (lv_at hl 1 rfl) ?_
        refine lv_bipush (v := (65 : Int32)) hx hb dX0_leastCheck_28 (by decide) ?_
        refine lv_imul hx hb dX0_leastCheck_30 ?_
        refine lv_iload_n hx hb dX0_leastCheck_31 rfl (lv_at hl 2 rfl) ?_
        refine lv_iadd hx hb dX0_leastCheck_32 ?_
        obtain ⟨g_5, h⟩ := x_gd h
        refine va_iald hx hb hE.1 hP 2 0 rfl rfl g_5 dX0_leastCheck_33 ?_
        refine lv_icmp_ne (tgt := 39) hx hb dX0_leastCheck_34 (by decide) (fun c_6 => ?_) (fun c_6 => ?_)
        · have h := x_n c_6 h
          refine lv_iinc (v := (y2_3 + (1 : Int32))) (lv' := [(3, .int (y2_3 + (1 : Int32))), (0, .ref h_a), (1, .int y2_1), (2, .int y2_2)]) hx hb dX0_leastCheck_39 hl (k := 3) rfl rfl (by decide) rfl (fun ls hl => ?_)
          refine lv_goto (tgt := 2) hx hb dX0_leastCheck_42 (by decide) ?_
          exact ih (y2_3 + (1 : Int32)) h _ _ _ hP hD hS (lv_sub hl [1, 2, 3, 0] rfl)
        · have h := x_p c_6 h
          exact hk37 y2_3 h _ _ _ hP hD hS (lv_sub hl [3] rfl)
set_option maxHeartbeats 4000000 in
set_option maxRecDepth 100000 in
theorem m_X0_leastCheck (l : Launch) (D : va_G) (cI : ClassId) (pt : Nat) (h_a h_ap h_as h_af : Nat) (v_a_given : Int32) (v_as : Nat → Int32) (v_af : Nat → Int32) (a0 : Int32) (a1 : Int32) (fu : Nat) (res : Int32) (h : f_X0_leastCheck fu v_as v_af a0 a1 = some res) :
    MT l D cI pt yX0_leastCheck wsX0_leastCheck ({ frames := 1, cells := 0, slots := 0, locals := 23 } : Room) [.ref h_a, .int a0, .int a1] [(h_a, .inr (0, [.ref h_ap, .int v_a_given, .ref h_as, .ref h_af])), (h_as, .inl (cI, 32, .inl v_as)), (h_af, .inl (cI, 585, .inl v_af))] (some (.int res)) [(h_a, .inr (0, [.ref h_ap, .int v_a_given, .ref h_as, .ref h_af])), (h_as, .inl (cI, 32, .inl v_as)), (h_af, .inl (cI, 585, .inl v_af))] := by
  refine MT.mk (cc := cX0_leastCheck) (maxL := 4) (ret := (some .int)) (own := RX0) (by decide) rfl rfl (Nat.le_of_ble_eq_true rfl) rfl ?_
  intro p e s m args below meth c A ls X hP hD hS hl
  obtain ⟨hx, hb, hml, hown, hts, hr, hlk, hE, hH, hA⟩ := id X
  have hl : lv_has ls 4 [(0, .ref h_a), (1, .int a0), (2, .int a1)] := hl
  unfold f_X0_leastCheck at h
  refine lv_iconst (v := (0 : Int32)) hx hb dX0_leastCheck_0 (by decide) ?_
  refine lv_istore_n (lv' := [(3, .int (0 : Int32)), (0, .ref h_a), (1, .int a0), (2, .int a1)]) hx hb dX0_leastCheck_1 rfl hl (by decide) rfl (fun ls hl => ?_)
  refine tr_X0_leastCheck_2 X h_a h_ap h_as h_af v_a_given v_as v_af a0 a1 fu _ _ res ?_ ?_ fu (0 : Int32) h _ _ _ hP hD hS (lv_sub hl [1, 2, 3, 0] rfl)
  · intro ye2_37_3 h H locs ls hP hD hS hl
    refine lv_iload_n hx hb dX0_leastCheck_37 rfl (lv_at hl 0 rfl) ?_
    cases h
    exact r_i X hP hD hS rfl dX0_leastCheck_38
  · intro  h H locs ls hP hD hS hl
    refine lv_iconst (v := (0 : Int32)) hx hb dX0_leastCheck_45 (by decide) ?_
    cases h
    exact r_i X hP hD hS rfl dX0_leastCheck_46

theorem q_X0_pick_0 : (.fieldLink RX0 9 "StruckBits$Advice" "picked" "[I" : Cond) ∈ wsX0_pick := by decide +kernel
theorem i_X0_pick_X0 : ∀ w ∈ u_ws RX0 TX0 4, w ∈ wsX0_pick := by decide +kernel
set_option maxHeartbeats 4000000 in
set_option maxRecDepth 100000 in
theorem tr_X0_pick_4 {p : Program} {l : Launch} {e : Env} {s : State} {m : MethodId} {args : Array Value} {below : List Frame} {meth : Method} {c : Code} {D : va_G} {cI : ClassId} {pt : Nat} {A : Nat → Prop} (X : CX p s m args meth c D cI pt A cX0_pick 5 none wsX0_pick RX0) (h_a h_ap h_as h_af : Nat) (v_a_given : Int32) (v_as : Nat → Int32) (v_af : Nat → Int32)   (fu : Nat) (k41 : (Nat → Int32) → Option ((Nat → Int32))) (res : (Nat → Int32)) (hk41 : ∀ (e41_ap : Nat → Int32), k41 e41_ap = some res → ∀ (H : Heap) (locs : List Loc) (ls : Array Slot), va_P D vwCl [(h_a, .inr (0, [.ref h_ap, .int v_a_given, .ref h_as, .ref h_af])), (h_ap, .inl (cI, 8, .inl e41_ap)), (h_as, .inl (cI, 32, .inl v_as)), (h_af, .inl (cI, 585, .inl v_af))] H → va_D A [(h_a, .inr (0, [.ref h_ap, .int v_a_given, .ref h_as, .ref h_af])), (h_ap, .inl (cI, 8, .inl e41_ap)), (h_as, .inl (cI, 32, .inl v_as)), (h_af, .inl (cI, 585, .inl v_af))] → va_S A s.heap H locs → lv_has ls 5 [] → W p l e ({ frames := 2, cells := 0, slots := 0, locals := 46 } : Room) s m args below meth c H locs 0 0 (MQ below (Qg D A none [(h_a, .inr (0, [.ref h_ap, .int v_a_given, .ref h_as, .ref h_af])), (h_ap, .inl (cI, 8, .inl res)), (h_as, .inl (cI, 32, .inl v_as)), (h_af, .inl (cI, 585, .inl v_af))]) args s 0 0 A) (F0 m 41 ls [])) :
    ∀ (n : Nat) (u4_ap : Nat → Int32) (y4_2 : Int32) (y4_3 : Int32), fr_X0_pick_4 fu v_as v_af k41 n u4_ap y4_2 y4_3 = some res → ∀ (H : Heap) (locs : List Loc) (ls : Array Slot), va_P D vwCl [(h_a, .inr (0, [.ref h_ap, .int v_a_given, .ref h_as, .ref h_af])), (h_ap, .inl (cI, 8, .inl u4_ap)), (h_as, .inl (cI, 32, .inl v_as)), (h_af, .inl (cI, 585, .inl v_af))] H → va_D A [(h_a, .inr (0, [.ref h_ap, .int v_a_given, .ref h_as, .ref h_af])), (h_ap, .inl (cI, 8, .inl u4_ap)), (h_as, .inl (cI, 32, .inl v_as)), (h_af, .inl (cI, 585, .inl v_af))] → va_S A s.heap H locs → lv_has ls 5 [(0, .ref h_a), (2, .int y4_2), (3, .int y4_3)] → W p l e ({ frames := 2, cells := 0, slots := 0, locals := 46 } : Room) s m args below meth c H locs 0 0 (MQ below (Qg D A none [(h_a, .inr (0, [.ref h_ap, .int v_a_given, .ref h_as, .ref h_af])), (h_ap, .inl (cI, 8, .inl res)), (h_as, .inl (cI, 32, .inl v_as)), (h_af, .inl (cI, 585, .inl v_af))]) args s 0 0 A) (F0 m 4 ls []) := by
  obtain ⟨hx, hb, hml, hown, hts, hr, hlk, hE, hH, hA⟩ := id X
  intro n
  induction n with
  | zero =>
    intro u4_ap y4_2 y4_3 h
    cases (show none = some res from h)
  | succ n ih =>
    intro u4_ap y4_2 y4_3 h H locs ls hP hD hS hl
    rw [fr_X0_pick_4] at h
    refine lv_iload_n hx hb dX0_pick_4 rfl (lv_at hl 2 rfl) ?_
    refine lv_bipush (v := (8 : Int32)) hx hb dX0_pick_5 (by decide) ?_
    refine lv_icmp_ge (tgt := 41) hx hb dX0_pick_7 (by decide) (fun c_1 => ?_) (fun c_1 => ?_)
    · have h := x_p c_1 h
      exact hk41 u4_ap h _ _ _ hP hD hS (lv_sub hl [] rfl)
    · have h := x_n c_1 h
      refine lv_aload_n hx hb dX0_pick_10 rfl (lv_at hl 0 rfl) ?_
      refine lv_iload_n hx hb dX0_pick_11 rfl (lv_at hl 2 rfl) ?_
      refine lv_iload_n hx hb dX0_pick_12 rfl (lv_at hl 1 rfl) ?_
      obtain ⟨t_2, hc, h⟩ := x_b h
      refine c_V (q0 := 0) (ci := 0) (na := 2) (rest := []) (st1 := [.int t_2]) (Wr := [(h_ap, .inl (cI, 8, .inl u4_ap))]) (Wn := [(h_a, .inr (0, [.ref h_ap, .int v_a_given, .ref h_as, .ref h_af])), (h_ap, .inl (cI, 8, .inl u4_ap)), (h_as, .inl (cI, 32, .inl v_as)), (h_af, .inl (cI, 585, .inl v_af))]) X hP hD hS hl.1 (m_X0_leastCheck l D cI pt h_a h_ap h_as h_af v_a_given v_as v_af y4_3 y4_2 fu _ hc) gX0_pick_X0_leastCheck rfl ⟨rfl, rfl⟩ rfl (by decide +kernel) ⟨Nat.le_of_ble_eq_true rfl, Nat.le_of_ble_eq_true rfl⟩ rfl rfl [0, 2, 3] [1] [1, 0, 2, 3] rfl rfl rfl rfl rfl (by decide) rfl rfl (Nat.le_of_ble_eq_true rfl) dX0_pick_13 ⟨Nat.zero_le _, Nat.zero_le _⟩ rfl rfl (fun H locs hP hD hS => ?_)
      refine lv_istore (lv' := [(4, .int t_2), (0, .ref h_a), (2, .int y4_2), (3, .int y4_3)]) hx hb dX0_pick_16 hl (by decide) rfl (fun ls hl => ?_)
      refine lv_aload_n hx hb dX0_pick_18 rfl (lv_at hl 1 rfl) ?_
      refine va_get (D := D) (ci := 0) (v := .ref h_ap) (C := RX0) (T := TX0) (N := 4) hx hb hts i_X0_pick_X0 hown hE.1 hP 0 rfl rfl 0 (by decide) (hts _ q_X0_pick_0) (fun _ h9 => h9) rfl dX0_pick_19 ?_
      refine lv_iload_n hx hb dX0_pick_22 rfl (lv_at hl 3 rfl) ?_
      refine lv_iload hx hb dX0_pick_23 (lv_at hl 0 rfl) ?_
      obtain ⟨g_3, h⟩ := x_gd h
      refine va_iast hx hb hE.1 hP hD hS 1 0 rfl rfl g_3 dX0_pick_25 (fun H locs hP hD hS => ?_)
      have hP : va_P D vwCl [(h_a, .inr (0, [.ref h_ap, .int v_a_given, .ref h_as, .ref h_af])), (h_ap, .inl (cI, 8, .inl (upd u4_ap y4_3.toNatClampNeg t_2))), (h_as, .inl (cI, 32, .inl v_as)), (h_af, .inl (cI, 585, .inl v_af))] H := hP
      have hD : va_D A [(h_a, .inr (0, [.ref h_ap, .int v_a_given, .ref h_as, .ref h_af])), (h_ap, .inl (cI, 8, .inl (upd u4_ap y4_3.toNatClampNeg t_2))), (h_as, .inl (cI, 32, .inl v_as)), (h_af, .inl (cI, 585, .inl v_af))] := hD
      refine lv_iload_n hx hb dX0_pick_26 rfl (lv_at hl 2 rfl) ?_
      refine va_getsN hx hb hH.1 hS hown (va_Nw.use rfl hE.2.2.2.1) (fun _ h9 => h9) dX0_pick_27 ?_
      refine lv_iload hx hb dX0_pick_30 (lv_at hl 0 rfl) ?_
      obtain ⟨g_4, h⟩ := x_gd h
      refine va_ti hx hb hH.2 hS g_4 rfl dX0_pick_32 ?_
      refine lv_isub hx hb dX0_pick_33 ?_
      refine lv_istore_n (lv' := [(2, .int (y4_2 - (pPr t_2.toNatClampNeg))), (4, .int t_2), (0, .ref h_a), (3, .int y4_3)]) hx hb dX0_pick_34 rfl hl (by decide) rfl (fun ls hl => ?_)
      refine lv_iinc (v := (y4_3 + (1 : Int32))) (lv' := [(3, .int (y4_3 + (1 : Int32))), (2, .int (y4_2 - (pPr t_2.toNatClampNeg))), (4, .int t_2), (0, .ref h_a)]) hx hb dX0_pick_35 hl (k := 3) rfl rfl (by decide) rfl (fun ls hl => ?_)
      refine lv_goto (tgt := 4) hx hb dX0_pick_38 (by decide) ?_
      exact ih (upd u4_ap y4_3.toNatClampNeg t_2) (y4_2 - (pPr t_2.toNatClampNeg)) (y4_3 + (1 : Int32)) h _ _ _ hP hD hS (lv_sub hl [3, 1, 0] rfl)
set_option maxHeartbeats 4000000 in
set_option maxRecDepth 100000 in
theorem m_X0_pick (l : Launch) (D : va_G) (cI : ClassId) (pt : Nat) (h_a h_ap h_as h_af : Nat) (v_a_given : Int32) (v_ap : Nat → Int32) (v_as : Nat → Int32) (v_af : Nat → Int32) (a0 : Int32) (fu : Nat) (res : (Nat → Int32)) (h : f_X0_pick fu v_ap v_as v_af a0 = some res) :
    MT l D cI pt yX0_pick wsX0_pick ({ frames := 2, cells := 0, slots := 0, locals := 46 } : Room) [.ref h_a, .int a0] [(h_a, .inr (0, [.ref h_ap, .int v_a_given, .ref h_as, .ref h_af])), (h_ap, .inl (cI, 8, .inl v_ap)), (h_as, .inl (cI, 32, .inl v_as)), (h_af, .inl (cI, 585, .inl v_af))] none [(h_a, .inr (0, [.ref h_ap, .int v_a_given, .ref h_as, .ref h_af])), (h_ap, .inl (cI, 8, .inl res)), (h_as, .inl (cI, 32, .inl v_as)), (h_af, .inl (cI, 585, .inl v_af))] := by
  refine MT.mk (cc := cX0_pick) (maxL := 5) (ret := none) (own := RX0) (by decide) rfl rfl (Nat.le_of_ble_eq_true rfl) rfl ?_
  intro p e s m args below meth c A ls X hP hD hS hl
  obtain ⟨hx, hb, hml, hown, hts, hr, hlk, hE, hH, hA⟩ := id X
  have hl : lv_has ls 5 [(0, .ref h_a), (1, .int a0)] := hl
  unfold f_X0_pick at h
  refine lv_iload_n hx hb dX0_pick_0 rfl (lv_at hl 1 rfl) ?_
  refine lv_istore_n (lv' := [(2, .int a0), (0, .ref h_a), (1, .int a0)]) hx hb dX0_pick_1 rfl hl (by decide) rfl (fun ls hl => ?_)
  refine lv_iconst (v := (0 : Int32)) hx hb dX0_pick_2 (by decide) ?_
  refine lv_istore_n (lv' := [(3, .int (0 : Int32)), (2, .int a0), (0, .ref h_a), (1, .int a0)]) hx hb dX0_pick_3 rfl hl (by decide) rfl (fun ls hl => ?_)
  refine tr_X0_pick_4 X h_a h_ap h_as h_af v_a_given v_as v_af  fu _ res ?_ fu v_ap a0 (0 : Int32) h _ _ _ hP hD hS (lv_sub hl [2, 1, 0] rfl)
  · intro e4_41_ap h H locs ls hP hD hS hl
    cases h
    exact r_v X hP hD hS rfl dX0_pick_41

theorem q_X0_tallyFlip_0 : (.fieldLink RX0 15 "StruckBits$Advice" "silent" "[I" : Cond) ∈ wsX0_tallyFlip := by decide +kernel
theorem i_X0_tallyFlip_X0 : ∀ w ∈ u_ws RX0 TX0 4, w ∈ wsX0_tallyFlip := by decide +kernel
set_option maxHeartbeats 4000000 in
set_option maxRecDepth 100000 in
theorem tr_X0_tallyFlip_2 {p : Program} {l : Launch} {e : Env} {s : State} {m : MethodId} {args : Array Value} {below : List Frame} {meth : Method} {c : Code} {D : va_G} {cI : ClassId} {pt : Nat} {A : Nat → Prop} (X : CX p s m args meth c D cI pt A cX0_tallyFlip 4 none wsX0_tallyFlip RX0) (h_t h_l h_k h_lf h_ls h_a h_ap h_as h_af : Nat) (v_l_width : Int32) (v_lf : Nat → Int32) (v_a_given : Int32)  (y2_2 : Int32) (fu : Nat) (k39 : (Nat → Int32) → Option ((Nat → Int32))) (res : (Nat → Int32)) (hk39 : ∀ (e39_as : Nat → Int32), k39 e39_as = some res → ∀ (H : Heap) (locs : List Loc) (ls : Array Slot), va_P D vwCl [(h_l, .inr (1, [.ref h_t, .ref h_k, .ref h_lf, .ref h_ls, .int v_l_width])), (h_lf, .inl (cI, 6400, .inl v_lf)), (h_a, .inr (0, [.ref h_ap, .int v_a_given, .ref h_as, .ref h_af])), (h_as, .inl (cI, 32, .inl e39_as))] H → va_D A [(h_l, .inr (1, [.ref h_t, .ref h_k, .ref h_lf, .ref h_ls, .int v_l_width])), (h_lf, .inl (cI, 6400, .inl v_lf)), (h_a, .inr (0, [.ref h_ap, .int v_a_given, .ref h_as, .ref h_af])), (h_as, .inl (cI, 32, .inl e39_as))] → va_S A s.heap H locs → lv_has ls 4 [] → W p l e ({ frames := 3, cells := 0, slots := 0, locals := 68 } : Room) s m args below meth c H locs 0 0 (MQ below (Qg D A none [(h_l, .inr (1, [.ref h_t, .ref h_k, .ref h_lf, .ref h_ls, .int v_l_width])), (h_lf, .inl (cI, 6400, .inl v_lf)), (h_a, .inr (0, [.ref h_ap, .int v_a_given, .ref h_as, .ref h_af])), (h_as, .inl (cI, 32, .inl res))]) args s 0 0 A) (F0 m 39 ls [])) :
    ∀ (n : Nat) (u2_as : Nat → Int32) (y2_3 : Int32), fr_X0_tallyFlip_2 fu v_l_width v_lf y2_2 k39 n u2_as y2_3 = some res → ∀ (H : Heap) (locs : List Loc) (ls : Array Slot), va_P D vwCl [(h_l, .inr (1, [.ref h_t, .ref h_k, .ref h_lf, .ref h_ls, .int v_l_width])), (h_lf, .inl (cI, 6400, .inl v_lf)), (h_a, .inr (0, [.ref h_ap, .int v_a_given, .ref h_as, .ref h_af])), (h_as, .inl (cI, 32, .inl u2_as))] H → va_D A [(h_l, .inr (1, [.ref h_t, .ref h_k, .ref h_lf, .ref h_ls, .int v_l_width])), (h_lf, .inl (cI, 6400, .inl v_lf)), (h_a, .inr (0, [.ref h_ap, .int v_a_given, .ref h_as, .ref h_af])), (h_as, .inl (cI, 32, .inl u2_as))] → va_S A s.heap H locs → lv_has ls 4 [(0, .ref h_a), (1, .ref h_l), (2, .int y2_2), (3, .int y2_3)] → W p l e ({ frames := 3, cells := 0, slots := 0, locals := 68 } : Room) s m args below meth c H locs 0 0 (MQ below (Qg D A none [(h_l, .inr (1, [.ref h_t, .ref h_k, .ref h_lf, .ref h_ls, .int v_l_width])), (h_lf, .inl (cI, 6400, .inl v_lf)), (h_a, .inr (0, [.ref h_ap, .int v_a_given, .ref h_as, .ref h_af])), (h_as, .inl (cI, 32, .inl res))]) args s 0 0 A) (F0 m 2 ls []) := by
  obtain ⟨hx, hb, hml, hown, hts, hr, hlk, hE, hH, hA⟩ := id X
  intro n
  induction n with
  | zero =>
    intro u2_as y2_3 h
    cases (show none = some res from h)
  | succ n ih =>
    intro u2_as y2_3 h H locs ls hP hD hS hl
    rw [fr_X0_tallyFlip_2] at h
    refine lv_iload_n hx hb dX0_tallyFlip_2 rfl (lv_at hl 3 rfl) ?_
    refine lv_iconst (v := (4 : Int32)) hx hb dX0_tallyFlip_3 (by decide) ?_
    refine lv_icmp_ge (tgt := 39) hx hb dX0_tallyFlip_4 (by decide) (fun c_1 => ?_) (fun c_1 => ?_)
    · have h := x_p c_1 h
      exact hk39 u2_as h _ _ _ hP hD hS (lv_sub hl [] rfl)
    · have h := x_n c_1 h
      refine lv_aload_n hx hb dX0_tallyFlip_7 rfl (lv_at hl 1 rfl) ?_
      refine lv_iload_n hx hb dX0_tallyFlip_8 rfl (lv_at hl 2 rfl) ?_
      refine lv_iload_n hx hb dX0_tallyFlip_9 rfl (lv_at hl 3 rfl) ?_
      obtain ⟨t_2, hc, h⟩ := x_b h
      refine c_V (q0 := 0) (ci := 1) (na := 2) (rest := []) (st1 := [.int t_2]) (Wr := [(h_a, .inr (0, [.ref h_ap, .int v_a_given, .ref h_as, .ref h_af])), (h_as, .inl (cI, 32, .inl u2_as))]) (Wn := [(h_l, .inr (1, [.ref h_t, .ref h_k, .ref h_lf, .ref h_ls, .int v_l_width])), (h_lf, .inl (cI, 6400, .inl v_lf)), (h_a, .inr (0, [.ref h_ap, .int v_a_given, .ref h_as, .ref h_af])), (h_as, .inl (cI, 32, .inl u2_as))]) X hP hD hS hl.1 (m_X2_isSilentUnder l D cI pt h_t h_l h_k h_lf h_ls v_l_width v_lf y2_2 y2_3 fu _ hc) gX0_tallyFlip_X2_isSilentUnder rfl ⟨rfl, rfl⟩ rfl (by decide +kernel) ⟨Nat.le_of_ble_eq_true rfl, Nat.le_of_ble_eq_true rfl⟩ rfl rfl [0, 1] [2, 3] [2, 3, 0, 1] rfl rfl rfl rfl rfl (by decide) rfl rfl (Nat.le_of_ble_eq_true rfl) dX0_tallyFlip_10 ⟨Nat.zero_le _, Nat.zero_le _⟩ rfl rfl (fun H locs hP hD hS => ?_)
      refine lv_if_eq (tgt := 33) hx hb dX0_tallyFlip_13 (by decide) (fun c_3 => ?_) (fun c_3 => ?_)
      · have h := x_p c_3 h
        refine lv_iinc (v := (y2_3 + (1 : Int32))) (lv' := [(3, .int (y2_3 + (1 : Int32))), (0, .ref h_a), (1, .ref h_l), (2, .int y2_2)]) hx hb dX0_tallyFlip_33 hl (k := 3) rfl rfl (by decide) rfl (fun ls hl => ?_)
        refine lv_goto (tgt := 2) hx hb dX0_tallyFlip_36 (by decide) ?_
        exact ih u2_as (y2_3 + (1 : Int32)) h _ _ _ hP hD hS (lv_sub hl [1, 2, 3, 0] rfl)
      · have h := x_n c_3 h
        refine lv_aload_n hx hb dX0_tallyFlip_16 rfl (lv_at hl 0 rfl) ?_
        refine va_get (D := D) (ci := 0) (v := .ref h_as) (C := RX0) (T := TX0) (N := 4) hx hb hts i_X0_tallyFlip_X0 hown hE.1 hP 2 rfl rfl 2 (by decide) (hts _ q_X0_tallyFlip_0) (fun _ h9 => h9) rfl dX0_tallyFlip_17 ?_
        refine lv_iload_n hx hb dX0_tallyFlip_20 rfl (lv_at hl 2 rfl) ?_
        obtain ⟨t_4, hc, h⟩ := x_b h
        refine c_S (na := 1) (rest := [.ref h_as]) (st1 := [.int t_4, .ref h_as]) (Wr := [(h_l, .inr (1, [.ref h_t, .ref h_k, .ref h_lf, .ref h_ls, .int v_l_width])), (h_lf, .inl (cI, 6400, .inl v_lf)), (h_a, .inr (0, [.ref h_ap, .int v_a_given, .ref h_as, .ref h_af])), (h_as, .inl (cI, 32, .inl u2_as))]) (Wn := [(h_l, .inr (1, [.ref h_t, .ref h_k, .ref h_lf, .ref h_ls, .int v_l_width])), (h_lf, .inl (cI, 6400, .inl v_lf)), (h_a, .inr (0, [.ref h_ap, .int v_a_given, .ref h_as, .ref h_af])), (h_as, .inl (cI, 32, .inl u2_as))]) X hP hD hS hl.1 (m_X2_cellOf l D cI pt   y2_2 fu _ hc) gX0_tallyFlip_X2_cellOf rfl ⟨rfl, rfl⟩ rfl (by decide +kernel) ⟨Nat.le_of_ble_eq_true rfl, Nat.le_of_ble_eq_true rfl⟩ [] [0, 1, 2, 3] [0, 1, 2, 3] rfl rfl rfl rfl (by decide) rfl rfl (Nat.le_of_ble_eq_true rfl) dX0_tallyFlip_21 ⟨Nat.zero_le _, Nat.zero_le _⟩ rfl rfl (fun H locs hP hD hS => ?_)
        refine lv_iconst (v := (4 : Int32)) hx hb dX0_tallyFlip_24 (by decide) ?_
        refine lv_imul hx hb dX0_tallyFlip_25 ?_
        refine lv_iload_n hx hb dX0_tallyFlip_26 rfl (lv_at hl 3 rfl) ?_
        refine lv_iadd hx hb dX0_tallyFlip_27 ?_
        refine lv_dup2_11 hx hb dX0_tallyFlip_28 rfl rfl ?_
        obtain ⟨g_5, h⟩ := x_gd h
        refine va_iald hx hb hE.1 hP 3 0 rfl rfl g_5 dX0_tallyFlip_29 ?_
        refine lv_iconst (v := (1 : Int32)) hx hb dX0_tallyFlip_30 (by decide) ?_
        refine lv_iadd hx hb dX0_tallyFlip_31 ?_
        obtain ⟨g_6, h⟩ := x_gd h
        refine va_iast hx hb hE.1 hP hD hS 3 0 rfl rfl g_6 dX0_tallyFlip_32 (fun H locs hP hD hS => ?_)
        have hP : va_P D vwCl [(h_l, .inr (1, [.ref h_t, .ref h_k, .ref h_lf, .ref h_ls, .int v_l_width])), (h_lf, .inl (cI, 6400, .inl v_lf)), (h_a, .inr (0, [.ref h_ap, .int v_a_given, .ref h_as, .ref h_af])), (h_as, .inl (cI, 32, .inl (upd u2_as ((t_4 * (4 : Int32)) + y2_3).toNatClampNeg ((u2_as ((t_4 * (4 : Int32)) + y2_3).toNatClampNeg) + (1 : Int32)))))] H := hP
        have hD : va_D A [(h_l, .inr (1, [.ref h_t, .ref h_k, .ref h_lf, .ref h_ls, .int v_l_width])), (h_lf, .inl (cI, 6400, .inl v_lf)), (h_a, .inr (0, [.ref h_ap, .int v_a_given, .ref h_as, .ref h_af])), (h_as, .inl (cI, 32, .inl (upd u2_as ((t_4 * (4 : Int32)) + y2_3).toNatClampNeg ((u2_as ((t_4 * (4 : Int32)) + y2_3).toNatClampNeg) + (1 : Int32)))))] := hD
        refine lv_iinc (v := (y2_3 + (1 : Int32))) (lv' := [(3, .int (y2_3 + (1 : Int32))), (0, .ref h_a), (1, .ref h_l), (2, .int y2_2)]) hx hb dX0_tallyFlip_33 hl (k := 3) rfl rfl (by decide) rfl (fun ls hl => ?_)
        refine lv_goto (tgt := 2) hx hb dX0_tallyFlip_36 (by decide) ?_
        exact ih (upd u2_as ((t_4 * (4 : Int32)) + y2_3).toNatClampNeg ((u2_as ((t_4 * (4 : Int32)) + y2_3).toNatClampNeg) + (1 : Int32))) (y2_3 + (1 : Int32)) h _ _ _ hP hD hS (lv_sub hl [1, 2, 3, 0] rfl)
set_option maxHeartbeats 4000000 in
set_option maxRecDepth 100000 in
theorem m_X0_tallyFlip (l : Launch) (D : va_G) (cI : ClassId) (pt : Nat) (h_t h_l h_k h_lf h_ls h_a h_ap h_as h_af : Nat) (v_l_width : Int32) (v_lf : Nat → Int32) (v_a_given : Int32) (v_as : Nat → Int32) (a1 : Int32) (fu : Nat) (res : (Nat → Int32)) (h : f_X0_tallyFlip fu v_l_width v_lf v_as a1 = some res) :
    MT l D cI pt yX0_tallyFlip wsX0_tallyFlip ({ frames := 3, cells := 0, slots := 0, locals := 68 } : Room) [.ref h_a, .ref h_l, .int a1] [(h_l, .inr (1, [.ref h_t, .ref h_k, .ref h_lf, .ref h_ls, .int v_l_width])), (h_lf, .inl (cI, 6400, .inl v_lf)), (h_a, .inr (0, [.ref h_ap, .int v_a_given, .ref h_as, .ref h_af])), (h_as, .inl (cI, 32, .inl v_as))] none [(h_l, .inr (1, [.ref h_t, .ref h_k, .ref h_lf, .ref h_ls, .int v_l_width])), (h_lf, .inl (cI, 6400, .inl v_lf)), (h_a, .inr (0, [.ref h_ap, .int v_a_given, .ref h_as, .ref h_af])), (h_as, .inl (cI, 32, .inl res))] := by
  refine MT.mk (cc := cX0_tallyFlip) (maxL := 4) (ret := none) (own := RX0) (by decide) rfl rfl (Nat.le_of_ble_eq_true rfl) rfl ?_
  intro p e s m args below meth c A ls X hP hD hS hl
  obtain ⟨hx, hb, hml, hown, hts, hr, hlk, hE, hH, hA⟩ := id X
  have hl : lv_has ls 4 [(0, .ref h_a), (1, .ref h_l), (2, .int a1)] := hl
  unfold f_X0_tallyFlip at h
  refine lv_iconst (v := (0 : Int32)) hx hb dX0_tallyFlip_0 (by decide) ?_
  refine lv_istore_n (lv' := [(3, .int (0 : Int32)), (0, .ref h_a), (1, .ref h_l), (2, .int a1)]) hx hb dX0_tallyFlip_1 rfl hl (by decide) rfl (fun ls hl => ?_)
  refine tr_X0_tallyFlip_2 X h_t h_l h_k h_lf h_ls h_a h_ap h_as h_af v_l_width v_lf v_a_given a1 fu _ res ?_ fu v_as (0 : Int32) h _ _ _ hP hD hS (lv_sub hl [1, 2, 3, 0] rfl)
  · intro e2_39_as h H locs ls hP hD hS hl
    cases h
    exact r_v X hP hD hS rfl dX0_tallyFlip_39

theorem q_X0_tallySilent_0 : (.fieldLink RX0 15 "StruckBits$Advice" "silent" "[I" : Cond) ∈ wsX0_tallySilent := by decide +kernel
theorem i_X0_tallySilent_X0 : ∀ w ∈ u_ws RX0 TX0 4, w ∈ wsX0_tallySilent := by decide +kernel
set_option maxHeartbeats 4000000 in
set_option maxRecDepth 100000 in
theorem tr_X0_tallySilent_2 {p : Program} {l : Launch} {e : Env} {s : State} {m : MethodId} {args : Array Value} {below : List Frame} {meth : Method} {c : Code} {D : va_G} {cI : ClassId} {pt : Nat} {A : Nat → Prop} (X : CX p s m args meth c D cI pt A cX0_tallySilent 3 none wsX0_tallySilent RX0) (h_p h_t h_m h_mc h_mr h_tc h_tn h_tt h_tr h_tw h_l h_k h_lf h_ls h_a h_ap h_as h_af : Nat) (v_m_rowLength : Int32) (v_m_next : Int32) (v_m_tick : Int32) (v_m_ending : Int32) (v_m_readNow : Int32) (v_m_writtenNow : Int32) (v_m_writtenSince : Int32) (v_l_width : Int32) (v_lf : Nat → Int32) (v_a_given : Int32)   (fu : Nat) (k21 : (Nat → Int32) → Option ((Nat → Int32))) (res : (Nat → Int32)) (hk21 : ∀ (e21_as : Nat → Int32), k21 e21_as = some res → ∀ (H : Heap) (locs : List Loc) (ls : Array Slot), va_P D vwCl [(h_t, .inr (4, [.ref h_m, .ref h_tc, .ref h_tn, .ref h_tt, .ref h_tr, .ref h_tw])), (h_m, .inr (2, [.ref h_p, .ref h_mc, .ref h_mr, .int v_m_rowLength, .int v_m_next, .int v_m_tick, .int v_m_ending, .int v_m_readNow, .int v_m_writtenNow, .int v_m_writtenSince])), (h_l, .inr (1, [.ref h_t, .ref h_k, .ref h_lf, .ref h_ls, .int v_l_width])), (h_lf, .inl (cI, 6400, .inl v_lf)), (h_a, .inr (0, [.ref h_ap, .int v_a_given, .ref h_as, .ref h_af])), (h_as, .inl (cI, 32, .inl e21_as))] H → va_D A [(h_t, .inr (4, [.ref h_m, .ref h_tc, .ref h_tn, .ref h_tt, .ref h_tr, .ref h_tw])), (h_m, .inr (2, [.ref h_p, .ref h_mc, .ref h_mr, .int v_m_rowLength, .int v_m_next, .int v_m_tick, .int v_m_ending, .int v_m_readNow, .int v_m_writtenNow, .int v_m_writtenSince])), (h_l, .inr (1, [.ref h_t, .ref h_k, .ref h_lf, .ref h_ls, .int v_l_width])), (h_lf, .inl (cI, 6400, .inl v_lf)), (h_a, .inr (0, [.ref h_ap, .int v_a_given, .ref h_as, .ref h_af])), (h_as, .inl (cI, 32, .inl e21_as))] → va_S A s.heap H locs → lv_has ls 3 [(0, .ref h_a), (1, .ref h_l)] → W p l e ({ frames := 4, cells := 0, slots := 0, locals := 91 } : Room) s m args below meth c H locs 0 0 (MQ below (Qg D A none [(h_t, .inr (4, [.ref h_m, .ref h_tc, .ref h_tn, .ref h_tt, .ref h_tr, .ref h_tw])), (h_m, .inr (2, [.ref h_p, .ref h_mc, .ref h_mr, .int v_m_rowLength, .int v_m_next, .int v_m_tick, .int v_m_ending, .int v_m_readNow, .int v_m_writtenNow, .int v_m_writtenSince])), (h_l, .inr (1, [.ref h_t, .ref h_k, .ref h_lf, .ref h_ls, .int v_l_width])), (h_lf, .inl (cI, 6400, .inl v_lf)), (h_a, .inr (0, [.ref h_ap, .int v_a_given, .ref h_as, .ref h_af])), (h_as, .inl (cI, 32, .inl res))]) args s 0 0 A) (F0 m 21 ls [])) :
    ∀ (n : Nat) (u2_as : Nat → Int32) (y2_2 : Int32), fr_X0_tallySilent_2 fu  k21 n u2_as y2_2 = some res → ∀ (H : Heap) (locs : List Loc) (ls : Array Slot), va_P D vwCl [(h_t, .inr (4, [.ref h_m, .ref h_tc, .ref h_tn, .ref h_tt, .ref h_tr, .ref h_tw])), (h_m, .inr (2, [.ref h_p, .ref h_mc, .ref h_mr, .int v_m_rowLength, .int v_m_next, .int v_m_tick, .int v_m_ending, .int v_m_readNow, .int v_m_writtenNow, .int v_m_writtenSince])), (h_l, .inr (1, [.ref h_t, .ref h_k, .ref h_lf, .ref h_ls, .int v_l_width])), (h_lf, .inl (cI, 6400, .inl v_lf)), (h_a, .inr (0, [.ref h_ap, .int v_a_given, .ref h_as, .ref h_af])), (h_as, .inl (cI, 32, .inl u2_as))] H → va_D A [(h_t, .inr (4, [.ref h_m, .ref h_tc, .ref h_tn, .ref h_tt, .ref h_tr, .ref h_tw])), (h_m, .inr (2, [.ref h_p, .ref h_mc, .ref h_mr, .int v_m_rowLength, .int v_m_next, .int v_m_tick, .int v_m_ending, .int v_m_readNow, .int v_m_writtenNow, .int v_m_writtenSince])), (h_l, .inr (1, [.ref h_t, .ref h_k, .ref h_lf, .ref h_ls, .int v_l_width])), (h_lf, .inl (cI, 6400, .inl v_lf)), (h_a, .inr (0, [.ref h_ap, .int v_a_given, .ref h_as, .ref h_af])), (h_as, .inl (cI, 32, .inl u2_as))] → va_S A s.heap H locs → lv_has ls 3 [(0, .ref h_a), (1, .ref h_l), (2, .int y2_2)] → W p l e ({ frames := 4, cells := 0, slots := 0, locals := 91 } : Room) s m args below meth c H locs 0 0 (MQ below (Qg D A none [(h_t, .inr (4, [.ref h_m, .ref h_tc, .ref h_tn, .ref h_tt, .ref h_tr, .ref h_tw])), (h_m, .inr (2, [.ref h_p, .ref h_mc, .ref h_mr, .int v_m_rowLength, .int v_m_next, .int v_m_tick, .int v_m_ending, .int v_m_readNow, .int v_m_writtenNow, .int v_m_writtenSince])), (h_l, .inr (1, [.ref h_t, .ref h_k, .ref h_lf, .ref h_ls, .int v_l_width])), (h_lf, .inl (cI, 6400, .inl v_lf)), (h_a, .inr (0, [.ref h_ap, .int v_a_given, .ref h_as, .ref h_af])), (h_as, .inl (cI, 32, .inl res))]) args s 0 0 A) (F0 m 2 ls []) := by
  obtain ⟨hx, hb, hml, hown, hts, hr, hlk, hE, hH, hA⟩ := id X
  intro n
  induction n with
  | zero =>
    intro u2_as y2_2 h
    cases (show none = some res from h)
  | succ n ih =>
    intro u2_as y2_2 h H locs ls hP hD hS hl
    rw [fr_X0_tallySilent_2] at h
    refine lv_iload_n hx hb dX0_tallySilent_2 rfl (lv_at hl 2 rfl) ?_
    refine lv_bipush (v := (32 : Int32)) hx hb dX0_tallySilent_3 (by decide) ?_
    refine lv_icmp_ge (tgt := 21) hx hb dX0_tallySilent_5 (by decide) (fun c_1 => ?_) (fun c_1 => ?_)
    · have h := x_p c_1 h
      exact hk21 u2_as h _ _ _ hP hD hS (lv_sub hl [0, 1] rfl)
    · have h := x_n c_1 h
      refine lv_aload_n hx hb dX0_tallySilent_8 rfl (lv_at hl 0 rfl) ?_
      refine va_get (D := D) (ci := 0) (v := .ref h_as) (C := RX0) (T := TX0) (N := 4) hx hb hts i_X0_tallySilent_X0 hown hE.1 hP 4 rfl rfl 2 (by decide) (hts _ q_X0_tallySilent_0) (fun _ h9 => h9) rfl dX0_tallySilent_9 ?_
      refine lv_iload_n hx hb dX0_tallySilent_12 rfl (lv_at hl 2 rfl) ?_
      refine lv_iconst (v := (0 : Int32)) hx hb dX0_tallySilent_13 (by decide) ?_
      obtain ⟨g_2, h⟩ := x_gd h
      refine va_iast hx hb hE.1 hP hD hS 5 0 rfl rfl g_2 dX0_tallySilent_14 (fun H locs hP hD hS => ?_)
      have hP : va_P D vwCl [(h_t, .inr (4, [.ref h_m, .ref h_tc, .ref h_tn, .ref h_tt, .ref h_tr, .ref h_tw])), (h_m, .inr (2, [.ref h_p, .ref h_mc, .ref h_mr, .int v_m_rowLength, .int v_m_next, .int v_m_tick, .int v_m_ending, .int v_m_readNow, .int v_m_writtenNow, .int v_m_writtenSince])), (h_l, .inr (1, [.ref h_t, .ref h_k, .ref h_lf, .ref h_ls, .int v_l_width])), (h_lf, .inl (cI, 6400, .inl v_lf)), (h_a, .inr (0, [.ref h_ap, .int v_a_given, .ref h_as, .ref h_af])), (h_as, .inl (cI, 32, .inl (upd u2_as y2_2.toNatClampNeg (0 : Int32))))] H := hP
      have hD : va_D A [(h_t, .inr (4, [.ref h_m, .ref h_tc, .ref h_tn, .ref h_tt, .ref h_tr, .ref h_tw])), (h_m, .inr (2, [.ref h_p, .ref h_mc, .ref h_mr, .int v_m_rowLength, .int v_m_next, .int v_m_tick, .int v_m_ending, .int v_m_readNow, .int v_m_writtenNow, .int v_m_writtenSince])), (h_l, .inr (1, [.ref h_t, .ref h_k, .ref h_lf, .ref h_ls, .int v_l_width])), (h_lf, .inl (cI, 6400, .inl v_lf)), (h_a, .inr (0, [.ref h_ap, .int v_a_given, .ref h_as, .ref h_af])), (h_as, .inl (cI, 32, .inl (upd u2_as y2_2.toNatClampNeg (0 : Int32))))] := hD
      refine lv_iinc (v := (y2_2 + (1 : Int32))) (lv' := [(2, .int (y2_2 + (1 : Int32))), (0, .ref h_a), (1, .ref h_l)]) hx hb dX0_tallySilent_15 hl (k := 2) rfl rfl (by decide) rfl (fun ls hl => ?_)
      refine lv_goto (tgt := 2) hx hb dX0_tallySilent_18 (by decide) ?_
      exact ih (upd u2_as y2_2.toNatClampNeg (0 : Int32)) (y2_2 + (1 : Int32)) h _ _ _ hP hD hS (lv_sub hl [1, 2, 0] rfl)
set_option maxHeartbeats 4000000 in
set_option maxRecDepth 100000 in
theorem tr_X0_tallySilent_23 {p : Program} {l : Launch} {e : Env} {s : State} {m : MethodId} {args : Array Value} {below : List Frame} {meth : Method} {c : Code} {D : va_G} {cI : ClassId} {pt : Nat} {A : Nat → Prop} (X : CX p s m args meth c D cI pt A cX0_tallySilent 3 none wsX0_tallySilent RX0) (h_p h_t h_m h_mc h_mr h_tc h_tn h_tt h_tr h_tw h_l h_k h_lf h_ls h_a h_ap h_as h_af : Nat) (v_m_rowLength : Int32) (v_m_next : Int32) (v_m_tick : Int32) (v_m_ending : Int32) (v_m_readNow : Int32) (v_m_writtenNow : Int32) (v_m_writtenSince : Int32) (v_l_width : Int32) (v_lf : Nat → Int32) (v_a_given : Int32)   (fu : Nat) (k51 : (Nat → Int32) → Option ((Nat → Int32))) (res : (Nat → Int32)) (hk51 : ∀ (e51_as : Nat → Int32), k51 e51_as = some res → ∀ (H : Heap) (locs : List Loc) (ls : Array Slot), va_P D vwCl [(h_t, .inr (4, [.ref h_m, .ref h_tc, .ref h_tn, .ref h_tt, .ref h_tr, .ref h_tw])), (h_m, .inr (2, [.ref h_p, .ref h_mc, .ref h_mr, .int v_m_rowLength, .int v_m_next, .int v_m_tick, .int v_m_ending, .int v_m_readNow, .int v_m_writtenNow, .int v_m_writtenSince])), (h_l, .inr (1, [.ref h_t, .ref h_k, .ref h_lf, .ref h_ls, .int v_l_width])), (h_lf, .inl (cI, 6400, .inl v_lf)), (h_a, .inr (0, [.ref h_ap, .int v_a_given, .ref h_as, .ref h_af])), (h_as, .inl (cI, 32, .inl e51_as))] H → va_D A [(h_t, .inr (4, [.ref h_m, .ref h_tc, .ref h_tn, .ref h_tt, .ref h_tr, .ref h_tw])), (h_m, .inr (2, [.ref h_p, .ref h_mc, .ref h_mr, .int v_m_rowLength, .int v_m_next, .int v_m_tick, .int v_m_ending, .int v_m_readNow, .int v_m_writtenNow, .int v_m_writtenSince])), (h_l, .inr (1, [.ref h_t, .ref h_k, .ref h_lf, .ref h_ls, .int v_l_width])), (h_lf, .inl (cI, 6400, .inl v_lf)), (h_a, .inr (0, [.ref h_ap, .int v_a_given, .ref h_as, .ref h_af])), (h_as, .inl (cI, 32, .inl e51_as))] → va_S A s.heap H locs → lv_has ls 3 [] → W p l e ({ frames := 4, cells := 0, slots := 0, locals := 91 } : Room) s m args below meth c H locs 0 0 (MQ below (Qg D A none [(h_t, .inr (4, [.ref h_m, .ref h_tc, .ref h_tn, .ref h_tt, .ref h_tr, .ref h_tw])), (h_m, .inr (2, [.ref h_p, .ref h_mc, .ref h_mr, .int v_m_rowLength, .int v_m_next, .int v_m_tick, .int v_m_ending, .int v_m_readNow, .int v_m_writtenNow, .int v_m_writtenSince])), (h_l, .inr (1, [.ref h_t, .ref h_k, .ref h_lf, .ref h_ls, .int v_l_width])), (h_lf, .inl (cI, 6400, .inl v_lf)), (h_a, .inr (0, [.ref h_ap, .int v_a_given, .ref h_as, .ref h_af])), (h_as, .inl (cI, 32, .inl res))]) args s 0 0 A) (F0 m 51 ls [])) :
    ∀ (n : Nat) (u23_as : Nat → Int32) (y23_2 : Int32), fr_X0_tallySilent_23 fu v_m_tick v_l_width v_lf k51 n u23_as y23_2 = some res → ∀ (H : Heap) (locs : List Loc) (ls : Array Slot), va_P D vwCl [(h_t, .inr (4, [.ref h_m, .ref h_tc, .ref h_tn, .ref h_tt, .ref h_tr, .ref h_tw])), (h_m, .inr (2, [.ref h_p, .ref h_mc, .ref h_mr, .int v_m_rowLength, .int v_m_next, .int v_m_tick, .int v_m_ending, .int v_m_readNow, .int v_m_writtenNow, .int v_m_writtenSince])), (h_l, .inr (1, [.ref h_t, .ref h_k, .ref h_lf, .ref h_ls, .int v_l_width])), (h_lf, .inl (cI, 6400, .inl v_lf)), (h_a, .inr (0, [.ref h_ap, .int v_a_given, .ref h_as, .ref h_af])), (h_as, .inl (cI, 32, .inl u23_as))] H → va_D A [(h_t, .inr (4, [.ref h_m, .ref h_tc, .ref h_tn, .ref h_tt, .ref h_tr, .ref h_tw])), (h_m, .inr (2, [.ref h_p, .ref h_mc, .ref h_mr, .int v_m_rowLength, .int v_m_next, .int v_m_tick, .int v_m_ending, .int v_m_readNow, .int v_m_writtenNow, .int v_m_writtenSince])), (h_l, .inr (1, [.ref h_t, .ref h_k, .ref h_lf, .ref h_ls, .int v_l_width])), (h_lf, .inl (cI, 6400, .inl v_lf)), (h_a, .inr (0, [.ref h_ap, .int v_a_given, .ref h_as, .ref h_af])), (h_as, .inl (cI, 32, .inl u23_as))] → va_S A s.heap H locs → lv_has ls 3 [(0, .ref h_a), (1, .ref h_l), (2, .int y23_2)] → W p l e ({ frames := 4, cells := 0, slots := 0, locals := 91 } : Room) s m args below meth c H locs 0 0 (MQ below (Qg D A none [(h_t, .inr (4, [.ref h_m, .ref h_tc, .ref h_tn, .ref h_tt, .ref h_tr, .ref h_tw])), (h_m, .inr (2, [.ref h_p, .ref h_mc, .ref h_mr, .int v_m_rowLength, .int v_m_next, .int v_m_tick, .int v_m_ending, .int v_m_readNow, .int v_m_writtenNow, .int v_m_writtenSince])), (h_l, .inr (1, [.ref h_t, .ref h_k, .ref h_lf, .ref h_ls, .int v_l_width])), (h_lf, .inl (cI, 6400, .inl v_lf)), (h_a, .inr (0, [.ref h_ap, .int v_a_given, .ref h_as, .ref h_af])), (h_as, .inl (cI, 32, .inl res))]) args s 0 0 A) (F0 m 23 ls []) := by
  obtain ⟨hx, hb, hml, hown, hts, hr, hlk, hE, hH, hA⟩ := id X
  intro n
  induction n with
  | zero =>
    intro u23_as y23_2 h
    cases (show none = some res from h)
  | succ n ih =>
    intro u23_as y23_2 h H locs ls hP hD hS hl
    rw [fr_X0_tallySilent_23] at h
    refine lv_iload_n hx hb dX0_tallySilent_23 rfl (lv_at hl 2 rfl) ?_
    refine lv_aload_n hx hb dX0_tallySilent_24 rfl (lv_at hl 1 rfl) ?_
    obtain ⟨t_3, hc, h⟩ := x_b h
    refine c_V (q0 := 2) (ci := 1) (na := 0) (rest := [.int y23_2]) (st1 := [.int t_3, .int y23_2]) (Wr := [(h_lf, .inl (cI, 6400, .inl v_lf)), (h_a, .inr (0, [.ref h_ap, .int v_a_given, .ref h_as, .ref h_af])), (h_as, .inl (cI, 32, .inl u23_as))]) (Wn := [(h_t, .inr (4, [.ref h_m, .ref h_tc, .ref h_tn, .ref h_tt, .ref h_tr, .ref h_tw])), (h_m, .inr (2, [.ref h_p, .ref h_mc, .ref h_mr, .int v_m_rowLength, .int v_m_next, .int v_m_tick, .int v_m_ending, .int v_m_readNow, .int v_m_writtenNow, .int v_m_writtenSince])), (h_l, .inr (1, [.ref h_t, .ref h_k, .ref h_lf, .ref h_ls, .int v_l_width])), (h_lf, .inl (cI, 6400, .inl v_lf)), (h_a, .inr (0, [.ref h_ap, .int v_a_given, .ref h_as, .ref h_af])), (h_as, .inl (cI, 32, .inl u23_as))]) X hP hD hS hl.1 (m_X2_codes l D cI pt h_p h_t h_m h_mc h_mr h_tc h_tn h_tt h_tr h_tw h_l h_k h_lf h_ls v_m_rowLength v_m_next v_m_tick v_m_ending v_m_readNow v_m_writtenNow v_m_writtenSince v_l_width  fu _ hc) gX0_tallySilent_X2_codes rfl ⟨rfl, rfl⟩ rfl (by decide +kernel) ⟨Nat.le_of_ble_eq_true rfl, Nat.le_of_ble_eq_true rfl⟩ rfl rfl [0, 1, 2] [3, 4, 5] [3, 4, 5, 0, 1, 2] rfl rfl rfl rfl rfl (by decide) rfl rfl (Nat.le_of_ble_eq_true rfl) dX0_tallySilent_25 ⟨Nat.zero_le _, Nat.zero_le _⟩ rfl rfl (fun H locs hP hD hS => ?_)
    refine lv_icmp_ge (tgt := 51) hx hb dX0_tallySilent_28 (by decide) (fun c_4 => ?_) (fun c_4 => ?_)
    · have h := x_p c_4 h
      exact hk51 u23_as h _ _ _ hP hD hS (lv_sub hl [] rfl)
    · have h := x_n c_4 h
      refine lv_aload_n hx hb dX0_tallySilent_31 rfl (lv_at hl 1 rfl) ?_
      refine lv_iload_n hx hb dX0_tallySilent_32 rfl (lv_at hl 2 rfl) ?_
      obtain ⟨t_5, hc, h⟩ := x_b h
      refine c_V (q0 := 0) (ci := 1) (na := 1) (rest := []) (st1 := [.int t_5]) (Wr := [(h_t, .inr (4, [.ref h_m, .ref h_tc, .ref h_tn, .ref h_tt, .ref h_tr, .ref h_tw])), (h_m, .inr (2, [.ref h_p, .ref h_mc, .ref h_mr, .int v_m_rowLength, .int v_m_next, .int v_m_tick, .int v_m_ending, .int v_m_readNow, .int v_m_writtenNow, .int v_m_writtenSince])), (h_lf, .inl (cI, 6400, .inl v_lf)), (h_a, .inr (0, [.ref h_ap, .int v_a_given, .ref h_as, .ref h_af])), (h_as, .inl (cI, 32, .inl u23_as))]) (Wn := [(h_t, .inr (4, [.ref h_m, .ref h_tc, .ref h_tn, .ref h_tt, .ref h_tr, .ref h_tw])), (h_m, .inr (2, [.ref h_p, .ref h_mc, .ref h_mr, .int v_m_rowLength, .int v_m_next, .int v_m_tick, .int v_m_ending, .int v_m_readNow, .int v_m_writtenNow, .int v_m_writtenSince])), (h_l, .inr (1, [.ref h_t, .ref h_k, .ref h_lf, .ref h_ls, .int v_l_width])), (h_lf, .inl (cI, 6400, .inl v_lf)), (h_a, .inr (0, [.ref h_ap, .int v_a_given, .ref h_as, .ref h_af])), (h_as, .inl (cI, 32, .inl u23_as))]) X hP hD hS hl.1 (m_X2_isFlip l D cI pt h_t h_l h_k h_lf h_ls v_l_width y23_2 fu _ hc) gX0_tallySilent_X2_isFlip rfl ⟨rfl, rfl⟩ rfl (by decide +kernel) ⟨Nat.le_of_ble_eq_true rfl, Nat.le_of_ble_eq_true rfl⟩ rfl rfl [2] [0, 1, 3, 4, 5] [0, 1, 5, 2, 3, 4] rfl rfl rfl rfl rfl (by decide) rfl rfl (Nat.le_of_ble_eq_true rfl) dX0_tallySilent_33 ⟨Nat.zero_le _, Nat.zero_le _⟩ rfl rfl (fun H locs hP hD hS => ?_)
      refine lv_if_eq (tgt := 45) hx hb dX0_tallySilent_36 (by decide) (fun c_6 => ?_) (fun c_6 => ?_)
      · have h := x_p c_6 h
        refine lv_iinc (v := (y23_2 + (1 : Int32))) (lv' := [(2, .int (y23_2 + (1 : Int32))), (0, .ref h_a), (1, .ref h_l)]) hx hb dX0_tallySilent_45 hl (k := 2) rfl rfl (by decide) rfl (fun ls hl => ?_)
        refine lv_goto (tgt := 23) hx hb dX0_tallySilent_48 (by decide) ?_
        exact ih u23_as (y23_2 + (1 : Int32)) h _ _ _ hP hD hS (lv_sub hl [1, 2, 0] rfl)
      · have h := x_n c_6 h
        refine lv_aload_n hx hb dX0_tallySilent_39 rfl (lv_at hl 0 rfl) ?_
        refine lv_aload_n hx hb dX0_tallySilent_40 rfl (lv_at hl 1 rfl) ?_
        refine lv_iload_n hx hb dX0_tallySilent_41 rfl (lv_at hl 2 rfl) ?_
        obtain ⟨t_7, hc, h⟩ := x_b h
        refine c_V (q0 := 2) (ci := 0) (na := 2) (rest := []) (st1 := []) (Wr := [(h_t, .inr (4, [.ref h_m, .ref h_tc, .ref h_tn, .ref h_tt, .ref h_tr, .ref h_tw])), (h_m, .inr (2, [.ref h_p, .ref h_mc, .ref h_mr, .int v_m_rowLength, .int v_m_next, .int v_m_tick, .int v_m_ending, .int v_m_readNow, .int v_m_writtenNow, .int v_m_writtenSince]))]) (Wn := [(h_t, .inr (4, [.ref h_m, .ref h_tc, .ref h_tn, .ref h_tt, .ref h_tr, .ref h_tw])), (h_m, .inr (2, [.ref h_p, .ref h_mc, .ref h_mr, .int v_m_rowLength, .int v_m_next, .int v_m_tick, .int v_m_ending, .int v_m_readNow, .int v_m_writtenNow, .int v_m_writtenSince])), (h_l, .inr (1, [.ref h_t, .ref h_k, .ref h_lf, .ref h_ls, .int v_l_width])), (h_lf, .inl (cI, 6400, .inl v_lf)), (h_a, .inr (0, [.ref h_ap, .int v_a_given, .ref h_as, .ref h_af])), (h_as, .inl (cI, 32, .inl t_7))]) X hP hD hS hl.1 (m_X0_tallyFlip l D cI pt h_t h_l h_k h_lf h_ls h_a h_ap h_as h_af v_l_width v_lf v_a_given u23_as y23_2 fu _ hc) gX0_tallySilent_X0_tallyFlip rfl ⟨rfl, rfl⟩ rfl (by decide +kernel) ⟨Nat.le_of_ble_eq_true rfl, Nat.le_of_ble_eq_true rfl⟩ rfl rfl [2, 3, 4, 5] [0, 1] [0, 1, 2, 3, 4, 5] rfl rfl rfl rfl rfl (by decide) rfl rfl (Nat.le_of_ble_eq_true rfl) dX0_tallySilent_42 ⟨Nat.zero_le _, Nat.zero_le _⟩ rfl rfl (fun H locs hP hD hS => ?_)
        refine lv_iinc (v := (y23_2 + (1 : Int32))) (lv' := [(2, .int (y23_2 + (1 : Int32))), (0, .ref h_a), (1, .ref h_l)]) hx hb dX0_tallySilent_45 hl (k := 2) rfl rfl (by decide) rfl (fun ls hl => ?_)
        refine lv_goto (tgt := 23) hx hb dX0_tallySilent_48 (by decide) ?_
        exact ih t_7 (y23_2 + (1 : Int32)) h _ _ _ hP hD hS (lv_sub hl [1, 2, 0] rfl)
set_option maxHeartbeats 4000000 in
set_option maxRecDepth 100000 in
theorem m_X0_tallySilent (l : Launch) (D : va_G) (cI : ClassId) (pt : Nat) (h_p h_t h_m h_mc h_mr h_tc h_tn h_tt h_tr h_tw h_l h_k h_lf h_ls h_a h_ap h_as h_af : Nat) (v_m_rowLength : Int32) (v_m_next : Int32) (v_m_tick : Int32) (v_m_ending : Int32) (v_m_readNow : Int32) (v_m_writtenNow : Int32) (v_m_writtenSince : Int32) (v_l_width : Int32) (v_lf : Nat → Int32) (v_a_given : Int32) (v_as : Nat → Int32)  (fu : Nat) (res : (Nat → Int32)) (h : f_X0_tallySilent fu v_m_tick v_l_width v_lf v_as  = some res) :
    MT l D cI pt yX0_tallySilent wsX0_tallySilent ({ frames := 4, cells := 0, slots := 0, locals := 91 } : Room) [.ref h_a, .ref h_l] [(h_t, .inr (4, [.ref h_m, .ref h_tc, .ref h_tn, .ref h_tt, .ref h_tr, .ref h_tw])), (h_m, .inr (2, [.ref h_p, .ref h_mc, .ref h_mr, .int v_m_rowLength, .int v_m_next, .int v_m_tick, .int v_m_ending, .int v_m_readNow, .int v_m_writtenNow, .int v_m_writtenSince])), (h_l, .inr (1, [.ref h_t, .ref h_k, .ref h_lf, .ref h_ls, .int v_l_width])), (h_lf, .inl (cI, 6400, .inl v_lf)), (h_a, .inr (0, [.ref h_ap, .int v_a_given, .ref h_as, .ref h_af])), (h_as, .inl (cI, 32, .inl v_as))] none [(h_t, .inr (4, [.ref h_m, .ref h_tc, .ref h_tn, .ref h_tt, .ref h_tr, .ref h_tw])), (h_m, .inr (2, [.ref h_p, .ref h_mc, .ref h_mr, .int v_m_rowLength, .int v_m_next, .int v_m_tick, .int v_m_ending, .int v_m_readNow, .int v_m_writtenNow, .int v_m_writtenSince])), (h_l, .inr (1, [.ref h_t, .ref h_k, .ref h_lf, .ref h_ls, .int v_l_width])), (h_lf, .inl (cI, 6400, .inl v_lf)), (h_a, .inr (0, [.ref h_ap, .int v_a_given, .ref h_as, .ref h_af])), (h_as, .inl (cI, 32, .inl res))] := by
  refine MT.mk (cc := cX0_tallySilent) (maxL := 3) (ret := none) (own := RX0) (by decide) rfl rfl (Nat.le_of_ble_eq_true rfl) rfl ?_
  intro p e s m args below meth c A ls X hP hD hS hl
  obtain ⟨hx, hb, hml, hown, hts, hr, hlk, hE, hH, hA⟩ := id X
  have hl : lv_has ls 3 [(0, .ref h_a), (1, .ref h_l)] := hl
  unfold f_X0_tallySilent at h
  refine lv_iconst (v := (0 : Int32)) hx hb dX0_tallySilent_0 (by decide) ?_
  refine lv_istore_n (lv' := [(2, .int (0 : Int32)), (0, .ref h_a), (1, .ref h_l)]) hx hb dX0_tallySilent_1 rfl hl (by decide) rfl (fun ls hl => ?_)
  refine tr_X0_tallySilent_2 X h_p h_t h_m h_mc h_mr h_tc h_tn h_tt h_tr h_tw h_l h_k h_lf h_ls h_a h_ap h_as h_af v_m_rowLength v_m_next v_m_tick v_m_ending v_m_readNow v_m_writtenNow v_m_writtenSince v_l_width v_lf v_a_given  fu _ res ?_ fu v_as (0 : Int32) h _ _ _ hP hD hS (lv_sub hl [1, 2, 0] rfl)
  · intro e2_21_as h H locs ls hP hD hS hl
    refine lv_iconst (v := (0 : Int32)) hx hb dX0_tallySilent_21 (by decide) ?_
    refine lv_istore_n (lv' := [(2, .int (0 : Int32)), (0, .ref h_a), (1, .ref h_l)]) hx hb dX0_tallySilent_22 rfl hl (by decide) rfl (fun ls hl => ?_)
    refine tr_X0_tallySilent_23 X h_p h_t h_m h_mc h_mr h_tc h_tn h_tt h_tr h_tw h_l h_k h_lf h_ls h_a h_ap h_as h_af v_m_rowLength v_m_next v_m_tick v_m_ending v_m_readNow v_m_writtenNow v_m_writtenSince v_l_width v_lf v_a_given  fu _ res ?_ fu e2_21_as (0 : Int32) h _ _ _ hP hD hS (lv_sub hl [1, 2, 0] rfl)
    · intro e23_51_as h H locs ls hP hD hS hl
      cases h
      exact r_v X hP hD hS rfl dX0_tallySilent_51

theorem q_X0_find_0 : (.fieldLink RX0 18 "StruckBits$Advice" "fewest" "[I" : Cond) ∈ wsX0_find := by decide +kernel
theorem i_X0_find_X0 : ∀ w ∈ u_ws RX0 TX0 4, w ∈ wsX0_find := by decide +kernel
theorem q_X0_find_2 : (.fieldLink RX0 29 "StruckBits$Advice" "given" "Z" : Cond) ∈ wsX0_find := by decide +kernel
set_option maxHeartbeats 4000000 in
set_option maxRecDepth 100000 in
theorem tr_X0_find_15 {p : Program} {l : Launch} {e : Env} {s : State} {m : MethodId} {args : Array Value} {below : List Frame} {meth : Method} {c : Code} {D : va_G} {cI : ClassId} {pt : Nat} {A : Nat → Prop} (X : CX p s m args meth c D cI pt A cX0_find 5 (some .int) wsX0_find RX0) (h_p h_t h_m h_mc h_mr h_tc h_tn h_tt h_tr h_tw h_l h_k h_lf h_ls h_a h_ap h_as h_af : Nat) (v_m_rowLength : Int32) (v_m_next : Int32) (v_m_tick : Int32) (v_m_ending : Int32) (v_m_readNow : Int32) (v_m_writtenNow : Int32) (v_m_writtenSince : Int32) (v_l_width : Int32) (v_lf : Nat → Int32) (u15_a_given : Int32) (u15_ap : Nat → Int32) (u15_as : Nat → Int32) (y15_2 : Int32) (y15_3 : Int32) (fu : Nat) (k46 : (Nat → Int32) → Option (Int32 × Int32 × (Nat → Int32) × (Nat → Int32) × (Nat → Int32))) (res : Int32 × Int32 × (Nat → Int32) × (Nat → Int32) × (Nat → Int32)) (hk46 : ∀ (e46_af : Nat → Int32), k46 e46_af = some res → ∀ (H : Heap) (locs : List Loc) (ls : Array Slot), va_P D vwCl [(h_t, .inr (4, [.ref h_m, .ref h_tc, .ref h_tn, .ref h_tt, .ref h_tr, .ref h_tw])), (h_m, .inr (2, [.ref h_p, .ref h_mc, .ref h_mr, .int v_m_rowLength, .int v_m_next, .int v_m_tick, .int v_m_ending, .int v_m_readNow, .int v_m_writtenNow, .int v_m_writtenSince])), (h_l, .inr (1, [.ref h_t, .ref h_k, .ref h_lf, .ref h_ls, .int v_l_width])), (h_lf, .inl (cI, 6400, .inl v_lf)), (h_a, .inr (0, [.ref h_ap, .int u15_a_given, .ref h_as, .ref h_af])), (h_ap, .inl (cI, 8, .inl u15_ap)), (h_as, .inl (cI, 32, .inl u15_as)), (h_af, .inl (cI, 585, .inl e46_af))] H → va_D A [(h_t, .inr (4, [.ref h_m, .ref h_tc, .ref h_tn, .ref h_tt, .ref h_tr, .ref h_tw])), (h_m, .inr (2, [.ref h_p, .ref h_mc, .ref h_mr, .int v_m_rowLength, .int v_m_next, .int v_m_tick, .int v_m_ending, .int v_m_readNow, .int v_m_writtenNow, .int v_m_writtenSince])), (h_l, .inr (1, [.ref h_t, .ref h_k, .ref h_lf, .ref h_ls, .int v_l_width])), (h_lf, .inl (cI, 6400, .inl v_lf)), (h_a, .inr (0, [.ref h_ap, .int u15_a_given, .ref h_as, .ref h_af])), (h_ap, .inl (cI, 8, .inl u15_ap)), (h_as, .inl (cI, 32, .inl u15_as)), (h_af, .inl (cI, 585, .inl e46_af))] → va_S A s.heap H locs → lv_has ls 5 [(0, .ref h_a), (2, .int y15_2), (3, .int y15_3)] → W p l e ({ frames := 5, cells := 0, slots := 0, locals := 113 } : Room) s m args below meth c H locs 0 0 (MQ below (Qg D A (some (.int res.1)) [(h_t, .inr (4, [.ref h_m, .ref h_tc, .ref h_tn, .ref h_tt, .ref h_tr, .ref h_tw])), (h_m, .inr (2, [.ref h_p, .ref h_mc, .ref h_mr, .int v_m_rowLength, .int v_m_next, .int v_m_tick, .int v_m_ending, .int v_m_readNow, .int v_m_writtenNow, .int v_m_writtenSince])), (h_l, .inr (1, [.ref h_t, .ref h_k, .ref h_lf, .ref h_ls, .int v_l_width])), (h_lf, .inl (cI, 6400, .inl v_lf)), (h_a, .inr (0, [.ref h_ap, .int res.2.1, .ref h_as, .ref h_af])), (h_ap, .inl (cI, 8, .inl res.2.2.1)), (h_as, .inl (cI, 32, .inl res.2.2.2.1)), (h_af, .inl (cI, 585, .inl res.2.2.2.2))]) args s 0 0 A) (F0 m 46 ls [])) :
    ∀ (n : Nat) (u15_af : Nat → Int32) (y15_4 : Int32), fr_X0_find_15 fu u15_as y15_2 y15_3 k46 n u15_af y15_4 = some res → ∀ (H : Heap) (locs : List Loc) (ls : Array Slot), va_P D vwCl [(h_t, .inr (4, [.ref h_m, .ref h_tc, .ref h_tn, .ref h_tt, .ref h_tr, .ref h_tw])), (h_m, .inr (2, [.ref h_p, .ref h_mc, .ref h_mr, .int v_m_rowLength, .int v_m_next, .int v_m_tick, .int v_m_ending, .int v_m_readNow, .int v_m_writtenNow, .int v_m_writtenSince])), (h_l, .inr (1, [.ref h_t, .ref h_k, .ref h_lf, .ref h_ls, .int v_l_width])), (h_lf, .inl (cI, 6400, .inl v_lf)), (h_a, .inr (0, [.ref h_ap, .int u15_a_given, .ref h_as, .ref h_af])), (h_ap, .inl (cI, 8, .inl u15_ap)), (h_as, .inl (cI, 32, .inl u15_as)), (h_af, .inl (cI, 585, .inl u15_af))] H → va_D A [(h_t, .inr (4, [.ref h_m, .ref h_tc, .ref h_tn, .ref h_tt, .ref h_tr, .ref h_tw])), (h_m, .inr (2, [.ref h_p, .ref h_mc, .ref h_mr, .int v_m_rowLength, .int v_m_next, .int v_m_tick, .int v_m_ending, .int v_m_readNow, .int v_m_writtenNow, .int v_m_writtenSince])), (h_l, .inr (1, [.ref h_t, .ref h_k, .ref h_lf, .ref h_ls, .int v_l_width])), (h_lf, .inl (cI, 6400, .inl v_lf)), (h_a, .inr (0, [.ref h_ap, .int u15_a_given, .ref h_as, .ref h_af])), (h_ap, .inl (cI, 8, .inl u15_ap)), (h_as, .inl (cI, 32, .inl u15_as)), (h_af, .inl (cI, 585, .inl u15_af))] → va_S A s.heap H locs → lv_has ls 5 [(0, .ref h_a), (2, .int y15_2), (3, .int y15_3), (4, .int y15_4)] → W p l e ({ frames := 5, cells := 0, slots := 0, locals := 113 } : Room) s m args below meth c H locs 0 0 (MQ below (Qg D A (some (.int res.1)) [(h_t, .inr (4, [.ref h_m, .ref h_tc, .ref h_tn, .ref h_tt, .ref h_tr, .ref h_tw])), (h_m, .inr (2, [.ref h_p, .ref h_mc, .ref h_mr, .int v_m_rowLength, .int v_m_next, .int v_m_tick, .int v_m_ending, .int v_m_readNow, .int v_m_writtenNow, .int v_m_writtenSince])), (h_l, .inr (1, [.ref h_t, .ref h_k, .ref h_lf, .ref h_ls, .int v_l_width])), (h_lf, .inl (cI, 6400, .inl v_lf)), (h_a, .inr (0, [.ref h_ap, .int res.2.1, .ref h_as, .ref h_af])), (h_ap, .inl (cI, 8, .inl res.2.2.1)), (h_as, .inl (cI, 32, .inl res.2.2.2.1)), (h_af, .inl (cI, 585, .inl res.2.2.2.2))]) args s 0 0 A) (F0 m 15 ls []) := by
  obtain ⟨hx, hb, hml, hown, hts, hr, hlk, hE, hH, hA⟩ := id X
  intro n
  induction n with
  | zero =>
    intro u15_af y15_4 h
    cases (show none = some res from h)
  | succ n ih =>
    intro u15_af y15_4 h H locs ls hP hD hS hl
    rw [fr_X0_find_15] at h
    refine lv_iload hx hb dX0_find_15 (lv_at hl 3 rfl) ?_
    refine lv_iload_n hx hb dX0_find_17 rfl (lv_at hl 1 rfl) ?_
    refine lv_icmp_gt (tgt := 46) hx hb dX0_find_18 (by decide) (fun c_3 => ?_) (fun c_3 => ?_)
    · have h := x_p c_3 h
      exact hk46 u15_af h _ _ _ hP hD hS (lv_sub hl [0, 1, 2] rfl)
    · have h := x_n c_3 h
      refine lv_aload_n hx hb dX0_find_21 rfl (lv_at hl 0 rfl) ?_
      refine va_get (D := D) (ci := 0) (v := .ref h_af) (C := RX0) (T := TX0) (N := 4) hx hb hts i_X0_find_X0 hown hE.1 hP 4 rfl rfl 3 (by decide) (hts _ q_X0_find_0) (fun _ h9 => h9) rfl dX0_find_22 ?_
      refine lv_iload_n hx hb dX0_find_25 rfl (lv_at hl 2 rfl) ?_
      refine lv_bipush (v := (65 : Int32)) hx hb dX0_find_26 (by decide) ?_
      refine lv_imul hx hb dX0_find_28 ?_
      refine lv_iload hx hb dX0_find_29 (lv_at hl 3 rfl) ?_
      refine lv_iadd hx hb dX0_find_31 ?_
      refine lv_aload_n hx hb dX0_find_32 rfl (lv_at hl 0 rfl) ?_
      refine lv_iload_n hx hb dX0_find_33 rfl (lv_at hl 2 rfl) ?_
      refine lv_iload hx hb dX0_find_34 (lv_at hl 3 rfl) ?_
      obtain ⟨t_4, hc, h⟩ := x_b h
      refine c_V (q0 := 0) (ci := 0) (na := 2) (rest := [.int ((y15_3 * (65 : Int32)) + y15_4), .ref h_af]) (st1 := [.int t_4, .int ((y15_3 * (65 : Int32)) + y15_4), .ref h_af]) (Wr := [(h_t, .inr (4, [.ref h_m, .ref h_tc, .ref h_tn, .ref h_tt, .ref h_tr, .ref h_tw])), (h_m, .inr (2, [.ref h_p, .ref h_mc, .ref h_mr, .int v_m_rowLength, .int v_m_next, .int v_m_tick, .int v_m_ending, .int v_m_readNow, .int v_m_writtenNow, .int v_m_writtenSince])), (h_l, .inr (1, [.ref h_t, .ref h_k, .ref h_lf, .ref h_ls, .int v_l_width])), (h_lf, .inl (cI, 6400, .inl v_lf)), (h_ap, .inl (cI, 8, .inl u15_ap))]) (Wn := [(h_t, .inr (4, [.ref h_m, .ref h_tc, .ref h_tn, .ref h_tt, .ref h_tr, .ref h_tw])), (h_m, .inr (2, [.ref h_p, .ref h_mc, .ref h_mr, .int v_m_rowLength, .int v_m_next, .int v_m_tick, .int v_m_ending, .int v_m_readNow, .int v_m_writtenNow, .int v_m_writtenSince])), (h_l, .inr (1, [.ref h_t, .ref h_k, .ref h_lf, .ref h_ls, .int v_l_width])), (h_lf, .inl (cI, 6400, .inl v_lf)), (h_a, .inr (0, [.ref h_ap, .int u15_a_given, .ref h_as, .ref h_af])), (h_ap, .inl (cI, 8, .inl u15_ap)), (h_as, .inl (cI, 32, .inl u15_as)), (h_af, .inl (cI, 585, .inl u15_af))]) X hP hD hS hl.1 (m_X0_fewestFrom l D cI pt h_a h_ap h_as h_af u15_a_given u15_as u15_af y15_3 y15_4 fu _ hc) gX0_find_X0_fewestFrom rfl ⟨rfl, rfl⟩ rfl (by decide +kernel) ⟨Nat.le_of_ble_eq_true rfl, Nat.le_of_ble_eq_true rfl⟩ rfl rfl [4, 6, 7] [0, 1, 2, 3, 5] [0, 1, 2, 3, 5, 4, 6, 7] rfl rfl rfl rfl rfl (by decide) rfl rfl (Nat.le_of_ble_eq_true rfl) dX0_find_36 ⟨Nat.zero_le _, Nat.zero_le _⟩ rfl rfl (fun H locs hP hD hS => ?_)
      obtain ⟨g_5, h⟩ := x_gd h
      refine va_iast hx hb hE.1 hP hD hS 7 0 rfl rfl g_5 dX0_find_39 (fun H locs hP hD hS => ?_)
      have hP : va_P D vwCl [(h_t, .inr (4, [.ref h_m, .ref h_tc, .ref h_tn, .ref h_tt, .ref h_tr, .ref h_tw])), (h_m, .inr (2, [.ref h_p, .ref h_mc, .ref h_mr, .int v_m_rowLength, .int v_m_next, .int v_m_tick, .int v_m_ending, .int v_m_readNow, .int v_m_writtenNow, .int v_m_writtenSince])), (h_l, .inr (1, [.ref h_t, .ref h_k, .ref h_lf, .ref h_ls, .int v_l_width])), (h_lf, .inl (cI, 6400, .inl v_lf)), (h_a, .inr (0, [.ref h_ap, .int u15_a_given, .ref h_as, .ref h_af])), (h_ap, .inl (cI, 8, .inl u15_ap)), (h_as, .inl (cI, 32, .inl u15_as)), (h_af, .inl (cI, 585, .inl (upd u15_af ((y15_3 * (65 : Int32)) + y15_4).toNatClampNeg t_4)))] H := hP
      have hD : va_D A [(h_t, .inr (4, [.ref h_m, .ref h_tc, .ref h_tn, .ref h_tt, .ref h_tr, .ref h_tw])), (h_m, .inr (2, [.ref h_p, .ref h_mc, .ref h_mr, .int v_m_rowLength, .int v_m_next, .int v_m_tick, .int v_m_ending, .int v_m_readNow, .int v_m_writtenNow, .int v_m_writtenSince])), (h_l, .inr (1, [.ref h_t, .ref h_k, .ref h_lf, .ref h_ls, .int v_l_width])), (h_lf, .inl (cI, 6400, .inl v_lf)), (h_a, .inr (0, [.ref h_ap, .int u15_a_given, .ref h_as, .ref h_af])), (h_ap, .inl (cI, 8, .inl u15_ap)), (h_as, .inl (cI, 32, .inl u15_as)), (h_af, .inl (cI, 585, .inl (upd u15_af ((y15_3 * (65 : Int32)) + y15_4).toNatClampNeg t_4)))] := hD
      refine lv_iinc (v := (y15_4 + (1 : Int32))) (lv' := [(4, .int (y15_4 + (1 : Int32))), (0, .ref h_a), (2, .int y15_2), (3, .int y15_3)]) hx hb dX0_find_40 hl (k := 3) rfl rfl (by decide) rfl (fun ls hl => ?_)
      refine lv_goto (tgt := 15) hx hb dX0_find_43 (by decide) ?_
      exact ih (upd u15_af ((y15_3 * (65 : Int32)) + y15_4).toNatClampNeg t_4) (y15_4 + (1 : Int32)) h _ _ _ hP hD hS (lv_sub hl [1, 2, 3, 0] rfl)
set_option maxHeartbeats 4000000 in
set_option maxRecDepth 100000 in
theorem tr_X0_find_8 {p : Program} {l : Launch} {e : Env} {s : State} {m : MethodId} {args : Array Value} {below : List Frame} {meth : Method} {c : Code} {D : va_G} {cI : ClassId} {pt : Nat} {A : Nat → Prop} (X : CX p s m args meth c D cI pt A cX0_find 5 (some .int) wsX0_find RX0) (h_p h_t h_m h_mc h_mr h_tc h_tn h_tt h_tr h_tw h_l h_k h_lf h_ls h_a h_ap h_as h_af : Nat) (v_m_rowLength : Int32) (v_m_next : Int32) (v_m_tick : Int32) (v_m_ending : Int32) (v_m_readNow : Int32) (v_m_writtenNow : Int32) (v_m_writtenSince : Int32) (v_l_width : Int32) (v_lf : Nat → Int32) (u8_a_given : Int32) (u8_ap : Nat → Int32) (u8_as : Nat → Int32) (y8_2 : Int32) (fu : Nat) (k52 : (Nat → Int32) → Option (Int32 × Int32 × (Nat → Int32) × (Nat → Int32) × (Nat → Int32))) (res : Int32 × Int32 × (Nat → Int32) × (Nat → Int32) × (Nat → Int32)) (hk52 : ∀ (e52_af : Nat → Int32), k52 e52_af = some res → ∀ (H : Heap) (locs : List Loc) (ls : Array Slot), va_P D vwCl [(h_t, .inr (4, [.ref h_m, .ref h_tc, .ref h_tn, .ref h_tt, .ref h_tr, .ref h_tw])), (h_m, .inr (2, [.ref h_p, .ref h_mc, .ref h_mr, .int v_m_rowLength, .int v_m_next, .int v_m_tick, .int v_m_ending, .int v_m_readNow, .int v_m_writtenNow, .int v_m_writtenSince])), (h_l, .inr (1, [.ref h_t, .ref h_k, .ref h_lf, .ref h_ls, .int v_l_width])), (h_lf, .inl (cI, 6400, .inl v_lf)), (h_a, .inr (0, [.ref h_ap, .int u8_a_given, .ref h_as, .ref h_af])), (h_ap, .inl (cI, 8, .inl u8_ap)), (h_as, .inl (cI, 32, .inl u8_as)), (h_af, .inl (cI, 585, .inl e52_af))] H → va_D A [(h_t, .inr (4, [.ref h_m, .ref h_tc, .ref h_tn, .ref h_tt, .ref h_tr, .ref h_tw])), (h_m, .inr (2, [.ref h_p, .ref h_mc, .ref h_mr, .int v_m_rowLength, .int v_m_next, .int v_m_tick, .int v_m_ending, .int v_m_readNow, .int v_m_writtenNow, .int v_m_writtenSince])), (h_l, .inr (1, [.ref h_t, .ref h_k, .ref h_lf, .ref h_ls, .int v_l_width])), (h_lf, .inl (cI, 6400, .inl v_lf)), (h_a, .inr (0, [.ref h_ap, .int u8_a_given, .ref h_as, .ref h_af])), (h_ap, .inl (cI, 8, .inl u8_ap)), (h_as, .inl (cI, 32, .inl u8_as)), (h_af, .inl (cI, 585, .inl e52_af))] → va_S A s.heap H locs → lv_has ls 5 [(0, .ref h_a), (2, .int y8_2)] → W p l e ({ frames := 5, cells := 0, slots := 0, locals := 113 } : Room) s m args below meth c H locs 0 0 (MQ below (Qg D A (some (.int res.1)) [(h_t, .inr (4, [.ref h_m, .ref h_tc, .ref h_tn, .ref h_tt, .ref h_tr, .ref h_tw])), (h_m, .inr (2, [.ref h_p, .ref h_mc, .ref h_mr, .int v_m_rowLength, .int v_m_next, .int v_m_tick, .int v_m_ending, .int v_m_readNow, .int v_m_writtenNow, .int v_m_writtenSince])), (h_l, .inr (1, [.ref h_t, .ref h_k, .ref h_lf, .ref h_ls, .int v_l_width])), (h_lf, .inl (cI, 6400, .inl v_lf)), (h_a, .inr (0, [.ref h_ap, .int res.2.1, .ref h_as, .ref h_af])), (h_ap, .inl (cI, 8, .inl res.2.2.1)), (h_as, .inl (cI, 32, .inl res.2.2.2.1)), (h_af, .inl (cI, 585, .inl res.2.2.2.2))]) args s 0 0 A) (F0 m 52 ls [])) :
    ∀ (n : Nat) (u8_af : Nat → Int32) (y8_3 : Int32), fr_X0_find_8 fu u8_as y8_2 k52 n u8_af y8_3 = some res → ∀ (H : Heap) (locs : List Loc) (ls : Array Slot), va_P D vwCl [(h_t, .inr (4, [.ref h_m, .ref h_tc, .ref h_tn, .ref h_tt, .ref h_tr, .ref h_tw])), (h_m, .inr (2, [.ref h_p, .ref h_mc, .ref h_mr, .int v_m_rowLength, .int v_m_next, .int v_m_tick, .int v_m_ending, .int v_m_readNow, .int v_m_writtenNow, .int v_m_writtenSince])), (h_l, .inr (1, [.ref h_t, .ref h_k, .ref h_lf, .ref h_ls, .int v_l_width])), (h_lf, .inl (cI, 6400, .inl v_lf)), (h_a, .inr (0, [.ref h_ap, .int u8_a_given, .ref h_as, .ref h_af])), (h_ap, .inl (cI, 8, .inl u8_ap)), (h_as, .inl (cI, 32, .inl u8_as)), (h_af, .inl (cI, 585, .inl u8_af))] H → va_D A [(h_t, .inr (4, [.ref h_m, .ref h_tc, .ref h_tn, .ref h_tt, .ref h_tr, .ref h_tw])), (h_m, .inr (2, [.ref h_p, .ref h_mc, .ref h_mr, .int v_m_rowLength, .int v_m_next, .int v_m_tick, .int v_m_ending, .int v_m_readNow, .int v_m_writtenNow, .int v_m_writtenSince])), (h_l, .inr (1, [.ref h_t, .ref h_k, .ref h_lf, .ref h_ls, .int v_l_width])), (h_lf, .inl (cI, 6400, .inl v_lf)), (h_a, .inr (0, [.ref h_ap, .int u8_a_given, .ref h_as, .ref h_af])), (h_ap, .inl (cI, 8, .inl u8_ap)), (h_as, .inl (cI, 32, .inl u8_as)), (h_af, .inl (cI, 585, .inl u8_af))] → va_S A s.heap H locs → lv_has ls 5 [(0, .ref h_a), (2, .int y8_2), (3, .int y8_3)] → W p l e ({ frames := 5, cells := 0, slots := 0, locals := 113 } : Room) s m args below meth c H locs 0 0 (MQ below (Qg D A (some (.int res.1)) [(h_t, .inr (4, [.ref h_m, .ref h_tc, .ref h_tn, .ref h_tt, .ref h_tr, .ref h_tw])), (h_m, .inr (2, [.ref h_p, .ref h_mc, .ref h_mr, .int v_m_rowLength, .int v_m_next, .int v_m_tick, .int v_m_ending, .int v_m_readNow, .int v_m_writtenNow, .int v_m_writtenSince])), (h_l, .inr (1, [.ref h_t, .ref h_k, .ref h_lf, .ref h_ls, .int v_l_width])), (h_lf, .inl (cI, 6400, .inl v_lf)), (h_a, .inr (0, [.ref h_ap, .int res.2.1, .ref h_as, .ref h_af])), (h_ap, .inl (cI, 8, .inl res.2.2.1)), (h_as, .inl (cI, 32, .inl res.2.2.2.1)), (h_af, .inl (cI, 585, .inl res.2.2.2.2))]) args s 0 0 A) (F0 m 8 ls []) := by
  obtain ⟨hx, hb, hml, hown, hts, hr, hlk, hE, hH, hA⟩ := id X
  intro n
  induction n with
  | zero =>
    intro u8_af y8_3 h
    cases (show none = some res from h)
  | succ n ih =>
    intro u8_af y8_3 h H locs ls hP hD hS hl
    rw [fr_X0_find_8] at h
    refine lv_iload_n hx hb dX0_find_8 rfl (lv_at hl 2 rfl) ?_
    refine lv_if_lt (tgt := 52) hx hb dX0_find_9 (by decide) (fun c_2 => ?_) (fun c_2 => ?_)
    · have h := x_p c_2 h
      exact hk52 u8_af h _ _ _ hP hD hS (lv_sub hl [0, 1] rfl)
    · have h := x_n c_2 h
      refine lv_iconst (v := (0 : Int32)) hx hb dX0_find_12 (by decide) ?_
      refine lv_istore (lv' := [(4, .int (0 : Int32)), (0, .ref h_a), (2, .int y8_2), (3, .int y8_3)]) hx hb dX0_find_13 hl (by decide) rfl (fun ls hl => ?_)
      refine tr_X0_find_15 X h_p h_t h_m h_mc h_mr h_tc h_tn h_tt h_tr h_tw h_l h_k h_lf h_ls h_a h_ap h_as h_af v_m_rowLength v_m_next v_m_tick v_m_ending v_m_readNow v_m_writtenNow v_m_writtenSince v_l_width v_lf u8_a_given u8_ap u8_as y8_2 y8_3 fu _ res ?_ fu u8_af (0 : Int32) h _ _ _ hP hD hS (lv_sub hl [1, 2, 3, 0] rfl)
      · intro e15_46_af h H locs ls hP hD hS hl
        refine lv_iinc (v := (y8_3 + (-1 : Int32))) (lv' := [(3, .int (y8_3 + (-1 : Int32))), (0, .ref h_a), (2, .int y8_2)]) hx hb dX0_find_46 hl (k := 2) rfl rfl (by decide) rfl (fun ls hl => ?_)
        refine lv_goto (tgt := 8) hx hb dX0_find_49 (by decide) ?_
        exact ih e15_46_af (y8_3 + (-1 : Int32)) h _ _ _ hP hD hS (lv_sub hl [1, 2, 0] rfl)
set_option maxHeartbeats 4000000 in
set_option maxRecDepth 100000 in
theorem m_X0_find (l : Launch) (D : va_G) (cI : ClassId) (pt : Nat) (h_p h_t h_m h_mc h_mr h_tc h_tn h_tt h_tr h_tw h_l h_k h_lf h_ls h_a h_ap h_as h_af : Nat) (v_m_rowLength : Int32) (v_m_next : Int32) (v_m_tick : Int32) (v_m_ending : Int32) (v_m_readNow : Int32) (v_m_writtenNow : Int32) (v_m_writtenSince : Int32) (v_l_width : Int32) (v_lf : Nat → Int32) (v_a_given : Int32) (v_ap : Nat → Int32) (v_as : Nat → Int32) (v_af : Nat → Int32) (a1 : Int32) (fu : Nat) (res : Int32 × Int32 × (Nat → Int32) × (Nat → Int32) × (Nat → Int32)) (h : f_X0_find fu v_m_tick v_l_width v_lf v_a_given v_ap v_as v_af a1 = some res) :
    MT l D cI pt yX0_find wsX0_find ({ frames := 5, cells := 0, slots := 0, locals := 113 } : Room) [.ref h_a, .ref h_l, .int a1] [(h_t, .inr (4, [.ref h_m, .ref h_tc, .ref h_tn, .ref h_tt, .ref h_tr, .ref h_tw])), (h_m, .inr (2, [.ref h_p, .ref h_mc, .ref h_mr, .int v_m_rowLength, .int v_m_next, .int v_m_tick, .int v_m_ending, .int v_m_readNow, .int v_m_writtenNow, .int v_m_writtenSince])), (h_l, .inr (1, [.ref h_t, .ref h_k, .ref h_lf, .ref h_ls, .int v_l_width])), (h_lf, .inl (cI, 6400, .inl v_lf)), (h_a, .inr (0, [.ref h_ap, .int v_a_given, .ref h_as, .ref h_af])), (h_ap, .inl (cI, 8, .inl v_ap)), (h_as, .inl (cI, 32, .inl v_as)), (h_af, .inl (cI, 585, .inl v_af))] (some (.int res.1)) [(h_t, .inr (4, [.ref h_m, .ref h_tc, .ref h_tn, .ref h_tt, .ref h_tr, .ref h_tw])), (h_m, .inr (2, [.ref h_p, .ref h_mc, .ref h_mr, .int v_m_rowLength, .int v_m_next, .int v_m_tick, .int v_m_ending, .int v_m_readNow, .int v_m_writtenNow, .int v_m_writtenSince])), (h_l, .inr (1, [.ref h_t, .ref h_k, .ref h_lf, .ref h_ls, .int v_l_width])), (h_lf, .inl (cI, 6400, .inl v_lf)), (h_a, .inr (0, [.ref h_ap, .int res.2.1, .ref h_as, .ref h_af])), (h_ap, .inl (cI, 8, .inl res.2.2.1)), (h_as, .inl (cI, 32, .inl res.2.2.2.1)), (h_af, .inl (cI, 585, .inl res.2.2.2.2))] := by
  refine MT.mk (cc := cX0_find) (maxL := 5) (ret := (some .int)) (own := RX0) (by decide) rfl rfl (Nat.le_of_ble_eq_true rfl) rfl ?_
  intro p e s m args below meth c A ls X hP hD hS hl
  obtain ⟨hx, hb, hml, hown, hts, hr, hlk, hE, hH, hA⟩ := id X
  have hl : lv_has ls 5 [(0, .ref h_a), (1, .ref h_l), (2, .int a1)] := hl
  unfold f_X0_find at h
  refine lv_aload_n hx hb dX0_find_0 rfl (lv_at hl 0 rfl) ?_
  refine lv_aload_n hx hb dX0_find_1 rfl (lv_at hl 1 rfl) ?_
  obtain ⟨t_1, hc, h⟩ := x_b h
  refine c_V (q0 := 4) (ci := 0) (na := 1) (rest := []) (st1 := []) (Wr := [(h_ap, .inl (cI, 8, .inl v_ap)), (h_af, .inl (cI, 585, .inl v_af))]) (Wn := [(h_t, .inr (4, [.ref h_m, .ref h_tc, .ref h_tn, .ref h_tt, .ref h_tr, .ref h_tw])), (h_m, .inr (2, [.ref h_p, .ref h_mc, .ref h_mr, .int v_m_rowLength, .int v_m_next, .int v_m_tick, .int v_m_ending, .int v_m_readNow, .int v_m_writtenNow, .int v_m_writtenSince])), (h_l, .inr (1, [.ref h_t, .ref h_k, .ref h_lf, .ref h_ls, .int v_l_width])), (h_lf, .inl (cI, 6400, .inl v_lf)), (h_a, .inr (0, [.ref h_ap, .int v_a_given, .ref h_as, .ref h_af])), (h_ap, .inl (cI, 8, .inl v_ap)), (h_as, .inl (cI, 32, .inl t_1)), (h_af, .inl (cI, 585, .inl v_af))]) X hP hD hS hl.1 (m_X0_tallySilent l D cI pt h_p h_t h_m h_mc h_mr h_tc h_tn h_tt h_tr h_tw h_l h_k h_lf h_ls h_a h_ap h_as h_af v_m_rowLength v_m_next v_m_tick v_m_ending v_m_readNow v_m_writtenNow v_m_writtenSince v_l_width v_lf v_a_given v_as  fu _ hc) gX0_find_X0_tallySilent rfl ⟨rfl, rfl⟩ rfl (by decide +kernel) ⟨Nat.le_of_ble_eq_true rfl, Nat.le_of_ble_eq_true rfl⟩ rfl rfl [0, 1, 2, 3, 4, 6] [5, 7] [2, 3, 4, 5, 6, 0, 7, 1] rfl rfl rfl rfl rfl (by decide) rfl rfl (Nat.le_of_ble_eq_true rfl) dX0_find_2 ⟨Nat.zero_le _, Nat.zero_le _⟩ rfl rfl (fun H locs hP hD hS => ?_)
  refine lv_bipush (v := (7 : Int32)) hx hb dX0_find_5 (by decide) ?_
  refine lv_istore_n (lv' := [(3, .int (7 : Int32)), (0, .ref h_a), (1, .ref h_l), (2, .int a1)]) hx hb dX0_find_7 rfl hl (by decide) rfl (fun ls hl => ?_)
  refine tr_X0_find_8 X h_p h_t h_m h_mc h_mr h_tc h_tn h_tt h_tr h_tw h_l h_k h_lf h_ls h_a h_ap h_as h_af v_m_rowLength v_m_next v_m_tick v_m_ending v_m_readNow v_m_writtenNow v_m_writtenSince v_l_width v_lf v_a_given v_ap t_1 a1 fu _ res ?_ fu v_af (7 : Int32) h _ _ _ hP hD hS (lv_sub hl [1, 3, 0] rfl)
  · intro e8_52_af h H locs ls hP hD hS hl
    refine lv_aload_n hx hb dX0_find_52 rfl (lv_at hl 0 rfl) ?_
    refine lv_iconst (v := (1 : Int32)) hx hb dX0_find_53 (by decide) ?_
    refine va_put (D := D) (ci := 0) (v := .int (1 : Int32)) (ty := .boolean) (C := RX0) (T := TX0) (N := 4) hx hb hts i_X0_find_X0 tyX0 tyX0_ok nmX0 hown hE.1 hP hD hS 4 rfl rfl 1 (by decide) (hts _ q_X0_find_2) (fun _ h9 => h9) rfl (by decide +kernel) rfl rfl (Nat.le_of_ble_eq_true rfl) dX0_find_54 (fun H locs hP hD hS => ?_)
    have hP : va_P D vwCl [(h_t, .inr (4, [.ref h_m, .ref h_tc, .ref h_tn, .ref h_tt, .ref h_tr, .ref h_tw])), (h_m, .inr (2, [.ref h_p, .ref h_mc, .ref h_mr, .int v_m_rowLength, .int v_m_next, .int v_m_tick, .int v_m_ending, .int v_m_readNow, .int v_m_writtenNow, .int v_m_writtenSince])), (h_l, .inr (1, [.ref h_t, .ref h_k, .ref h_lf, .ref h_ls, .int v_l_width])), (h_lf, .inl (cI, 6400, .inl v_lf)), (h_a, .inr (0, [.ref h_ap, .int (1 : Int32), .ref h_as, .ref h_af])), (h_ap, .inl (cI, 8, .inl v_ap)), (h_as, .inl (cI, 32, .inl t_1)), (h_af, .inl (cI, 585, .inl e8_52_af))] H := hP
    have hD : va_D A [(h_t, .inr (4, [.ref h_m, .ref h_tc, .ref h_tn, .ref h_tt, .ref h_tr, .ref h_tw])), (h_m, .inr (2, [.ref h_p, .ref h_mc, .ref h_mr, .int v_m_rowLength, .int v_m_next, .int v_m_tick, .int v_m_ending, .int v_m_readNow, .int v_m_writtenNow, .int v_m_writtenSince])), (h_l, .inr (1, [.ref h_t, .ref h_k, .ref h_lf, .ref h_ls, .int v_l_width])), (h_lf, .inl (cI, 6400, .inl v_lf)), (h_a, .inr (0, [.ref h_ap, .int (1 : Int32), .ref h_as, .ref h_af])), (h_ap, .inl (cI, 8, .inl v_ap)), (h_as, .inl (cI, 32, .inl t_1)), (h_af, .inl (cI, 585, .inl e8_52_af))] := hD
    refine lv_aload_n hx hb dX0_find_57 rfl (lv_at hl 0 rfl) ?_
    refine lv_aload_n hx hb dX0_find_58 rfl (lv_at hl 0 rfl) ?_
    refine lv_iload_n hx hb dX0_find_59 rfl (lv_at hl 1 rfl) ?_
    obtain ⟨t_6, hc, h⟩ := x_b h
    refine c_V (q0 := 0) (ci := 0) (na := 1) (rest := [.ref h_a]) (st1 := [.int t_6, .ref h_a]) (Wr := [(h_t, .inr (4, [.ref h_m, .ref h_tc, .ref h_tn, .ref h_tt, .ref h_tr, .ref h_tw])), (h_m, .inr (2, [.ref h_p, .ref h_mc, .ref h_mr, .int v_m_rowLength, .int v_m_next, .int v_m_tick, .int v_m_ending, .int v_m_readNow, .int v_m_writtenNow, .int v_m_writtenSince])), (h_l, .inr (1, [.ref h_t, .ref h_k, .ref h_lf, .ref h_ls, .int v_l_width])), (h_lf, .inl (cI, 6400, .inl v_lf)), (h_ap, .inl (cI, 8, .inl v_ap)), (h_as, .inl (cI, 32, .inl t_1))]) (Wn := [(h_t, .inr (4, [.ref h_m, .ref h_tc, .ref h_tn, .ref h_tt, .ref h_tr, .ref h_tw])), (h_m, .inr (2, [.ref h_p, .ref h_mc, .ref h_mr, .int v_m_rowLength, .int v_m_next, .int v_m_tick, .int v_m_ending, .int v_m_readNow, .int v_m_writtenNow, .int v_m_writtenSince])), (h_l, .inr (1, [.ref h_t, .ref h_k, .ref h_lf, .ref h_ls, .int v_l_width])), (h_lf, .inl (cI, 6400, .inl v_lf)), (h_a, .inr (0, [.ref h_ap, .int (1 : Int32), .ref h_as, .ref h_af])), (h_ap, .inl (cI, 8, .inl v_ap)), (h_as, .inl (cI, 32, .inl t_1)), (h_af, .inl (cI, 585, .inl e8_52_af))]) X hP hD hS hl.1 (m_X0_leastPurse l D cI pt h_a h_ap h_as h_af (1 : Int32) e8_52_af a1 fu _ hc) gX0_find_X0_leastPurse rfl ⟨rfl, rfl⟩ rfl (by decide +kernel) ⟨Nat.le_of_ble_eq_true rfl, Nat.le_of_ble_eq_true rfl⟩ rfl rfl [4, 7] [0, 1, 2, 3, 5, 6] [0, 1, 2, 3, 6, 4, 5, 7] rfl rfl rfl rfl rfl (by decide) rfl rfl (Nat.le_of_ble_eq_true rfl) dX0_find_60 ⟨Nat.zero_le _, Nat.zero_le _⟩ rfl rfl (fun H locs hP hD hS => ?_)
    obtain ⟨t_7, hc, h⟩ := x_b h
    refine c_V (q0 := 0) (ci := 0) (na := 1) (rest := []) (st1 := []) (Wr := [(h_t, .inr (4, [.ref h_m, .ref h_tc, .ref h_tn, .ref h_tt, .ref h_tr, .ref h_tw])), (h_m, .inr (2, [.ref h_p, .ref h_mc, .ref h_mr, .int v_m_rowLength, .int v_m_next, .int v_m_tick, .int v_m_ending, .int v_m_readNow, .int v_m_writtenNow, .int v_m_writtenSince])), (h_l, .inr (1, [.ref h_t, .ref h_k, .ref h_lf, .ref h_ls, .int v_l_width])), (h_lf, .inl (cI, 6400, .inl v_lf))]) (Wn := [(h_t, .inr (4, [.ref h_m, .ref h_tc, .ref h_tn, .ref h_tt, .ref h_tr, .ref h_tw])), (h_m, .inr (2, [.ref h_p, .ref h_mc, .ref h_mr, .int v_m_rowLength, .int v_m_next, .int v_m_tick, .int v_m_ending, .int v_m_readNow, .int v_m_writtenNow, .int v_m_writtenSince])), (h_l, .inr (1, [.ref h_t, .ref h_k, .ref h_lf, .ref h_ls, .int v_l_width])), (h_lf, .inl (cI, 6400, .inl v_lf)), (h_a, .inr (0, [.ref h_ap, .int (1 : Int32), .ref h_as, .ref h_af])), (h_ap, .inl (cI, 8, .inl t_7)), (h_as, .inl (cI, 32, .inl t_1)), (h_af, .inl (cI, 585, .inl e8_52_af))]) X hP hD hS hl.1 (m_X0_pick l D cI pt h_a h_ap h_as h_af (1 : Int32) v_ap t_1 e8_52_af t_6 fu _ hc) gX0_find_X0_pick rfl ⟨rfl, rfl⟩ rfl (by decide +kernel) ⟨Nat.le_of_ble_eq_true rfl, Nat.le_of_ble_eq_true rfl⟩ rfl rfl [4, 5, 6, 7] [0, 1, 2, 3] [0, 1, 2, 3, 4, 5, 6, 7] rfl rfl rfl rfl rfl (by decide) rfl rfl (Nat.le_of_ble_eq_true rfl) dX0_find_63 ⟨Nat.zero_le _, Nat.zero_le _⟩ rfl rfl (fun H locs hP hD hS => ?_)
    refine lv_aload_n hx hb dX0_find_66 rfl (lv_at hl 0 rfl) ?_
    refine va_get (D := D) (ci := 0) (v := .ref h_af) (C := RX0) (T := TX0) (N := 4) hx hb hts i_X0_find_X0 hown hE.1 hP 4 rfl rfl 3 (by decide) (hts _ q_X0_find_0) (fun _ h9 => h9) rfl dX0_find_67 ?_
    refine lv_iload_n hx hb dX0_find_70 rfl (lv_at hl 1 rfl) ?_
    obtain ⟨g_8, h⟩ := x_gd h
    refine va_iald hx hb hE.1 hP 7 0 rfl rfl g_8 dX0_find_71 ?_
    cases h
    exact r_i X hP hD hS rfl dX0_find_72
