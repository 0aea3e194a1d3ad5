theorem wl_1 : ∀ w ∈ wsL_law_r1, w ∈ lw_tbl := by decide +kernel
theorem wl_2 : ∀ w ∈ wsL_law_r2, w ∈ lw_tbl := by decide +kernel
theorem wl_3 : ∀ w ∈ wsL_law_r3, w ∈ lw_tbl := by decide +kernel
theorem wl_4 : ∀ w ∈ wsL_law_r4, w ∈ lw_tbl := by decide +kernel
theorem wl_5 : ∀ w ∈ wsL_law_r5, w ∈ lw_tbl := by decide +kernel
theorem wl_6 : ∀ w ∈ wsL_law_r6, w ∈ lw_tbl := by decide +kernel
theorem wl_7 : ∀ w ∈ wsL_law_r7, w ∈ lw_tbl := by decide +kernel
theorem wl_8 : ∀ w ∈ wsL_law_r8, w ∈ lw_tbl := by decide +kernel
theorem wl_9 : ∀ w ∈ wsL_law_r9, w ∈ lw_tbl := by decide +kernel
theorem wl_10 : ∀ w ∈ wsL_law_r10, w ∈ lw_tbl := by decide +kernel
theorem wl_11 : ∀ w ∈ wsL_law_r11, w ∈ lw_tbl := by decide +kernel
theorem wl_12 : ∀ w ∈ wsL_law_r12, w ∈ lw_tbl := by decide +kernel
theorem wl_13 : ∀ w ∈ wsL_law_r13, w ∈ lw_tbl := by decide +kernel
theorem wl_14 : ∀ w ∈ wsL_law_r14, w ∈ lw_tbl := by decide +kernel
theorem wl_15 : ∀ w ∈ wsL_law_r15, w ∈ lw_tbl := by decide +kernel
theorem wl_16 : ∀ w ∈ wsL_law_r16, w ∈ lw_tbl := by decide +kernel
theorem wl_17 : ∀ w ∈ wsL_law_r17, w ∈ lw_tbl := by decide +kernel
theorem wl_18 : ∀ w ∈ wsL_law_r18, w ∈ lw_tbl := by decide +kernel
theorem wl_19 : ∀ w ∈ wsL_law_r19, w ∈ lw_tbl := by decide +kernel
theorem wl_20 : ∀ w ∈ wsL_law_r20, w ∈ lw_tbl := by decide +kernel
theorem wl_21 : ∀ w ∈ wsL_law_r21, w ∈ lw_tbl := by decide +kernel
theorem wl_22 : ∀ w ∈ wsL_law_r22, w ∈ lw_tbl := by decide +kernel
theorem wl_23 : ∀ w ∈ wsL_law_r23, w ∈ lw_tbl := by decide +kernel
theorem wl_24 : ∀ w ∈ wsL_law_r24, w ∈ lw_tbl := by decide +kernel
theorem wl_25 : ∀ w ∈ wsL_law_r25, w ∈ lw_tbl := by decide +kernel
theorem wl_26 : ∀ w ∈ wsL_law_r26, w ∈ lw_tbl := by decide +kernel
theorem wl_27 : ∀ w ∈ wsL_law_r27, w ∈ lw_tbl := by decide +kernel
theorem wl_28 : ∀ w ∈ wsL_law_r28, w ∈ lw_tbl := by decide +kernel
theorem wx_6 : ∀ w ∈ wsX60, w ∈ lw_tbl := by decide +kernel
theorem wx_7 : ∀ w ∈ wsX70, w ∈ lw_tbl := by decide +kernel
theorem wx_4 : ∀ w ∈ wsX40, w ∈ lw_tbl := by decide +kernel
theorem wx_5 : ∀ w ∈ wsX50, w ∈ lw_tbl := by decide +kernel
theorem wx_2 : ∀ w ∈ wsX20, w ∈ lw_tbl := by decide +kernel
theorem wx_0 : ∀ w ∈ wsX00, w ∈ lw_tbl := by decide +kernel
theorem wx_3 : ∀ w ∈ wsX30, w ∈ lw_tbl := by decide +kernel
theorem ap_in {α : Type} {a b c : List α} (ha : ∀ w ∈ a, w ∈ c) (hb : ∀ w ∈ b, w ∈ c) : ∀ w ∈ a ++ b, w ∈ c := fun w h => (List.mem_append.mp h).elim (ha w) (hb w)
theorem wsL_law_in : ∀ w ∈ wsL_law, w ∈ lw_tbl := (ap_in (ap_in (ap_in (ap_in (ap_in (ap_in (ap_in (ap_in (ap_in wl_1 (ap_in wl_2 (ap_in wl_3 (ap_in wl_4 (ap_in wl_5 (ap_in wl_6 (ap_in wl_7 (ap_in wl_8 (ap_in wl_9 (ap_in wl_10 (ap_in wl_11 (ap_in wl_12 (ap_in wl_13 (ap_in wl_14 (ap_in wl_15 (ap_in wl_16 (ap_in wl_17 (ap_in wl_18 (ap_in wl_19 (ap_in wl_20 (ap_in wl_21 (ap_in wl_22 (ap_in wl_23 (ap_in wl_24 (ap_in wl_25 (ap_in wl_26 (ap_in wl_27 wl_28))))))))))))))))))))))))))) wx_6) wx_7) wx_4) wx_5) wx_2) wx_0) wx_3) (fun _ h => absurd h List.not_mem_nil))
theorem inlX0 : ∀ w ∈ wsX00, w ∈ wsL_law := fun _ h => List.mem_append_left _ (List.mem_append_left _ (List.mem_append_right _ h))
theorem inX0 : ∀ w ∈ wsX00, w ∈ lw_tbl := fun w h => wsL_law_in w (inlX0 w h)
theorem inX1 : ∀ w ∈ wsX10, w ∈ lw_tbl := by decide +kernel
theorem inlX2 : ∀ w ∈ wsX20, w ∈ wsL_law := fun _ h => List.mem_append_left _ (List.mem_append_left _ (List.mem_append_left _ (List.mem_append_right _ h)))
theorem inX2 : ∀ w ∈ wsX20, w ∈ lw_tbl := fun w h => wsL_law_in w (inlX2 w h)
theorem inlX3 : ∀ w ∈ wsX30, w ∈ wsL_law := fun _ h => List.mem_append_left _ (List.mem_append_right _ h)
theorem inX3 : ∀ w ∈ wsX30, w ∈ lw_tbl := fun w h => wsL_law_in w (inlX3 w h)
theorem inlX4 : ∀ w ∈ wsX40, w ∈ wsL_law := fun _ h => List.mem_append_left _ (List.mem_append_left _ (List.mem_append_left _ (List.mem_append_left _ (List.mem_append_left _ (List.mem_append_right _ h)))))
theorem inX4 : ∀ w ∈ wsX40, w ∈ lw_tbl := fun w h => wsL_law_in w (inlX4 w h)
theorem inlX5 : ∀ w ∈ wsX50, w ∈ wsL_law := fun _ h => List.mem_append_left _ (List.mem_append_left _ (List.mem_append_left _ (List.mem_append_left _ (List.mem_append_right _ h))))
theorem inX5 : ∀ w ∈ wsX50, w ∈ lw_tbl := fun w h => wsL_law_in w (inlX5 w h)
theorem inlX6 : ∀ w ∈ wsX60, w ∈ wsL_law := fun _ h => List.mem_append_left _ (List.mem_append_left _ (List.mem_append_left _ (List.mem_append_left _ (List.mem_append_left _ (List.mem_append_left _ (List.mem_append_left _ (List.mem_append_right _ h)))))))
theorem inX6 : ∀ w ∈ wsX60, w ∈ lw_tbl := fun w h => wsL_law_in w (inlX6 w h)
theorem inlX7 : ∀ w ∈ wsX70, w ∈ wsL_law := fun _ h => List.mem_append_left _ (List.mem_append_left _ (List.mem_append_left _ (List.mem_append_left _ (List.mem_append_left _ (List.mem_append_left _ (List.mem_append_right _ h))))))
theorem inX7 : ∀ w ∈ wsX70, w ∈ lw_tbl := fun w h => wsL_law_in w (inlX7 w h)
theorem inJ9 : ∀ w ∈ wsJ90, w ∈ lw_tbl := by decide +kernel
theorem inJ10 : ∀ w ∈ wsJ100, w ∈ lw_tbl := by decide +kernel
