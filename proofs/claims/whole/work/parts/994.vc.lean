/-! the end -/
theorem r_every : RS_every Rel := ⟨r_count, r_feed, r_text, r_force, r_asks, r_knit, r_row, r_told, r_pin, r_hangs, r_loose, r_back, r_run, r_goes, r_left, r_most, r_column, r_line, r_reach, r_two, r_all, r_counts, r_slip, r_wrong, r_pinned, r_mending, r_mend, r_block, r_seen, r_slack, r_judge, r_which, r_span, r_laws, r_film, r_slips, r_odds, r_image, r_restore, r_sheet, r_cell, r_copy, r_knits, r_taken, trivial⟩
theorem whole_start : ws_all := by
  intro p e s m below meth c l b L xs hL C0
  obtain ⟨r5, r6, h5, h6, hrel⟩ := whole_init
  exact ws_start Rel (fun T I1 L1 I2 h => h.1) r_every h5 h6 hrel l hL C0
theorem i_vc : Claimed_1_1 ∧ Claimed_1_2 := ivc_of whole_start
