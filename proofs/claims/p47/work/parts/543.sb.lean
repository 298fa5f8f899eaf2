set_option maxHeartbeats 400000 in
set_option maxRecDepth 100000 in
theorem t_sb2_J5_init_d00df {P : List mh_C} (hP : P.length = 46) {I : mh_I} {L : mh_L}  : mh_CT yJ5_init_d00df cJ5_init_d00df 2 none (mh_rmc 1 1 16) (P ++ ([.inl (7, [.inr none, .inl 0, .inl 0, .inl 0])] : List mh_C)) I L [.ref 46, .int (16 : Int32)] (mh_ret none (P ++ ([.inl (7, [.inr (some 47), .inl 0, .inl 0, .inl 0]), .inr (2, 16, mh_n)] : List mh_C)) (mh_u (mh_z I 47) 46 1 (0 : Int32)) (mh_zl L 47)) := by
  refine mh_ofW (ini := true) RJ5 rfl (by decide) (fun h => rfl) (Nat.le_of_ble_eq_true rfl) ?_
  generalize hn0 : (P ++ ([.inl (7, [.inr none, .inl 0, .inl 0, .inl 0])] : List mh_C)).length = n0
  replace hn0 : n0 = 47 := by rw [← hn0, sx_ln hP]; rfl
  show mh_W RJ5 cJ5_init_d00df 2 none true (mh_rmc 1 1 16) n0 1 16 mh_noX (mh_ret none (P ++ ([.inl (7, [.inr (some 47), .inl 0, .inl 0, .inl 0]), .inr (2, 16, mh_n)] : List mh_C)) (mh_u (mh_z I 47) 46 1 (0 : Int32)) (mh_zl L 47)) 0 (P ++ ([.inl (7, [.inr none, .inl 0, .inl 0, .inl 0])] : List mh_C)) I L 0 [(0, .ref 46), (1, .int (16 : Int32))] []
  refine mw_aload_n dJ5_init_d00df_0 0 rfl ?_
  refine mw_oinit ⟨wd_470, wd_178, wd_179⟩ dJ5_init_d00df_1 ⟨by decide, by decide⟩ ?_
  refine mw_getsC wd_471 dJ5_init_d00df_4 ?_
  refine mw_if_eq (tgt := 25) dJ5_init_d00df_7 (by decide) (fun hc => absurd hc (by decide)) (fun hc => ?_)
  refine mw_aload_n dJ5_init_d00df_10 0 rfl ?_
  refine mw_iload_n dJ5_init_d00df_11 1 rfl ?_
  refine mw_newaE (a := 47) (t := 2) (N := 16) (by rw [sx_ln hP]; rfl) (Or.inr (Or.inr ⟨rfl, rfl⟩)) wd_438 dJ5_init_d00df_12 (by decide) (by decide) (by decide) (Nat.le_of_ble_eq_true rfl) ⟨by rw [hn0]; exact Nat.le_of_ble_eq_true rfl, Nat.le_of_ble_eq_true rfl⟩ ?_
  refine mw_conv (slots' := 16) (sh' := (P ++ ([.inl (7, [.inr none, .inl 0, .inl 0, .inl 0]), .inr (2, 16, mh_n)] : List mh_C))) (by decide) (List.append_assoc _ _ _) ?_
  refine mw_putr (fs := [.inr none, .inl 0, .inl 0, .inl 0]) pf_J5_15 (fun h => by cases h) rfl dJ5_init_d00df_14 (sx_at hP (k := 0) rfl rfl) (Nat.le_of_ble_eq_true rfl) ?_
  refine mw_conv (slots' := 16) (sh' := (P ++ ([.inl (7, [.inr (some 47), .inl 0, .inl 0, .inl 0]), .inr (2, 16, mh_n)] : List mh_C))) (by decide) (sx_set hP (k := 0) rfl) ?_
  refine mw_aload_n dJ5_init_d00df_17 0 rfl ?_
  refine mw_iconst (v := 0) dJ5_init_d00df_18 (by decide) ?_
  refine mw_puti (fs := [.inr (some 47), .inl 0, .inl 0, .inl 0]) pf_J5_22 (fun h => by cases h) rfl rfl dJ5_init_d00df_19 (sx_at hP (k := 0) rfl rfl) rfl ?_
  refine mw_goto (tgt := 38) dJ5_init_d00df_22 (by decide) ?_
  exact mw_vret dJ5_init_d00df_38 rfl (sx_c0 hP hn0 (Nat.le_of_ble_eq_true rfl)) (Nat.le_of_ble_eq_true rfl) mh_ret_rfl
set_option maxHeartbeats 400000 in
set_option maxRecDepth 100000 in
theorem t_sb1_J4_init_da8c8 {P : List mh_C} (hP : P.length = 46) {I : mh_I} {L : mh_L}  : mh_CT yJ4_init_da8c8 cJ4_init_da8c8 1 none (mh_rmc 2 1 16) (P ++ ([.inl (7, [.inr none, .inl 0, .inl 0, .inl 0])] : List mh_C)) I L [.ref 46] (mh_ret none (P ++ ([.inl (7, [.inr (some 47), .inl 0, .inl 0, .inl 0]), .inr (2, 16, mh_n)] : List mh_C)) (mh_u (mh_z I 47) 46 1 (0 : Int32)) (mh_zl L 47)) := by
  refine mh_ofW (ini := true) RJ4 rfl (by decide) (fun h => rfl) (Nat.le_of_ble_eq_true rfl) ?_
  generalize hn0 : (P ++ ([.inl (7, [.inr none, .inl 0, .inl 0, .inl 0])] : List mh_C)).length = n0
  replace hn0 : n0 = 47 := by rw [← hn0, sx_ln hP]; rfl
  show mh_W RJ4 cJ4_init_da8c8 1 none true (mh_rmc 2 1 16) n0 1 16 mh_noX (mh_ret none (P ++ ([.inl (7, [.inr (some 47), .inl 0, .inl 0, .inl 0]), .inr (2, 16, mh_n)] : List mh_C)) (mh_u (mh_z I 47) 46 1 (0 : Int32)) (mh_zl L 47)) 0 (P ++ ([.inl (7, [.inr none, .inl 0, .inl 0, .inl 0])] : List mh_C)) I L 0 [(0, .ref 46)] []
  refine mw_aload_n dJ4_init_da8c8_0 0 rfl ?_
  refine mw_bipush (v := 16) dJ4_init_da8c8_1 (by decide) ?_
  refine mw_ir (Rc := mh_rmc 1 1 16) ci_J4_1 wd_469 dJ4_init_da8c8_3 [.int (16 : Int32)] [.int (16 : Int32), .ref 46] rfl rfl (t_sb2_J5_init_d00df hP ) ⟨Nat.le_of_ble_eq_true rfl, Nat.le_of_ble_eq_true rfl⟩ (Nat.le_of_ble_eq_true rfl) ⟨sx_c hP hn0 (Nat.le_of_ble_eq_true rfl), Nat.le_of_ble_eq_true rfl⟩ (sx_l hP rfl) ?_
  refine mw_conv (slots' := 16) (sh' := (P ++ ([.inl (7, [.inr (some 47), .inl 0, .inl 0, .inl 0]), .inr (2, 16, mh_n)] : List mh_C))) (by decide) rfl ?_
  exact mw_vret dJ4_init_da8c8_6 rfl (sx_c0 hP hn0 (Nat.le_of_ble_eq_true rfl)) (Nat.le_of_ble_eq_true rfl) mh_ret_rfl
set_option maxHeartbeats 400000 in
set_option maxRecDepth 100000 in
theorem t_sb5_J5_ensureCapacityInternal_d00df {P : List mh_C} (hP : P.length = 46) {I : mh_I} {L : mh_L}  (h46_1 : I 46 1 = (0 : Int32)) : mh_CT yJ5_ensureCapacityInternal_d00df cJ5_ensureCapacityInternal_d00df 3 none (mh_rmc 0 0 0) (P ++ ([.inl (7, [.inr (some 47), .inl 0, .inl 0, .inl 0]), .inr (2, 16, mh_n)] : List mh_C)) I L [.ref 46, .int (9 : Int32)] (mh_ret none (P ++ ([.inl (7, [.inr (some 47), .inl 0, .inl 0, .inl 0]), .inr (2, 16, mh_n)] : List mh_C)) I L) := by
  refine mh_ofW (ini := false) RJ5 rfl (by decide) (fun h => by cases h) (Nat.le_of_ble_eq_true rfl) ?_
  generalize hn0 : (P ++ ([.inl (7, [.inr (some 47), .inl 0, .inl 0, .inl 0]), .inr (2, 16, mh_n)] : List mh_C)).length = n0
  replace hn0 : n0 = 48 := by rw [← hn0, sx_ln hP]; rfl
  show mh_W RJ5 cJ5_ensureCapacityInternal_d00df 3 none false (mh_rmc 0 0 0) n0 0 0 mh_noX (mh_ret none (P ++ ([.inl (7, [.inr (some 47), .inl 0, .inl 0, .inl 0]), .inr (2, 16, mh_n)] : List mh_C)) I L) 0 (P ++ ([.inl (7, [.inr (some 47), .inl 0, .inl 0, .inl 0]), .inr (2, 16, mh_n)] : List mh_C)) I L 0 [(0, .ref 46), (1, .int (9 : Int32))] []
  refine mw_aload_n dJ5_ensureCapacityInternal_d00df_0 0 rfl ?_
  refine mw_getr (b := 47) (fs := [.inr (some 47), .inl 0, .inl 0, .inl 0]) gf_J5_15 dJ5_ensureCapacityInternal_d00df_1 (sx_at hP (k := 0) rfl rfl) rfl ?_
  refine mw_alen8 (v := (16 : Int32)) dJ5_ensureCapacityInternal_d00df_4 (sx_at hP (k := 1) rfl rfl) rfl ?_
  refine mw_aload_n dJ5_ensureCapacityInternal_d00df_5 0 rfl ?_
  refine mw_geti (fs := [.inr (some 47), .inl 0, .inl 0, .inl 0]) gf_J5_22 dJ5_ensureCapacityInternal_d00df_6 (sx_at hP (k := 0) rfl rfl) rfl ?_
  refine mw_nmi (v := (0 : Int32)) (show (I) 46 1 = (0 : Int32) from h46_1) ?_
  refine mw_ishr dJ5_ensureCapacityInternal_d00df_9 ?_
  refine mw_nmi (v := (16 : Int32)) (by decide) ?_
  refine mw_istore_n dJ5_ensureCapacityInternal_d00df_10 (by decide) rfl ?_
  refine mw_iload_n dJ5_ensureCapacityInternal_d00df_11 2 rfl ?_
  refine mw_iload_n dJ5_ensureCapacityInternal_d00df_12 0 rfl ?_
  refine mw_isub dJ5_ensureCapacityInternal_d00df_13 ?_
  refine mw_nmi (v := (-7 : Int32)) (by decide) ?_
  refine mw_if_le (tgt := 38) dJ5_ensureCapacityInternal_d00df_14 (by decide) (fun hc => ?_) (fun hc => absurd (by decide) hc)
  exact mw_vret dJ5_ensureCapacityInternal_d00df_38 rfl (sx_c0 hP hn0 (Nat.le_of_ble_eq_true rfl)) (Nat.le_of_ble_eq_true rfl) mh_ret_rfl
set_option maxHeartbeats 400000 in
set_option maxRecDepth 100000 in
theorem t_sb7_J5_inflateIfNeededFor_a7421 {P : List mh_C} (hP : P.length = 46) {I : mh_I} {L : mh_L}  (h46_1 : I 46 1 = (0 : Int32)) : mh_CT yJ5_inflateIfNeededFor_a7421 cJ5_inflateIfNeededFor_a7421 2 none (mh_rmc 1 0 0) (P ++ ([.inl (7, [.inr (some 47), .inl 0, .inl 0, .inl 0]), .inr (2, 16, mh_n)] : List mh_C)) I L [.ref 46, .ref 1002] (mh_ret none (P ++ ([.inl (7, [.inr (some 47), .inl 0, .inl 0, .inl 0]), .inr (2, 16, mh_n)] : List mh_C)) I L) := by
  refine mh_ofW (ini := false) RJ5 rfl (by decide) (fun h => by cases h) (Nat.le_of_ble_eq_true rfl) ?_
  generalize hn0 : (P ++ ([.inl (7, [.inr (some 47), .inl 0, .inl 0, .inl 0]), .inr (2, 16, mh_n)] : List mh_C)).length = n0
  replace hn0 : n0 = 48 := by rw [← hn0, sx_ln hP]; rfl
  show mh_W RJ5 cJ5_inflateIfNeededFor_a7421 2 none false (mh_rmc 1 0 0) n0 0 0 mh_noX (mh_ret none (P ++ ([.inl (7, [.inr (some 47), .inl 0, .inl 0, .inl 0]), .inr (2, 16, mh_n)] : List mh_C)) I L) 0 (P ++ ([.inl (7, [.inr (some 47), .inl 0, .inl 0, .inl 0]), .inr (2, 16, mh_n)] : List mh_C)) I L 0 [(0, .ref 46), (1, .ref 1002)] []
  refine mw_getsC wd_471 dJ5_inflateIfNeededFor_a7421_0 ?_
  refine mw_if_eq (tgt := 21) dJ5_inflateIfNeededFor_a7421_3 (by decide) (fun hc => absurd hc (by decide)) (fun hc => ?_)
  refine mw_aload_n dJ5_inflateIfNeededFor_a7421_6 0 rfl ?_
  refine mw_geti (fs := [.inr (some 47), .inl 0, .inl 0, .inl 0]) gf_J5_22 dJ5_inflateIfNeededFor_a7421_7 (sx_at hP (k := 0) rfl rfl) rfl ?_
  refine mw_nmi (v := (0 : Int32)) (show (I) 46 1 = (0 : Int32) from h46_1) ?_
  refine mw_aload_n dJ5_inflateIfNeededFor_a7421_10 1 rfl ?_
  refine mwx_t (Rc := mh_rm 0) (i := 2) (by decide) cv_J5_40 wd_302 dJ5_inflateIfNeededFor_a7421_11 [] [.ref 1002, .int (0 : Int32)] rfl rfl rfl (t_J0_coder_7d493 (o := 2) (res := (0 : Int32)) (by decide) (by decide +kernel)) ⟨Nat.le_of_ble_eq_true rfl, Nat.le_of_ble_eq_true rfl⟩ (Nat.le_of_ble_eq_true rfl) ⟨sx_c hP hn0 (Nat.le_of_ble_eq_true rfl), Nat.le_of_ble_eq_true rfl⟩ rfl ?_
  refine mw_icmp_eq (tgt := 21) dJ5_inflateIfNeededFor_a7421_14 (by decide) (fun hc => ?_) (fun hc => absurd (by decide) hc)
  exact mw_vret dJ5_inflateIfNeededFor_a7421_21 rfl (sx_c0 hP hn0 (Nat.le_of_ble_eq_true rfl)) (Nat.le_of_ble_eq_true rfl) mh_ret_rfl
set_option maxHeartbeats 400000 in
set_option maxRecDepth 100000 in
theorem t_sb8_J0_getBytes_840e7 {P : List mh_C} (hP : P.length = 46) {I : mh_I} {L : mh_L}  : mh_CT yJ0_getBytes_840e7 cJ0_getBytes_840e7 4 none (mh_rmc 1 0 0) (P ++ ([.inl (7, [.inr (some 47), .inl 0, .inl 0, .inl 0]), .inr (2, 16, mh_n)] : List mh_C)) I L [.ref 1002, .ref 47, .int (0 : Int32), .int (0 : Int32)] (mh_ret none (P ++ ([.inl (7, [.inr (some 47), .inl 0, .inl 0, .inl 0]), .inr (2, 16, mh_n)] : List mh_C)) (mh_ct I 2 47 0 0 9) L) := by
  refine mh_ofW (ini := false) RJ0 rfl (by decide) (fun h => by cases h) (Nat.le_of_ble_eq_true rfl) ?_
  generalize hn0 : (P ++ ([.inl (7, [.inr (some 47), .inl 0, .inl 0, .inl 0]), .inr (2, 16, mh_n)] : List mh_C)).length = n0
  replace hn0 : n0 = 48 := by rw [← hn0, sx_ln hP]; rfl
  show mh_W RJ0 cJ0_getBytes_840e7 4 none false (mh_rmc 1 0 0) n0 0 0 mh_noX (mh_ret none (P ++ ([.inl (7, [.inr (some 47), .inl 0, .inl 0, .inl 0]), .inr (2, 16, mh_n)] : List mh_C)) (mh_ct I 2 47 0 0 9) L) 0 (P ++ ([.inl (7, [.inr (some 47), .inl 0, .inl 0, .inl 0]), .inr (2, 16, mh_n)] : List mh_C)) I L 0 [(0, .ref 1002), (1, .ref 47), (2, .int (0 : Int32)), (3, .int (0 : Int32))] []
  refine mw_aload_n dJ0_getBytes_840e7_0 0 rfl ?_
  refine mwx_t (Rc := mh_rm 0) (i := 2) (by decide) cv_J0_335 wd_302 dJ0_getBytes_840e7_1 [] [.ref 1002] rfl rfl rfl (t_J0_coder_7d493 (o := 2) (res := (0 : Int32)) (by decide) (by decide +kernel)) ⟨Nat.le_of_ble_eq_true rfl, Nat.le_of_ble_eq_true rfl⟩ (Nat.le_of_ble_eq_true rfl) ⟨sx_c hP hn0 (Nat.le_of_ble_eq_true rfl), Nat.le_of_ble_eq_true rfl⟩ rfl ?_
  refine mw_iload_n dJ0_getBytes_840e7_4 3 rfl ?_
  refine mw_icmp_ne (tgt := 28) dJ0_getBytes_840e7_5 (by decide) (fun hc => absurd (by decide) hc) (fun hc => ?_)
  refine mw_aload_n dJ0_getBytes_840e7_8 0 rfl ?_
  refine mw_strv (i := 2) (by decide) wd_663 dJ0_getBytes_840e7_9 ?_
  refine mw_iconst (v := 0) dJ0_getBytes_840e7_12 (by decide) ?_
  refine mw_aload_n dJ0_getBytes_840e7_13 1 rfl ?_
  refine mw_iload_n dJ0_getBytes_840e7_14 2 rfl ?_
  refine mw_iload_n dJ0_getBytes_840e7_15 3 rfl ?_
  refine mw_ishl dJ0_getBytes_840e7_16 ?_
  refine mw_nmi (v := (0 : Int32)) (by decide) ?_
  refine mw_aload_n dJ0_getBytes_840e7_17 0 rfl ?_
  refine mw_strv (i := 2) (by decide) wd_663 dJ0_getBytes_840e7_18 ?_
  refine mw_blen (i := 2) (by decide) dJ0_getBytes_840e7_21 ?_
  refine mw_nmi (v := (9 : Int32)) (by decide +kernel) ?_
  refine mwx_copyt (i := 2) (sp' := 0) (dp' := 0) (n' := 9) (by decide) wd_588 dJ0_getBytes_840e7_22 (sx_at hP (k := 1) rfl rfl) (by decide) (by decide) (by decide) (by decide +kernel) (by decide) (by decide) (by decide) (by decide) (fun k _ => sb_fS2 _) ⟨wd_534, wd_533, wd_16⟩ ⟨by decide, by decide⟩ ?_
  refine mw_goto (tgt := 43) dJ0_getBytes_840e7_25 (by decide) ?_
  exact mw_vret dJ0_getBytes_840e7_43 rfl (sx_c0 hP hn0 (Nat.le_of_ble_eq_true rfl)) (Nat.le_of_ble_eq_true rfl) mh_ret_rfl
set_option maxHeartbeats 400000 in
set_option maxRecDepth 100000 in
theorem t_sb6_J5_putStringAt_47b60 {P : List mh_C} (hP : P.length = 46) {I : mh_I} {L : mh_L}  (h46_1 : I 46 1 = (0 : Int32)) : mh_CT yJ5_putStringAt_47b60 cJ5_putStringAt_47b60 3 none (mh_rmc 2 0 0) (P ++ ([.inl (7, [.inr (some 47), .inl 0, .inl 0, .inl 0]), .inr (2, 16, mh_n)] : List mh_C)) I L [.ref 46, .int (0 : Int32), .ref 1002] (mh_ret none (P ++ ([.inl (7, [.inr (some 47), .inl 0, .inl 0, .inl 0]), .inr (2, 16, mh_n)] : List mh_C)) (mh_ct I 2 47 0 0 9) L) := by
  refine mh_ofW (ini := false) RJ5 rfl (by decide) (fun h => by cases h) (Nat.le_of_ble_eq_true rfl) ?_
  generalize hn0 : (P ++ ([.inl (7, [.inr (some 47), .inl 0, .inl 0, .inl 0]), .inr (2, 16, mh_n)] : List mh_C)).length = n0
  replace hn0 : n0 = 48 := by rw [← hn0, sx_ln hP]; rfl
  show mh_W RJ5 cJ5_putStringAt_47b60 3 none false (mh_rmc 2 0 0) n0 0 0 mh_noX (mh_ret none (P ++ ([.inl (7, [.inr (some 47), .inl 0, .inl 0, .inl 0]), .inr (2, 16, mh_n)] : List mh_C)) (mh_ct I 2 47 0 0 9) L) 0 (P ++ ([.inl (7, [.inr (some 47), .inl 0, .inl 0, .inl 0]), .inr (2, 16, mh_n)] : List mh_C)) I L 0 [(0, .ref 46), (1, .int (0 : Int32)), (2, .ref 1002)] []
  refine mw_aload_n dJ5_putStringAt_47b60_0 0 rfl ?_
  refine mw_aload_n dJ5_putStringAt_47b60_1 2 rfl ?_
  refine mwx_vc (Rc := mh_rmc 1 0 0) (ci := 7) (fs := [.inr (some 47), .inl 0, .inl 0, .inl 0]) (T := TJ4) (N := 4) cC_J5_397 wd_563 dJ5_putStringAt_47b60_2 [.ref 1002] [.ref 1002, .ref 46] rfl rfl (sx_at hP (k := 0) rfl rfl) rfl (t_sb7_J5_inflateIfNeededFor_a7421 hP (show (I) 46 1 = (0 : Int32) from h46_1)) ⟨Nat.le_of_ble_eq_true rfl, Nat.le_of_ble_eq_true rfl⟩ (Nat.le_of_ble_eq_true rfl) ⟨sx_c hP hn0 (Nat.le_of_ble_eq_true rfl), Nat.le_of_ble_eq_true rfl⟩ (sx_l hP rfl) ?_
  refine mw_conv (slots' := 0) (sh' := (P ++ ([.inl (7, [.inr (some 47), .inl 0, .inl 0, .inl 0]), .inr (2, 16, mh_n)] : List mh_C))) (by decide) rfl ?_
  refine mw_aload_n dJ5_putStringAt_47b60_5 2 rfl ?_
  refine mw_aload_n dJ5_putStringAt_47b60_6 0 rfl ?_
  refine mw_getr (b := 47) (fs := [.inr (some 47), .inl 0, .inl 0, .inl 0]) gf_J5_15 dJ5_putStringAt_47b60_7 (sx_at hP (k := 0) rfl rfl) rfl ?_
  refine mw_iload_n dJ5_putStringAt_47b60_10 1 rfl ?_
  refine mw_aload_n dJ5_putStringAt_47b60_11 0 rfl ?_
  refine mw_geti (fs := [.inr (some 47), .inl 0, .inl 0, .inl 0]) gf_J5_22 dJ5_putStringAt_47b60_12 (sx_at hP (k := 0) rfl rfl) rfl ?_
  refine mw_nmi (v := (0 : Int32)) (show (I) 46 1 = (0 : Int32) from h46_1) ?_
  refine mwx_t (Rc := mh_rmc 1 0 0) (i := 2) (by decide) cv_J5_399 wd_587 dJ5_putStringAt_47b60_15 [.ref 47, .int (0 : Int32), .int (0 : Int32)] [.int (0 : Int32), .int (0 : Int32), .ref 47, .ref 1002] rfl rfl rfl (t_sb8_J0_getBytes_840e7 hP ) ⟨Nat.le_of_ble_eq_true rfl, Nat.le_of_ble_eq_true rfl⟩ (Nat.le_of_ble_eq_true rfl) ⟨sx_c hP hn0 (Nat.le_of_ble_eq_true rfl), Nat.le_of_ble_eq_true rfl⟩ (sx_l hP rfl) ?_
  refine mw_conv (slots' := 0) (sh' := (P ++ ([.inl (7, [.inr (some 47), .inl 0, .inl 0, .inl 0]), .inr (2, 16, mh_n)] : List mh_C))) (by decide) rfl ?_
  exact mw_vret dJ5_putStringAt_47b60_18 rfl (sx_c0 hP hn0 (Nat.le_of_ble_eq_true rfl)) (Nat.le_of_ble_eq_true rfl) mh_ret_rfl
set_option maxHeartbeats 400000 in
set_option maxRecDepth 100000 in
theorem t_sb4_J5_append_cf1ce {P : List mh_C} (hP : P.length = 46) {I : mh_I} {L : mh_L}  (h46_1 : I 46 1 = (0 : Int32)) (h46_3 : I 46 3 = (0 : Int32)) : mh_CT yJ5_append_cf1ce cJ5_append_cf1ce 3 (some (.object RJ5)) (mh_rmc 3 0 0) (P ++ ([.inl (7, [.inr (some 47), .inl 0, .inl 0, .inl 0]), .inr (2, 16, mh_n)] : List mh_C)) I L [.ref 46, .ref 1002] (mh_ret (some (.ref 46)) (P ++ ([.inl (7, [.inr (some 47), .inl 0, .inl 0, .inl 0]), .inr (2, 16, mh_n)] : List mh_C)) (mh_u (mh_ct I 2 47 0 0 9) 46 3 (9 : Int32)) L) := by
  refine mh_ofW (ini := false) RJ5 rfl (by decide) (fun h => by cases h) (Nat.le_of_ble_eq_true rfl) ?_
  generalize hn0 : (P ++ ([.inl (7, [.inr (some 47), .inl 0, .inl 0, .inl 0]), .inr (2, 16, mh_n)] : List mh_C)).length = n0
  replace hn0 : n0 = 48 := by rw [← hn0, sx_ln hP]; rfl
  show mh_W RJ5 cJ5_append_cf1ce 3 (some (.object RJ5)) false (mh_rmc 3 0 0) n0 0 0 mh_noX (mh_ret (some (.ref 46)) (P ++ ([.inl (7, [.inr (some 47), .inl 0, .inl 0, .inl 0]), .inr (2, 16, mh_n)] : List mh_C)) (mh_u (mh_ct I 2 47 0 0 9) 46 3 (9 : Int32)) L) 0 (P ++ ([.inl (7, [.inr (some 47), .inl 0, .inl 0, .inl 0]), .inr (2, 16, mh_n)] : List mh_C)) I L 0 [(0, .ref 46), (1, .ref 1002)] []
  refine mw_aload_n dJ5_append_cf1ce_0 1 rfl ?_
  refine mw_ifnn (tgt := 9) dJ5_append_cf1ce_1 (by decide) ?_
  refine mw_aload_n dJ5_append_cf1ce_9 1 rfl ?_
  refine mwx_t (Rc := mh_rm 1) (i := 2) (by decide) cv_J5_32 wd_298 dJ5_append_cf1ce_10 [] [.ref 1002] rfl rfl rfl (t_J0_length_8abf5 (o := 2) (res := (9 : Int32)) (by decide) (by decide +kernel)) ⟨Nat.le_of_ble_eq_true rfl, Nat.le_of_ble_eq_true rfl⟩ (Nat.le_of_ble_eq_true rfl) ⟨sx_c hP hn0 (Nat.le_of_ble_eq_true rfl), Nat.le_of_ble_eq_true rfl⟩ rfl ?_
  refine mw_istore_n dJ5_append_cf1ce_13 (by decide) rfl ?_
  refine mw_aload_n dJ5_append_cf1ce_14 1 rfl ?_
  refine mw_aload_n dJ5_append_cf1ce_15 1 rfl ?_
  refine mw_geti (fs := [.inr (some 47), .inl 0, .inl 0, .inl 0]) gf_J5_79 dJ5_append_cf1ce_16 (sx_at hP (k := 0) rfl rfl) rfl ?_
  refine mw_nmi (v := (0 : Int32)) (show (I) 46 3 = (0 : Int32) from h46_3) ?_
  refine mw_iload_n dJ5_append_cf1ce_19 0 rfl ?_
  refine mw_iadd dJ5_append_cf1ce_20 ?_
  refine mw_nmi (v := (9 : Int32)) (by decide) ?_
  refine mwx_vc (Rc := mh_rmc 0 0 0) (ci := 7) (fs := [.inr (some 47), .inl 0, .inl 0, .inl 0]) (T := TJ4) (N := 4) cC_J5_100 wd_507 dJ5_append_cf1ce_21 [.int (9 : Int32)] [.int (9 : Int32), .ref 46] rfl rfl (sx_at hP (k := 0) rfl rfl) rfl (t_sb5_J5_ensureCapacityInternal_d00df hP (show (I) 46 1 = (0 : Int32) from h46_1)) ⟨Nat.le_of_ble_eq_true rfl, Nat.le_of_ble_eq_true rfl⟩ (Nat.le_of_ble_eq_true rfl) ⟨sx_c hP hn0 (Nat.le_of_ble_eq_true rfl), Nat.le_of_ble_eq_true rfl⟩ (sx_l hP rfl) ?_
  refine mw_conv (slots' := 0) (sh' := (P ++ ([.inl (7, [.inr (some 47), .inl 0, .inl 0, .inl 0]), .inr (2, 16, mh_n)] : List mh_C))) (by decide) rfl ?_
  refine mw_aload_n dJ5_append_cf1ce_24 1 rfl ?_
  refine mw_aload_n dJ5_append_cf1ce_25 1 rfl ?_
  refine mw_geti (fs := [.inr (some 47), .inl 0, .inl 0, .inl 0]) gf_J5_79 dJ5_append_cf1ce_26 (sx_at hP (k := 0) rfl rfl) rfl ?_
  refine mw_nmi (v := (0 : Int32)) (show (I) 46 3 = (0 : Int32) from h46_3) ?_
  refine mw_aload_n dJ5_append_cf1ce_29 2 rfl ?_
  refine mwx_vc (Rc := mh_rmc 2 0 0) (ci := 7) (fs := [.inr (some 47), .inl 0, .inl 0, .inl 0]) (T := TJ4) (N := 4) cC_J5_208 wd_559 dJ5_append_cf1ce_30 [.int (0 : Int32), .ref 1002] [.ref 1002, .int (0 : Int32), .ref 46] rfl rfl (sx_at hP (k := 0) rfl rfl) rfl (t_sb6_J5_putStringAt_47b60 hP (show (I) 46 1 = (0 : Int32) from h46_1)) ⟨Nat.le_of_ble_eq_true rfl, Nat.le_of_ble_eq_true rfl⟩ (Nat.le_of_ble_eq_true rfl) ⟨sx_c hP hn0 (Nat.le_of_ble_eq_true rfl), Nat.le_of_ble_eq_true rfl⟩ (sx_l hP rfl) ?_
  refine mw_conv (slots' := 0) (sh' := (P ++ ([.inl (7, [.inr (some 47), .inl 0, .inl 0, .inl 0]), .inr (2, 16, mh_n)] : List mh_C))) (by decide) rfl ?_
  refine mw_aload_n dJ5_append_cf1ce_33 1 rfl ?_
  refine mw_dup dJ5_append_cf1ce_34 rfl ?_
  refine mw_geti (fs := [.inr (some 47), .inl 0, .inl 0, .inl 0]) gf_J5_79 dJ5_append_cf1ce_35 (sx_at hP (k := 0) rfl rfl) rfl ?_
  refine mw_nmi (v := (0 : Int32)) (show ((mh_ct I 2 47 0 0 9)) 46 3 = (0 : Int32) from h46_3) ?_
  refine mw_iload_n dJ5_append_cf1ce_38 0 rfl ?_
  refine mw_iadd dJ5_append_cf1ce_39 ?_
  refine mw_nmi (v := (9 : Int32)) (by decide) ?_
  refine mw_puti (fs := [.inr (some 47), .inl 0, .inl 0, .inl 0]) pf_J5_79 (fun h => by cases h) rfl rfl dJ5_append_cf1ce_40 (sx_at hP (k := 0) rfl rfl) rfl ?_
  refine mw_aload_n dJ5_append_cf1ce_43 1 rfl ?_
  exact mw_aret dJ5_append_cf1ce_44 rfl (Or.inl ⟨_, rfl⟩) (sx_c0 hP hn0 (Nat.le_of_ble_eq_true rfl)) (Nat.le_of_ble_eq_true rfl) mh_ret_rfl
set_option maxHeartbeats 400000 in
set_option maxRecDepth 100000 in
theorem t_sb3_J4_append_15ec4 {P : List mh_C} (hP : P.length = 46) {I : mh_I} {L : mh_L}  (h46_1 : I 46 1 = (0 : Int32)) (h46_3 : I 46 3 = (0 : Int32)) : mh_CT yJ4_append_15ec4 cJ4_append_15ec4 2 (some (.object RJ4)) (mh_rmc 4 0 0) (P ++ ([.inl (7, [.inr (some 47), .inl 0, .inl 0, .inl 0]), .inr (2, 16, mh_n)] : List mh_C)) I L [.ref 46, .ref 1002] (mh_ret (some (.ref 46)) (P ++ ([.inl (7, [.inr (some 47), .inl 0, .inl 0, .inl 0]), .inr (2, 16, mh_n)] : List mh_C)) (mh_u (mh_ct I 2 47 0 0 9) 46 3 (9 : Int32)) L) := by
  refine mh_ofW (ini := false) RJ4 rfl (by decide) (fun h => by cases h) (Nat.le_of_ble_eq_true rfl) ?_
  generalize hn0 : (P ++ ([.inl (7, [.inr (some 47), .inl 0, .inl 0, .inl 0]), .inr (2, 16, mh_n)] : List mh_C)).length = n0
  replace hn0 : n0 = 48 := by rw [← hn0, sx_ln hP]; rfl
  show mh_W RJ4 cJ4_append_15ec4 2 (some (.object RJ4)) false (mh_rmc 4 0 0) n0 0 0 mh_noX (mh_ret (some (.ref 46)) (P ++ ([.inl (7, [.inr (some 47), .inl 0, .inl 0, .inl 0]), .inr (2, 16, mh_n)] : List mh_C)) (mh_u (mh_ct I 2 47 0 0 9) 46 3 (9 : Int32)) L) 0 (P ++ ([.inl (7, [.inr (some 47), .inl 0, .inl 0, .inl 0]), .inr (2, 16, mh_n)] : List mh_C)) I L 0 [(0, .ref 46), (1, .ref 1002)] []
  refine mw_aload_n dJ4_append_15ec4_0 0 rfl ?_
  refine mw_aload_n dJ4_append_15ec4_1 1 rfl ?_
  refine mwx_su (Rc := mh_rmc 3 0 0) (ci := 7) (fs := [.inr (some 47), .inl 0, .inl 0, .inl 0]) (T := TJ4) (N := 4) cS_J4_29 wd_499 dJ4_append_15ec4_2 [.ref 1002] [.ref 1002, .ref 46] rfl rfl (sx_at hP (k := 0) rfl rfl) rfl (t_sb4_J5_append_cf1ce hP (show (I) 46 1 = (0 : Int32) from h46_1) (show (I) 46 3 = (0 : Int32) from h46_3)) ⟨Nat.le_of_ble_eq_true rfl, Nat.le_of_ble_eq_true rfl⟩ (Nat.le_of_ble_eq_true rfl) ⟨sx_c hP hn0 (Nat.le_of_ble_eq_true rfl), Nat.le_of_ble_eq_true rfl⟩ (sx_l hP rfl) ?_
  refine mw_conv (slots' := 0) (sh' := (P ++ ([.inl (7, [.inr (some 47), .inl 0, .inl 0, .inl 0]), .inr (2, 16, mh_n)] : List mh_C))) (by decide) rfl ?_
  refine mw_pop dJ4_append_15ec4_5 rfl ?_
  refine mw_aload_n dJ4_append_15ec4_6 0 rfl ?_
  exact mw_aret dJ4_append_15ec4_7 rfl (Or.inl ⟨_, rfl⟩) (sx_c0 hP hn0 (Nat.le_of_ble_eq_true rfl)) (Nat.le_of_ble_eq_true rfl) mh_ret_rfl
set_option maxHeartbeats 400000 in
set_option maxRecDepth 100000 in
theorem t_sb11_J6_stringSize_0f7a4 {P : List mh_C} (hP : P.length = 46) {I : mh_I} {L : mh_L} {d : Nat}  (hd : d < 8) : mh_CT yJ6_stringSize_0f7a4 cJ6_stringSize_0f7a4 4 (some .int) (mh_rmc 0 0 0) (P ++ ([.inl (7, [.inr (some 47), .inl 0, .inl 0, .inl 0]), .inr (2, 16, mh_n)] : List mh_C)) I L [.int (nI d)] (mh_ret (some (.int (1 : Int32))) (P ++ ([.inl (7, [.inr (some 47), .inl 0, .inl 0, .inl 0]), .inr (2, 16, mh_n)] : List mh_C)) I L) := by
  refine mh_ofW (ini := false) RJ6 rfl (by decide) (fun h => by cases h) (Nat.le_of_ble_eq_true rfl) ?_
  generalize hn0 : (P ++ ([.inl (7, [.inr (some 47), .inl 0, .inl 0, .inl 0]), .inr (2, 16, mh_n)] : List mh_C)).length = n0
  replace hn0 : n0 = 48 := by rw [← hn0, sx_ln hP]; rfl
  show mh_W RJ6 cJ6_stringSize_0f7a4 4 (some .int) false (mh_rmc 0 0 0) n0 0 0 mh_noX (mh_ret (some (.int (1 : Int32))) (P ++ ([.inl (7, [.inr (some 47), .inl 0, .inl 0, .inl 0]), .inr (2, 16, mh_n)] : List mh_C)) I L) 0 (P ++ ([.inl (7, [.inr (some 47), .inl 0, .inl 0, .inl 0]), .inr (2, 16, mh_n)] : List mh_C)) I L 0 [(0, .int (nI d))] []
  refine mw_iconst (v := 1) dJ6_stringSize_0f7a4_0 (by decide) ?_
  refine mw_istore_n dJ6_stringSize_0f7a4_1 (by decide) rfl ?_
  refine mw_iload_n dJ6_stringSize_0f7a4_2 1 rfl ?_
  refine mw_if_lt (tgt := 11) dJ6_stringSize_0f7a4_3 (by decide) (fun hc => absurd hc ((by decide : ∀ d : Nat, d < 8 → ¬ ((nI d) < 0)) d hd)) (fun hc => ?_)
  refine mw_iconst (v := 0) dJ6_stringSize_0f7a4_6 (by decide) ?_
  refine mw_istore_n dJ6_stringSize_0f7a4_7 (by decide) rfl ?_
  refine mw_iload_n dJ6_stringSize_0f7a4_8 1 rfl ?_
  refine mw_ineg dJ6_stringSize_0f7a4_9 ?_
  refine mw_istore_n dJ6_stringSize_0f7a4_10 (by decide) rfl ?_
  refine mw_bipush (v := -10) dJ6_stringSize_0f7a4_11 (by decide) ?_
  refine mw_istore_n dJ6_stringSize_0f7a4_13 (by decide) rfl ?_
  refine mw_iconst (v := 1) dJ6_stringSize_0f7a4_14 (by decide) ?_
  refine mw_istore_n dJ6_stringSize_0f7a4_15 (by decide) rfl ?_
  refine mw_iload_n dJ6_stringSize_0f7a4_16 0 rfl ?_
  refine mw_bipush (v := 10) dJ6_stringSize_0f7a4_17 (by decide) ?_
  refine mw_icmp_ge (tgt := 42) dJ6_stringSize_0f7a4_19 (by decide) (fun hc => absurd hc (by decide)) (fun hc => ?_)
  refine mw_iload_n dJ6_stringSize_0f7a4_22 2 rfl ?_
  refine mw_iload_n dJ6_stringSize_0f7a4_23 1 rfl ?_
  refine mw_icmp_le (tgt := 31) dJ6_stringSize_0f7a4_24 (by decide) (fun hc => absurd hc ((by decide : ∀ d : Nat, d < 8 → ¬ ((-(nI d)) ≤ (-10 : Int32))) d hd)) (fun hc => ?_)
  refine mw_iload_n dJ6_stringSize_0f7a4_27 0 rfl ?_
  refine mw_iload_n dJ6_stringSize_0f7a4_28 3 rfl ?_
  refine mw_iadd dJ6_stringSize_0f7a4_29 ?_
  refine mw_nmi (v := (1 : Int32)) (by decide) ?_
  exact mw_iret dJ6_stringSize_0f7a4_30 rfl rfl (sx_c0 hP hn0 (Nat.le_of_ble_eq_true rfl)) (Nat.le_of_ble_eq_true rfl) mh_ret_rfl
set_option maxHeartbeats 400000 in
set_option maxRecDepth 100000 in
theorem t_sb12_J5_ensureCapacityInternal_d00df {P : List mh_C} (hP : P.length = 46) {I : mh_I} {L : mh_L}  (h46_1 : I 46 1 = (0 : Int32)) : mh_CT yJ5_ensureCapacityInternal_d00df cJ5_ensureCapacityInternal_d00df 3 none (mh_rmc 0 0 0) (P ++ ([.inl (7, [.inr (some 47), .inl 0, .inl 0, .inl 0]), .inr (2, 16, mh_n)] : List mh_C)) I L [.ref 46, .int (10 : Int32)] (mh_ret none (P ++ ([.inl (7, [.inr (some 47), .inl 0, .inl 0, .inl 0]), .inr (2, 16, mh_n)] : List mh_C)) I L) := by
  refine mh_ofW (ini := false) RJ5 rfl (by decide) (fun h => by cases h) (Nat.le_of_ble_eq_true rfl) ?_
  generalize hn0 : (P ++ ([.inl (7, [.inr (some 47), .inl 0, .inl 0, .inl 0]), .inr (2, 16, mh_n)] : List mh_C)).length = n0
  replace hn0 : n0 = 48 := by rw [← hn0, sx_ln hP]; rfl
  show mh_W RJ5 cJ5_ensureCapacityInternal_d00df 3 none false (mh_rmc 0 0 0) n0 0 0 mh_noX (mh_ret none (P ++ ([.inl (7, [.inr (some 47), .inl 0, .inl 0, .inl 0]), .inr (2, 16, mh_n)] : List mh_C)) I L) 0 (P ++ ([.inl (7, [.inr (some 47), .inl 0, .inl 0, .inl 0]), .inr (2, 16, mh_n)] : List mh_C)) I L 0 [(0, .ref 46), (1, .int (10 : Int32))] []
  refine mw_aload_n dJ5_ensureCapacityInternal_d00df_0 0 rfl ?_
  refine mw_getr (b := 47) (fs := [.inr (some 47), .inl 0, .inl 0, .inl 0]) gf_J5_15 dJ5_ensureCapacityInternal_d00df_1 (sx_at hP (k := 0) rfl rfl) rfl ?_
  refine mw_alen8 (v := (16 : Int32)) dJ5_ensureCapacityInternal_d00df_4 (sx_at hP (k := 1) rfl rfl) rfl ?_
  refine mw_aload_n dJ5_ensureCapacityInternal_d00df_5 0 rfl ?_
  refine mw_geti (fs := [.inr (some 47), .inl 0, .inl 0, .inl 0]) gf_J5_22 dJ5_ensureCapacityInternal_d00df_6 (sx_at hP (k := 0) rfl rfl) rfl ?_
  refine mw_nmi (v := (0 : Int32)) (show (I) 46 1 = (0 : Int32) from h46_1) ?_
  refine mw_ishr dJ5_ensureCapacityInternal_d00df_9 ?_
  refine mw_nmi (v := (16 : Int32)) (by decide) ?_
  refine mw_istore_n dJ5_ensureCapacityInternal_d00df_10 (by decide) rfl ?_
  refine mw_iload_n dJ5_ensureCapacityInternal_d00df_11 2 rfl ?_
  refine mw_iload_n dJ5_ensureCapacityInternal_d00df_12 0 rfl ?_
  refine mw_isub dJ5_ensureCapacityInternal_d00df_13 ?_
  refine mw_nmi (v := (-6 : Int32)) (by decide) ?_
  refine mw_if_le (tgt := 38) dJ5_ensureCapacityInternal_d00df_14 (by decide) (fun hc => ?_) (fun hc => absurd (by decide) hc)
  exact mw_vret dJ5_ensureCapacityInternal_d00df_38 rfl (sx_c0 hP hn0 (Nat.le_of_ble_eq_true rfl)) (Nat.le_of_ble_eq_true rfl) mh_ret_rfl
set_option maxHeartbeats 400000 in
set_option maxRecDepth 100000 in
theorem t_sb13_J5_isLatin1_aae02 {P : List mh_C} (hP : P.length = 46) {I : mh_I} {L : mh_L}  (h46_1 : I 46 1 = (0 : Int32)) : mh_CT yJ5_isLatin1_aae02 cJ5_isLatin1_aae02 1 (some .boolean) (mh_rmc 0 0 0) (P ++ ([.inl (7, [.inr (some 47), .inl 0, .inl 0, .inl 0]), .inr (2, 16, mh_n)] : List mh_C)) I L [.ref 46] (mh_ret (some (.int (1 : Int32))) (P ++ ([.inl (7, [.inr (some 47), .inl 0, .inl 0, .inl 0]), .inr (2, 16, mh_n)] : List mh_C)) I L) := by
  refine mh_ofW (ini := false) RJ5 rfl (by decide) (fun h => by cases h) (Nat.le_of_ble_eq_true rfl) ?_
  generalize hn0 : (P ++ ([.inl (7, [.inr (some 47), .inl 0, .inl 0, .inl 0]), .inr (2, 16, mh_n)] : List mh_C)).length = n0
  replace hn0 : n0 = 48 := by rw [← hn0, sx_ln hP]; rfl
  show mh_W RJ5 cJ5_isLatin1_aae02 1 (some .boolean) false (mh_rmc 0 0 0) n0 0 0 mh_noX (mh_ret (some (.int (1 : Int32))) (P ++ ([.inl (7, [.inr (some 47), .inl 0, .inl 0, .inl 0]), .inr (2, 16, mh_n)] : List mh_C)) I L) 0 (P ++ ([.inl (7, [.inr (some 47), .inl 0, .inl 0, .inl 0]), .inr (2, 16, mh_n)] : List mh_C)) I L 0 [(0, .ref 46)] []
  refine mw_getsC wd_471 dJ5_isLatin1_aae02_0 ?_
  refine mw_if_eq (tgt := 17) dJ5_isLatin1_aae02_3 (by decide) (fun hc => absurd hc (by decide)) (fun hc => ?_)
  refine mw_aload_n dJ5_isLatin1_aae02_6 0 rfl ?_
  refine mw_geti (fs := [.inr (some 47), .inl 0, .inl 0, .inl 0]) gf_J5_22 dJ5_isLatin1_aae02_7 (sx_at hP (k := 0) rfl rfl) rfl ?_
  refine mw_nmi (v := (0 : Int32)) (show (I) 46 1 = (0 : Int32) from h46_1) ?_
  refine mw_if_ne (tgt := 17) dJ5_isLatin1_aae02_10 (by decide) (fun hc => absurd (by decide) hc) (fun hc => ?_)
  refine mw_iconst (v := 1) dJ5_isLatin1_aae02_13 (by decide) ?_
  refine mw_goto (tgt := 18) dJ5_isLatin1_aae02_14 (by decide) ?_
  exact mw_iret dJ5_isLatin1_aae02_18 rfl rfl (sx_c0 hP hn0 (Nat.le_of_ble_eq_true rfl)) (Nat.le_of_ble_eq_true rfl) mh_ret_rfl
set_option maxHeartbeats 400000 in
set_option maxRecDepth 100000 in
theorem t_sb14_J6_getChars_ba4f3 {P : List mh_C} (hP : P.length = 46) {I : mh_I} {L : mh_L} {d : Nat}  (hd : d < 8) : mh_CT yJ6_getChars_ba4f3 cJ6_getChars_ba4f3 7 (some .int) (mh_rmc 0 0 0) (P ++ ([.inl (7, [.inr (some 47), .inl 0, .inl 0, .inl 0]), .inr (2, 16, mh_n)] : List mh_C)) I L [.int (nI d), .int (10 : Int32), .ref 47] (mh_ret (some (.int (9 : Int32))) (P ++ ([.inl (7, [.inr (some 47), .inl 0, .inl 0, .inl 0]), .inr (2, 16, mh_n)] : List mh_C)) (mh_u I 47 9 (vp_nar .byte (nI (48 + d)))) L) := by
  refine mh_ofW (ini := false) RJ6 rfl (by decide) (fun h => by cases h) (Nat.le_of_ble_eq_true rfl) ?_
  generalize hn0 : (P ++ ([.inl (7, [.inr (some 47), .inl 0, .inl 0, .inl 0]), .inr (2, 16, mh_n)] : List mh_C)).length = n0
  replace hn0 : n0 = 48 := by rw [← hn0, sx_ln hP]; rfl
  show mh_W RJ6 cJ6_getChars_ba4f3 7 (some .int) false (mh_rmc 0 0 0) n0 0 0 mh_noX (mh_ret (some (.int (9 : Int32))) (P ++ ([.inl (7, [.inr (some 47), .inl 0, .inl 0, .inl 0]), .inr (2, 16, mh_n)] : List mh_C)) (mh_u I 47 9 (vp_nar .byte (nI (48 + d)))) L) 0 (P ++ ([.inl (7, [.inr (some 47), .inl 0, .inl 0, .inl 0]), .inr (2, 16, mh_n)] : List mh_C)) I L 0 [(0, .int (nI d)), (1, .int (10 : Int32)), (2, .ref 47)] []
  refine mw_iload_n dJ6_getChars_ba4f3_0 1 rfl ?_
  refine mw_istore dJ6_getChars_ba4f3_1 (by decide) rfl ?_
  refine mw_iload_n dJ6_getChars_ba4f3_3 1 rfl ?_
  refine mw_if_ge (tgt := 11) dJ6_getChars_ba4f3_4 (by decide) (fun hc => ?_) (fun hc => absurd ((by decide : ∀ d : Nat, d < 8 → (0 ≤ (nI d))) d hd) hc)
  refine mw_iconst (v := 0) dJ6_getChars_ba4f3_11 (by decide) ?_
  refine mw_istore dJ6_getChars_ba4f3_12 (by decide) rfl ?_
  refine mw_iload dJ6_getChars_ba4f3_14 0 rfl ?_
  refine mw_if_ne (tgt := 22) dJ6_getChars_ba4f3_16 (by decide) (fun hc => absurd (by decide) hc) (fun hc => ?_)
  refine mw_iload_n dJ6_getChars_ba4f3_19 2 rfl ?_
  refine mw_ineg dJ6_getChars_ba4f3_20 ?_
  refine mw_istore_n dJ6_getChars_ba4f3_21 (by decide) rfl ?_
  refine mw_iload_n dJ6_getChars_ba4f3_22 0 rfl ?_
  refine mw_bipush (v := -100) dJ6_getChars_ba4f3_23 (by decide) ?_
  refine mw_icmp_gt (tgt := 72) dJ6_getChars_ba4f3_25 (by decide) (fun hc => ?_) (fun hc => absurd ((by decide : ∀ d : Nat, d < 8 → ((-100 : Int32) < (-(nI d)))) d hd) hc)
  refine mw_aload_n dJ6_getChars_ba4f3_72 4 rfl ?_
  refine mw_iinc (v := (9 : Int32)) dJ6_getChars_ba4f3_73 2 rfl (by decide) (by decide) rfl ?_
  refine mw_iload dJ6_getChars_ba4f3_76 0 rfl ?_
  refine mw_dig wd_603 dJ6_getChars_ba4f3_78 ?_
  refine mw_iload_n dJ6_getChars_ba4f3_81 1 rfl ?_
  refine mw_ineg dJ6_getChars_ba4f3_82 ?_
  refine mw_digld ((by decide : ∀ d : Nat, d < 8 → ¬ ((-(-(nI d))) < 0 ∨ 100 ≤ ((-(-(nI d)))).toNatClampNeg)) d hd) dJ6_getChars_ba4f3_83 ?_
  refine mw_nmi (v := nI (48 + d)) ((by decide : ∀ d : Nat, d < 8 → nI (48 + ((-(-(nI d)))).toNatClampNeg % 10) = nI (48 + d)) d hd) ?_
  refine mwx_bast (kx := 9) dJ6_getChars_ba4f3_84 (sx_at hP (k := 1) rfl rfl) (by decide) (by decide) ?_
  refine mw_iload_n dJ6_getChars_ba4f3_85 1 rfl ?_
  refine mw_bipush (v := -9) dJ6_getChars_ba4f3_86 (by decide) ?_
  refine mw_icmp_ge (tgt := 104) dJ6_getChars_ba4f3_88 (by decide) (fun hc => ?_) (fun hc => absurd ((by decide : ∀ d : Nat, d < 8 → ((-9 : Int32) ≤ (-(nI d)))) d hd) hc)
  refine mw_iload dJ6_getChars_ba4f3_104 2 rfl ?_
  refine mw_if_eq (tgt := 118) dJ6_getChars_ba4f3_106 (by decide) (fun hc => ?_) (fun hc => absurd (by decide) hc)
  refine mw_iload dJ6_getChars_ba4f3_118 0 rfl ?_
  exact mw_iret dJ6_getChars_ba4f3_120 rfl rfl (sx_c0 hP hn0 (Nat.le_of_ble_eq_true rfl)) (Nat.le_of_ble_eq_true rfl) mh_ret_rfl
set_option maxHeartbeats 400000 in
set_option maxRecDepth 100000 in
theorem t_sb10_J5_append_c97b9 {P : List mh_C} (hP : P.length = 46) {I : mh_I} {L : mh_L} {d : Nat}  (h46_1 : I 46 1 = (0 : Int32)) (h46_3 : I 46 3 = (9 : Int32)) (hd : d < 8) : mh_CT yJ5_append_c97b9 cJ5_append_c97b9 4 (some (.object RJ5)) (mh_rmc 1 0 0) (P ++ ([.inl (7, [.inr (some 47), .inl 0, .inl 0, .inl 0]), .inr (2, 16, mh_n)] : List mh_C)) I L [.ref 46, .int (nI d)] (mh_ret (some (.ref 46)) (P ++ ([.inl (7, [.inr (some 47), .inl 0, .inl 0, .inl 0]), .inr (2, 16, mh_n)] : List mh_C)) (mh_u (mh_u I 47 9 (vp_nar .byte (nI (48 + d)))) 46 3 (10 : Int32)) L) := by
  refine mh_ofW (ini := false) RJ5 rfl (by decide) (fun h => by cases h) (Nat.le_of_ble_eq_true rfl) ?_
  generalize hn0 : (P ++ ([.inl (7, [.inr (some 47), .inl 0, .inl 0, .inl 0]), .inr (2, 16, mh_n)] : List mh_C)).length = n0
  replace hn0 : n0 = 48 := by rw [← hn0, sx_ln hP]; rfl
  show mh_W RJ5 cJ5_append_c97b9 4 (some (.object RJ5)) false (mh_rmc 1 0 0) n0 0 0 mh_noX (mh_ret (some (.ref 46)) (P ++ ([.inl (7, [.inr (some 47), .inl 0, .inl 0, .inl 0]), .inr (2, 16, mh_n)] : List mh_C)) (mh_u (mh_u I 47 9 (vp_nar .byte (nI (48 + d)))) 46 3 (10 : Int32)) L) 0 (P ++ ([.inl (7, [.inr (some 47), .inl 0, .inl 0, .inl 0]), .inr (2, 16, mh_n)] : List mh_C)) I L 0 [(0, .ref 46), (1, .int (nI d))] []
  refine mw_aload_n dJ5_append_c97b9_0 0 rfl ?_
  refine mw_geti (fs := [.inr (some 47), .inl 0, .inl 0, .inl 0]) gf_J5_79 dJ5_append_c97b9_1 (sx_at hP (k := 0) rfl rfl) rfl ?_
  refine mw_nmi (v := (9 : Int32)) (show (I) 46 3 = (9 : Int32) from h46_3) ?_
  refine mw_istore_n dJ5_append_c97b9_4 (by decide) rfl ?_
  refine mw_iload_n dJ5_append_c97b9_5 0 rfl ?_
  refine mw_iload_n dJ5_append_c97b9_6 2 rfl ?_
  refine mwx_s (Rc := mh_rmc 0 0 0) cs_J5_245 wd_599 dJ5_append_c97b9_7 [.int (nI d)] [.int (nI d), .int (9 : Int32)] rfl rfl (t_sb11_J6_stringSize_0f7a4 hP hd) ⟨Nat.le_of_ble_eq_true rfl, Nat.le_of_ble_eq_true rfl⟩ (Nat.le_of_ble_eq_true rfl) ⟨sx_c hP hn0 (Nat.le_of_ble_eq_true rfl), Nat.le_of_ble_eq_true rfl⟩ (sx_l hP rfl) ?_
  refine mw_conv (slots' := 0) (sh' := (P ++ ([.inl (7, [.inr (some 47), .inl 0, .inl 0, .inl 0]), .inr (2, 16, mh_n)] : List mh_C))) (by decide) rfl ?_
  refine mw_iadd dJ5_append_c97b9_10 ?_
  refine mw_nmi (v := (10 : Int32)) (by decide) ?_
  refine mw_istore_n dJ5_append_c97b9_11 (by decide) rfl ?_
  refine mw_aload_n dJ5_append_c97b9_12 2 rfl ?_
  refine mw_iload_n dJ5_append_c97b9_13 0 rfl ?_
  refine mwx_vc (Rc := mh_rmc 0 0 0) (ci := 7) (fs := [.inr (some 47), .inl 0, .inl 0, .inl 0]) (T := TJ4) (N := 4) cC_J5_100 wd_507 dJ5_append_c97b9_14 [.int (10 : Int32)] [.int (10 : Int32), .ref 46] rfl rfl (sx_at hP (k := 0) rfl rfl) rfl (t_sb12_J5_ensureCapacityInternal_d00df hP (show (I) 46 1 = (0 : Int32) from h46_1)) ⟨Nat.le_of_ble_eq_true rfl, Nat.le_of_ble_eq_true rfl⟩ (Nat.le_of_ble_eq_true rfl) ⟨sx_c hP hn0 (Nat.le_of_ble_eq_true rfl), Nat.le_of_ble_eq_true rfl⟩ (sx_l hP rfl) ?_
  refine mw_conv (slots' := 0) (sh' := (P ++ ([.inl (7, [.inr (some 47), .inl 0, .inl 0, .inl 0]), .inr (2, 16, mh_n)] : List mh_C))) (by decide) rfl ?_
  refine mw_aload_n dJ5_append_c97b9_17 2 rfl ?_
  refine mwx_vc (Rc := mh_rmc 0 0 0) (ci := 7) (fs := [.inr (some 47), .inl 0, .inl 0, .inl 0]) (T := TJ4) (N := 4) cC_J5_83 wd_539 dJ5_append_c97b9_18 [] [.ref 46] rfl rfl (sx_at hP (k := 0) rfl rfl) rfl (t_sb13_J5_isLatin1_aae02 hP (show (I) 46 1 = (0 : Int32) from h46_1)) ⟨Nat.le_of_ble_eq_true rfl, Nat.le_of_ble_eq_true rfl⟩ (Nat.le_of_ble_eq_true rfl) ⟨sx_c hP hn0 (Nat.le_of_ble_eq_true rfl), Nat.le_of_ble_eq_true rfl⟩ (sx_l hP rfl) ?_
  refine mw_conv (slots' := 0) (sh' := (P ++ ([.inl (7, [.inr (some 47), .inl 0, .inl 0, .inl 0]), .inr (2, 16, mh_n)] : List mh_C))) (by decide) rfl ?_
  refine mw_if_eq (tgt := 37) dJ5_append_c97b9_21 (by decide) (fun hc => absurd hc (by decide)) (fun hc => ?_)
  refine mw_iload_n dJ5_append_c97b9_24 3 rfl ?_
  refine mw_iload_n dJ5_append_c97b9_25 0 rfl ?_
  refine mw_aload_n dJ5_append_c97b9_26 2 rfl ?_
  refine mw_getr (b := 47) (fs := [.inr (some 47), .inl 0, .inl 0, .inl 0]) gf_J5_15 dJ5_append_c97b9_27 (sx_at hP (k := 0) rfl rfl) rfl ?_
  refine mwx_s (Rc := mh_rmc 0 0 0) cs_J5_248 wd_602 dJ5_append_c97b9_30 [.int (nI d), .int (10 : Int32), .ref 47] [.ref 47, .int (10 : Int32), .int (nI d)] rfl rfl (t_sb14_J6_getChars_ba4f3 hP hd) ⟨Nat.le_of_ble_eq_true rfl, Nat.le_of_ble_eq_true rfl⟩ (Nat.le_of_ble_eq_true rfl) ⟨sx_c hP hn0 (Nat.le_of_ble_eq_true rfl), Nat.le_of_ble_eq_true rfl⟩ (sx_l hP rfl) ?_
  refine mw_conv (slots' := 0) (sh' := (P ++ ([.inl (7, [.inr (some 47), .inl 0, .inl 0, .inl 0]), .inr (2, 16, mh_n)] : List mh_C))) (by decide) rfl ?_
  refine mw_pop dJ5_append_c97b9_33 rfl ?_
  refine mw_goto (tgt := 48) dJ5_append_c97b9_34 (by decide) ?_
  refine mw_aload_n dJ5_append_c97b9_48 2 rfl ?_
  refine mw_iload_n dJ5_append_c97b9_49 0 rfl ?_
  refine mw_puti (fs := [.inr (some 47), .inl 0, .inl 0, .inl 0]) pf_J5_79 (fun h => by cases h) rfl rfl dJ5_append_c97b9_50 (sx_at hP (k := 0) rfl rfl) rfl ?_
  refine mw_aload_n dJ5_append_c97b9_53 2 rfl ?_
  exact mw_aret dJ5_append_c97b9_54 rfl (Or.inl ⟨_, rfl⟩) (sx_c0 hP hn0 (Nat.le_of_ble_eq_true rfl)) (Nat.le_of_ble_eq_true rfl) mh_ret_rfl
set_option maxHeartbeats 400000 in
set_option maxRecDepth 100000 in
theorem t_sb9_J4_append_bf812 {P : List mh_C} (hP : P.length = 46) {I : mh_I} {L : mh_L} {d : Nat}  (h46_1 : I 46 1 = (0 : Int32)) (h46_3 : I 46 3 = (9 : Int32)) (hd : d < 8) : mh_CT yJ4_append_bf812 cJ4_append_bf812 2 (some (.object RJ4)) (mh_rmc 2 0 0) (P ++ ([.inl (7, [.inr (some 47), .inl 0, .inl 0, .inl 0]), .inr (2, 16, mh_n)] : List mh_C)) I L [.ref 46, .int (nI d)] (mh_ret (some (.ref 46)) (P ++ ([.inl (7, [.inr (some 47), .inl 0, .inl 0, .inl 0]), .inr (2, 16, mh_n)] : List mh_C)) (mh_u (mh_u I 47 9 (vp_nar .byte (nI (48 + d)))) 46 3 (10 : Int32)) L) := by
  refine mh_ofW (ini := false) RJ4 rfl (by decide) (fun h => by cases h) (Nat.le_of_ble_eq_true rfl) ?_
  generalize hn0 : (P ++ ([.inl (7, [.inr (some 47), .inl 0, .inl 0, .inl 0]), .inr (2, 16, mh_n)] : List mh_C)).length = n0
  replace hn0 : n0 = 48 := by rw [← hn0, sx_ln hP]; rfl
  show mh_W RJ4 cJ4_append_bf812 2 (some (.object RJ4)) false (mh_rmc 2 0 0) n0 0 0 mh_noX (mh_ret (some (.ref 46)) (P ++ ([.inl (7, [.inr (some 47), .inl 0, .inl 0, .inl 0]), .inr (2, 16, mh_n)] : List mh_C)) (mh_u (mh_u I 47 9 (vp_nar .byte (nI (48 + d)))) 46 3 (10 : Int32)) L) 0 (P ++ ([.inl (7, [.inr (some 47), .inl 0, .inl 0, .inl 0]), .inr (2, 16, mh_n)] : List mh_C)) I L 0 [(0, .ref 46), (1, .int (nI d))] []
  refine mw_aload_n dJ4_append_bf812_0 0 rfl ?_
  refine mw_iload_n dJ4_append_bf812_1 1 rfl ?_
  refine mwx_su (Rc := mh_rmc 1 0 0) (ci := 7) (fs := [.inr (some 47), .inl 0, .inl 0, .inl 0]) (T := TJ4) (N := 4) cS_J4_53 wd_596 dJ4_append_bf812_2 [.int (nI d)] [.int (nI d), .ref 46] rfl rfl (sx_at hP (k := 0) rfl rfl) rfl (t_sb10_J5_append_c97b9 hP (show (I) 46 1 = (0 : Int32) from h46_1) (show (I) 46 3 = (9 : Int32) from h46_3) hd) ⟨Nat.le_of_ble_eq_true rfl, Nat.le_of_ble_eq_true rfl⟩ (Nat.le_of_ble_eq_true rfl) ⟨sx_c hP hn0 (Nat.le_of_ble_eq_true rfl), Nat.le_of_ble_eq_true rfl⟩ (sx_l hP rfl) ?_
  refine mw_conv (slots' := 0) (sh' := (P ++ ([.inl (7, [.inr (some 47), .inl 0, .inl 0, .inl 0]), .inr (2, 16, mh_n)] : List mh_C))) (by decide) rfl ?_
  refine mw_pop dJ4_append_bf812_5 rfl ?_
  refine mw_aload_n dJ4_append_bf812_6 0 rfl ?_
  exact mw_aret dJ4_append_bf812_7 rfl (Or.inl ⟨_, rfl⟩) (sx_c0 hP hn0 (Nat.le_of_ble_eq_true rfl)) (Nat.le_of_ble_eq_true rfl) mh_ret_rfl
set_option maxHeartbeats 400000 in
set_option maxRecDepth 100000 in
theorem t_sb19_J8_newLength_cabcc {P : List mh_C} (hP : P.length = 46) {I : mh_I} {L : mh_L}  : mh_CT yJ8_newLength_cabcc cJ8_newLength_cabcc 4 (some .int) (mh_rmc 1 0 0) (P ++ ([.inl (7, [.inr (some 47), .inl 0, .inl 0, .inl 0]), .inr (2, 16, mh_n)] : List mh_C)) I L [.int (16 : Int32), .int (44 : Int32), .int (18 : Int32)] (mh_ret (some (.int (60 : Int32))) (P ++ ([.inl (7, [.inr (some 47), .inl 0, .inl 0, .inl 0]), .inr (2, 16, mh_n)] : List mh_C)) I L) := by
  refine mh_ofW (ini := false) RJ8 rfl (by decide) (fun h => by cases h) (Nat.le_of_ble_eq_true rfl) ?_
  generalize hn0 : (P ++ ([.inl (7, [.inr (some 47), .inl 0, .inl 0, .inl 0]), .inr (2, 16, mh_n)] : List mh_C)).length = n0
  replace hn0 : n0 = 48 := by rw [← hn0, sx_ln hP]; rfl
  show mh_W RJ8 cJ8_newLength_cabcc 4 (some .int) false (mh_rmc 1 0 0) n0 0 0 mh_noX (mh_ret (some (.int (60 : Int32))) (P ++ ([.inl (7, [.inr (some 47), .inl 0, .inl 0, .inl 0]), .inr (2, 16, mh_n)] : List mh_C)) I L) 0 (P ++ ([.inl (7, [.inr (some 47), .inl 0, .inl 0, .inl 0]), .inr (2, 16, mh_n)] : List mh_C)) I L 0 [(0, .int (16 : Int32)), (1, .int (44 : Int32)), (2, .int (18 : Int32))] []
  refine mw_iload_n dJ8_newLength_cabcc_0 0 rfl ?_
  refine mw_iload_n dJ8_newLength_cabcc_1 1 rfl ?_
  refine mw_iload_n dJ8_newLength_cabcc_2 2 rfl ?_
  refine mwx_max wd_515 ⟨wd_80, wd_14, wd_81⟩ dJ8_newLength_cabcc_3 (by decide) (by decide) ⟨sx_c0 hP hn0 (Nat.le_of_ble_eq_true rfl), Nat.le_of_ble_eq_true rfl⟩ ?_
  refine mw_nmi (v := (44 : Int32)) (by decide) ?_
  refine mw_iadd dJ8_newLength_cabcc_6 ?_
  refine mw_nmi (v := (60 : Int32)) (by decide) ?_
  refine mw_istore_n dJ8_newLength_cabcc_7 (by decide) rfl ?_
  refine mw_iconst (v := 0) dJ8_newLength_cabcc_8 (by decide) ?_
  refine mw_iload_n dJ8_newLength_cabcc_9 0 rfl ?_
  refine mw_icmp_ge (tgt := 21) dJ8_newLength_cabcc_10 (by decide) (fun hc => absurd hc (by decide)) (fun hc => ?_)
  refine mw_iload_n dJ8_newLength_cabcc_13 0 rfl ?_
  refine mw_ldc dJ8_newLength_cabcc_14 wd_516 ?_
  refine mw_icmp_gt (tgt := 21) dJ8_newLength_cabcc_16 (by decide) (fun hc => absurd hc (by decide)) (fun hc => ?_)
  refine mw_iload_n dJ8_newLength_cabcc_19 0 rfl ?_
  exact mw_iret dJ8_newLength_cabcc_20 rfl rfl (sx_c0 hP hn0 (Nat.le_of_ble_eq_true rfl)) (Nat.le_of_ble_eq_true rfl) mh_ret_rfl
set_option maxHeartbeats 400000 in
set_option maxRecDepth 100000 in
theorem t_sb18_J5_newCapacity_0f7a4 {P : List mh_C} (hP : P.length = 46) {I : mh_I} {L : mh_L}  (h46_1 : I 46 1 = (0 : Int32)) : mh_CT yJ5_newCapacity_0f7a4 cJ5_newCapacity_0f7a4 6 (some .int) (mh_rmc 2 0 0) (P ++ ([.inl (7, [.inr (some 47), .inl 0, .inl 0, .inl 0]), .inr (2, 16, mh_n)] : List mh_C)) I L [.ref 46, .int (60 : Int32)] (mh_ret (some (.int (60 : Int32))) (P ++ ([.inl (7, [.inr (some 47), .inl 0, .inl 0, .inl 0]), .inr (2, 16, mh_n)] : List mh_C)) I L) := by
  refine mh_ofW (ini := false) RJ5 rfl (by decide) (fun h => by cases h) (Nat.le_of_ble_eq_true rfl) ?_
  generalize hn0 : (P ++ ([.inl (7, [.inr (some 47), .inl 0, .inl 0, .inl 0]), .inr (2, 16, mh_n)] : List mh_C)).length = n0
  replace hn0 : n0 = 48 := by rw [← hn0, sx_ln hP]; rfl
  show mh_W RJ5 cJ5_newCapacity_0f7a4 6 (some .int) false (mh_rmc 2 0 0) n0 0 0 mh_noX (mh_ret (some (.int (60 : Int32))) (P ++ ([.inl (7, [.inr (some 47), .inl 0, .inl 0, .inl 0]), .inr (2, 16, mh_n)] : List mh_C)) I L) 0 (P ++ ([.inl (7, [.inr (some 47), .inl 0, .inl 0, .inl 0]), .inr (2, 16, mh_n)] : List mh_C)) I L 0 [(0, .ref 46), (1, .int (60 : Int32))] []
  refine mw_aload_n dJ5_newCapacity_0f7a4_0 0 rfl ?_
  refine mw_getr (b := 47) (fs := [.inr (some 47), .inl 0, .inl 0, .inl 0]) gf_J5_15 dJ5_newCapacity_0f7a4_1 (sx_at hP (k := 0) rfl rfl) rfl ?_
  refine mw_alen8 (v := (16 : Int32)) dJ5_newCapacity_0f7a4_4 (sx_at hP (k := 1) rfl rfl) rfl ?_
  refine mw_istore_n dJ5_newCapacity_0f7a4_5 (by decide) rfl ?_
  refine mw_iload_n dJ5_newCapacity_0f7a4_6 2 rfl ?_
  refine mw_aload_n dJ5_newCapacity_0f7a4_7 1 rfl ?_
  refine mw_geti (fs := [.inr (some 47), .inl 0, .inl 0, .inl 0]) gf_J5_22 dJ5_newCapacity_0f7a4_8 (sx_at hP (k := 0) rfl rfl) rfl ?_
  refine mw_nmi (v := (0 : Int32)) (show (I) 46 1 = (0 : Int32) from h46_1) ?_
  refine mw_ishl dJ5_newCapacity_0f7a4_11 ?_
  refine mw_nmi (v := (60 : Int32)) (by decide) ?_
  refine mw_istore_n dJ5_newCapacity_0f7a4_12 (by decide) rfl ?_
  refine mw_iload_n dJ5_newCapacity_0f7a4_13 0 rfl ?_
  refine mw_iload_n dJ5_newCapacity_0f7a4_14 1 rfl ?_
  refine mw_isub dJ5_newCapacity_0f7a4_15 ?_
  refine mw_nmi (v := (44 : Int32)) (by decide) ?_
  refine mw_istore dJ5_newCapacity_0f7a4_16 (by decide) rfl ?_
  refine mw_iload_n dJ5_newCapacity_0f7a4_18 2 rfl ?_
  refine mw_iload dJ5_newCapacity_0f7a4_19 0 rfl ?_
  refine mw_iload_n dJ5_newCapacity_0f7a4_21 2 rfl ?_
  refine mw_iconst (v := 2) dJ5_newCapacity_0f7a4_22 (by decide) ?_
  refine mw_aload_n dJ5_newCapacity_0f7a4_23 3 rfl ?_
  refine mw_geti (fs := [.inr (some 47), .inl 0, .inl 0, .inl 0]) gf_J5_22 dJ5_newCapacity_0f7a4_24 (sx_at hP (k := 0) rfl rfl) rfl ?_
  refine mw_nmi (v := (0 : Int32)) (show (I) 46 1 = (0 : Int32) from h46_1) ?_
  refine mw_ishl dJ5_newCapacity_0f7a4_27 ?_
  refine mw_nmi (v := (2 : Int32)) (by decide) ?_
  refine mw_iadd dJ5_newCapacity_0f7a4_28 ?_
  refine mw_nmi (v := (18 : Int32)) (by decide) ?_
  refine mwx_s (Rc := mh_rmc 1 0 0) cs_J5_114 wd_514 dJ5_newCapacity_0f7a4_29 [.int (16 : Int32), .int (44 : Int32), .int (18 : Int32)] [.int (18 : Int32), .int (44 : Int32), .int (16 : Int32)] rfl rfl (t_sb19_J8_newLength_cabcc hP ) ⟨Nat.le_of_ble_eq_true rfl, Nat.le_of_ble_eq_true rfl⟩ (Nat.le_of_ble_eq_true rfl) ⟨sx_c hP hn0 (Nat.le_of_ble_eq_true rfl), Nat.le_of_ble_eq_true rfl⟩ (sx_l hP rfl) ?_
  refine mw_conv (slots' := 0) (sh' := (P ++ ([.inl (7, [.inr (some 47), .inl 0, .inl 0, .inl 0]), .inr (2, 16, mh_n)] : List mh_C))) (by decide) rfl ?_
  refine mw_istore dJ5_newCapacity_0f7a4_32 (by decide) rfl ?_
  refine mw_iload dJ5_newCapacity_0f7a4_34 0 rfl ?_
  refine mw_ldc dJ5_newCapacity_0f7a4_36 wd_520 ?_
  refine mw_icmp_ne (tgt := 51) dJ5_newCapacity_0f7a4_38 (by decide) (fun hc => ?_) (fun hc => absurd hc (by decide))
  refine mw_iload dJ5_newCapacity_0f7a4_51 0 rfl ?_
  refine mw_aload_n dJ5_newCapacity_0f7a4_53 4 rfl ?_
  refine mw_geti (fs := [.inr (some 47), .inl 0, .inl 0, .inl 0]) gf_J5_22 dJ5_newCapacity_0f7a4_54 (sx_at hP (k := 0) rfl rfl) rfl ?_
  refine mw_nmi (v := (0 : Int32)) (show (I) 46 1 = (0 : Int32) from h46_1) ?_
  refine mw_ishr dJ5_newCapacity_0f7a4_57 ?_
  refine mw_nmi (v := (60 : Int32)) (by decide) ?_
  exact mw_iret dJ5_newCapacity_0f7a4_58 rfl rfl (sx_c0 hP hn0 (Nat.le_of_ble_eq_true rfl)) (Nat.le_of_ble_eq_true rfl) mh_ret_rfl
set_option maxHeartbeats 400000 in
set_option maxRecDepth 100000 in
theorem t_sb20_J7_copyOf_9075b {P : List mh_C} (hP : P.length = 46) {I : mh_I} {L : mh_L}  (hf47 : sb_Fit (I 47)) : mh_CT yJ7_copyOf_9075b cJ7_copyOf_9075b 3 (some (.array .byte)) (mh_rmc 1 1 60) (P ++ ([.inl (7, [.inr (some 47), .inl 0, .inl 0, .inl 0]), .inr (2, 16, mh_n)] : List mh_C)) I L [.ref 47, .int (60 : Int32)] (mh_ret (some (.ref 48)) (P ++ ([.inl (7, [.inr (some 47), .inl 0, .inl 0, .inl 0]), .inr (2, 16, mh_n), .inr (2, 60, mh_n)] : List mh_C)) (mh_cpy (mh_z I 48) 47 48 0 0 16) (mh_zl L 48)) := by
  refine mh_ofW (ini := false) RJ7 rfl (by decide) (fun h => by cases h) (Nat.le_of_ble_eq_true rfl) ?_
  generalize hn0 : (P ++ ([.inl (7, [.inr (some 47), .inl 0, .inl 0, .inl 0]), .inr (2, 16, mh_n)] : List mh_C)).length = n0
  replace hn0 : n0 = 48 := by rw [← hn0, sx_ln hP]; rfl
  show mh_W RJ7 cJ7_copyOf_9075b 3 (some (.array .byte)) false (mh_rmc 1 1 60) n0 1 60 mh_noX (mh_ret (some (.ref 48)) (P ++ ([.inl (7, [.inr (some 47), .inl 0, .inl 0, .inl 0]), .inr (2, 16, mh_n), .inr (2, 60, mh_n)] : List mh_C)) (mh_cpy (mh_z I 48) 47 48 0 0 16) (mh_zl L 48)) 0 (P ++ ([.inl (7, [.inr (some 47), .inl 0, .inl 0, .inl 0]), .inr (2, 16, mh_n)] : List mh_C)) I L 0 [(0, .ref 47), (1, .int (60 : Int32))] []
  refine mw_iload_n dJ7_copyOf_9075b_0 1 rfl ?_
  refine mw_aload_n dJ7_copyOf_9075b_1 0 rfl ?_
  refine mw_alen8 (v := (16 : Int32)) dJ7_copyOf_9075b_2 (sx_at hP (k := 1) rfl rfl) rfl ?_
  refine mw_icmp_ne (tgt := 14) dJ7_copyOf_9075b_3 (by decide) (fun hc => ?_) (fun hc => absurd hc (by decide))
  refine mw_iload_n dJ7_copyOf_9075b_14 1 rfl ?_
  refine mw_newaE (a := 48) (t := 2) (N := 60) (by rw [sx_ln hP]; rfl) (Or.inr (Or.inr ⟨rfl, rfl⟩)) wd_438 dJ7_copyOf_9075b_15 (by decide) (by decide) (by decide) (Nat.le_of_ble_eq_true rfl) ⟨by rw [hn0]; exact Nat.le_of_ble_eq_true rfl, Nat.le_of_ble_eq_true rfl⟩ ?_
  refine mw_conv (slots' := 60) (sh' := (P ++ ([.inl (7, [.inr (some 47), .inl 0, .inl 0, .inl 0]), .inr (2, 16, mh_n), .inr (2, 60, mh_n)] : List mh_C))) (by decide) (List.append_assoc _ _ _) ?_
  refine mw_astore_n dJ7_copyOf_9075b_17 (by decide) rfl ?_
  refine mw_aload_n dJ7_copyOf_9075b_18 1 rfl ?_
  refine mw_iconst (v := 0) dJ7_copyOf_9075b_19 (by decide) ?_
  refine mw_aload_n dJ7_copyOf_9075b_20 0 rfl ?_
  refine mw_iconst (v := 0) dJ7_copyOf_9075b_21 (by decide) ?_
  refine mw_aload_n dJ7_copyOf_9075b_22 1 rfl ?_
  refine mw_alen8 (v := (16 : Int32)) dJ7_copyOf_9075b_23 (sx_at hP (k := 1) rfl rfl) rfl ?_
  refine mw_iload_n dJ7_copyOf_9075b_24 2 rfl ?_
  refine mwx_min wd_531 ⟨wd_88, wd_14, wd_89⟩ dJ7_copyOf_9075b_25 (by decide) (by decide) ⟨sx_c0 hP hn0 (Nat.le_of_ble_eq_true rfl), Nat.le_of_ble_eq_true rfl⟩ ?_
  refine mw_nmi (v := (16 : Int32)) (by decide) ?_
  refine mwx_copy8 (sp' := 0) (dp' := 0) (n' := 16) wd_532 dJ7_copyOf_9075b_28 (sx_at hP (k := 1) rfl rfl) (sx_at hP (k := 2) rfl rfl) (by decide) (by decide) (by decide) (by decide) (by decide) (by decide) (by decide) (by decide) (fun k _ => (show sb_Fit (((mh_z I 48)) 47) from hf47) _) ⟨wd_534, wd_533, wd_16⟩ ⟨by decide, by decide⟩ ?_
  refine mw_aload_n dJ7_copyOf_9075b_31 0 rfl ?_
  exact mw_aret dJ7_copyOf_9075b_32 rfl (Or.inr ⟨_, rfl⟩) (sx_c0 hP hn0 (Nat.le_of_ble_eq_true rfl)) (Nat.le_of_ble_eq_true rfl) mh_ret_rfl
set_option maxHeartbeats 400000 in
set_option maxRecDepth 100000 in
theorem t_sb17_J5_ensureCapacityInternal_d00df {P : List mh_C} (hP : P.length = 46) {I : mh_I} {L : mh_L}  (h46_1 : I 46 1 = (0 : Int32)) (hf47 : sb_Fit (I 47)) : mh_CT yJ5_ensureCapacityInternal_d00df cJ5_ensureCapacityInternal_d00df 3 none (mh_rmc 3 1 60) (P ++ ([.inl (7, [.inr (some 47), .inl 0, .inl 0, .inl 0]), .inr (2, 16, mh_n)] : List mh_C)) I L [.ref 46, .int (60 : Int32)] (mh_ret none (P ++ ([.inl (7, [.inr (some 48), .inl 0, .inl 0, .inl 0]), .inr (2, 16, mh_n), .inr (2, 60, mh_n)] : List mh_C)) (mh_cpy (mh_z I 48) 47 48 0 0 16) (mh_zl L 48)) := by
  refine mh_ofW (ini := false) RJ5 rfl (by decide) (fun h => by cases h) (Nat.le_of_ble_eq_true rfl) ?_
  generalize hn0 : (P ++ ([.inl (7, [.inr (some 47), .inl 0, .inl 0, .inl 0]), .inr (2, 16, mh_n)] : List mh_C)).length = n0
  replace hn0 : n0 = 48 := by rw [← hn0, sx_ln hP]; rfl
  show mh_W RJ5 cJ5_ensureCapacityInternal_d00df 3 none false (mh_rmc 3 1 60) n0 1 60 mh_noX (mh_ret none (P ++ ([.inl (7, [.inr (some 48), .inl 0, .inl 0, .inl 0]), .inr (2, 16, mh_n), .inr (2, 60, mh_n)] : List mh_C)) (mh_cpy (mh_z I 48) 47 48 0 0 16) (mh_zl L 48)) 0 (P ++ ([.inl (7, [.inr (some 47), .inl 0, .inl 0, .inl 0]), .inr (2, 16, mh_n)] : List mh_C)) I L 0 [(0, .ref 46), (1, .int (60 : Int32))] []
  refine mw_aload_n dJ5_ensureCapacityInternal_d00df_0 0 rfl ?_
  refine mw_getr (b := 47) (fs := [.inr (some 47), .inl 0, .inl 0, .inl 0]) gf_J5_15 dJ5_ensureCapacityInternal_d00df_1 (sx_at hP (k := 0) rfl rfl) rfl ?_
  refine mw_alen8 (v := (16 : Int32)) dJ5_ensureCapacityInternal_d00df_4 (sx_at hP (k := 1) rfl rfl) rfl ?_
  refine mw_aload_n dJ5_ensureCapacityInternal_d00df_5 0 rfl ?_
  refine mw_geti (fs := [.inr (some 47), .inl 0, .inl 0, .inl 0]) gf_J5_22 dJ5_ensureCapacityInternal_d00df_6 (sx_at hP (k := 0) rfl rfl) rfl ?_
  refine mw_nmi (v := (0 : Int32)) (show (I) 46 1 = (0 : Int32) from h46_1) ?_
  refine mw_ishr dJ5_ensureCapacityInternal_d00df_9 ?_
  refine mw_nmi (v := (16 : Int32)) (by decide) ?_
  refine mw_istore_n dJ5_ensureCapacityInternal_d00df_10 (by decide) rfl ?_
  refine mw_iload_n dJ5_ensureCapacityInternal_d00df_11 2 rfl ?_
  refine mw_iload_n dJ5_ensureCapacityInternal_d00df_12 0 rfl ?_
  refine mw_isub dJ5_ensureCapacityInternal_d00df_13 ?_
  refine mw_nmi (v := (44 : Int32)) (by decide) ?_
  refine mw_if_le (tgt := 38) dJ5_ensureCapacityInternal_d00df_14 (by decide) (fun hc => absurd hc (by decide)) (fun hc => ?_)
  refine mw_aload_n dJ5_ensureCapacityInternal_d00df_17 1 rfl ?_
  refine mw_aload_n dJ5_ensureCapacityInternal_d00df_18 1 rfl ?_
  refine mw_getr (b := 47) (fs := [.inr (some 47), .inl 0, .inl 0, .inl 0]) gf_J5_15 dJ5_ensureCapacityInternal_d00df_19 (sx_at hP (k := 0) rfl rfl) rfl ?_
  refine mw_aload_n dJ5_ensureCapacityInternal_d00df_22 1 rfl ?_
  refine mw_iload_n dJ5_ensureCapacityInternal_d00df_23 2 rfl ?_
  refine mwx_vc (Rc := mh_rmc 2 0 0) (ci := 7) (fs := [.inr (some 47), .inl 0, .inl 0, .inl 0]) (T := TJ4) (N := 4) cC_J5_104 wd_511 dJ5_ensureCapacityInternal_d00df_24 [.int (60 : Int32)] [.int (60 : Int32), .ref 46, .ref 47, .ref 46] rfl rfl (sx_at hP (k := 0) rfl rfl) rfl (t_sb18_J5_newCapacity_0f7a4 hP (show (I) 46 1 = (0 : Int32) from h46_1)) ⟨Nat.le_of_ble_eq_true rfl, Nat.le_of_ble_eq_true rfl⟩ (Nat.le_of_ble_eq_true rfl) ⟨sx_c hP hn0 (Nat.le_of_ble_eq_true rfl), Nat.le_of_ble_eq_true rfl⟩ (sx_l hP rfl) ?_
  refine mw_conv (slots' := 0) (sh' := (P ++ ([.inl (7, [.inr (some 47), .inl 0, .inl 0, .inl 0]), .inr (2, 16, mh_n)] : List mh_C))) (by decide) rfl ?_
  refine mw_aload_n dJ5_ensureCapacityInternal_d00df_27 1 rfl ?_
  refine mw_geti (fs := [.inr (some 47), .inl 0, .inl 0, .inl 0]) gf_J5_22 dJ5_ensureCapacityInternal_d00df_28 (sx_at hP (k := 0) rfl rfl) rfl ?_
  refine mw_nmi (v := (0 : Int32)) (show (I) 46 1 = (0 : Int32) from h46_1) ?_
  refine mw_ishl dJ5_ensureCapacityInternal_d00df_31 ?_
  refine mw_nmi (v := (60 : Int32)) (by decide) ?_
  refine mwx_s (Rc := mh_rmc 1 1 60) cs_J5_108 wd_523 dJ5_ensureCapacityInternal_d00df_32 [.ref 47, .int (60 : Int32)] [.int (60 : Int32), .ref 47, .ref 46] rfl rfl (t_sb20_J7_copyOf_9075b hP (show sb_Fit ((I) 47) from hf47)) ⟨Nat.le_of_ble_eq_true rfl, Nat.le_of_ble_eq_true rfl⟩ (Nat.le_of_ble_eq_true rfl) ⟨sx_c hP hn0 (Nat.le_of_ble_eq_true rfl), Nat.le_of_ble_eq_true rfl⟩ (sx_l hP rfl) ?_
  refine mw_conv (slots' := 60) (sh' := (P ++ ([.inl (7, [.inr (some 47), .inl 0, .inl 0, .inl 0]), .inr (2, 16, mh_n), .inr (2, 60, mh_n)] : List mh_C))) (by decide) rfl ?_
  refine mw_putr (fs := [.inr (some 47), .inl 0, .inl 0, .inl 0]) pf_J5_15 (fun h => by cases h) rfl dJ5_ensureCapacityInternal_d00df_35 (sx_at hP (k := 0) rfl rfl) (Nat.le_of_ble_eq_true rfl) ?_
  refine mw_conv (slots' := 60) (sh' := (P ++ ([.inl (7, [.inr (some 48), .inl 0, .inl 0, .inl 0]), .inr (2, 16, mh_n), .inr (2, 60, mh_n)] : List mh_C))) (by decide) (sx_set hP (k := 0) rfl) ?_
  exact mw_vret dJ5_ensureCapacityInternal_d00df_38 rfl (sx_c0 hP hn0 (Nat.le_of_ble_eq_true rfl)) (Nat.le_of_ble_eq_true rfl) mh_ret_rfl
set_option maxHeartbeats 400000 in
set_option maxRecDepth 100000 in
theorem t_sb22_J5_inflateIfNeededFor_a7421 {P : List mh_C} (hP : P.length = 46) {I : mh_I} {L : mh_L}  (h46_1 : I 46 1 = (0 : Int32)) : mh_CT yJ5_inflateIfNeededFor_a7421 cJ5_inflateIfNeededFor_a7421 2 none (mh_rmc 1 0 0) (P ++ ([.inl (7, [.inr (some 48), .inl 0, .inl 0, .inl 0]), .inr (2, 16, mh_n), .inr (2, 60, mh_n)] : List mh_C)) I L [.ref 46, .ref 1003] (mh_ret none (P ++ ([.inl (7, [.inr (some 48), .inl 0, .inl 0, .inl 0]), .inr (2, 16, mh_n), .inr (2, 60, mh_n)] : List mh_C)) I L) := by
  refine mh_ofW (ini := false) RJ5 rfl (by decide) (fun h => by cases h) (Nat.le_of_ble_eq_true rfl) ?_
  generalize hn0 : (P ++ ([.inl (7, [.inr (some 48), .inl 0, .inl 0, .inl 0]), .inr (2, 16, mh_n), .inr (2, 60, mh_n)] : List mh_C)).length = n0
  replace hn0 : n0 = 49 := by rw [← hn0, sx_ln hP]; rfl
  show mh_W RJ5 cJ5_inflateIfNeededFor_a7421 2 none false (mh_rmc 1 0 0) n0 0 0 mh_noX (mh_ret none (P ++ ([.inl (7, [.inr (some 48), .inl 0, .inl 0, .inl 0]), .inr (2, 16, mh_n), .inr (2, 60, mh_n)] : List mh_C)) I L) 0 (P ++ ([.inl (7, [.inr (some 48), .inl 0, .inl 0, .inl 0]), .inr (2, 16, mh_n), .inr (2, 60, mh_n)] : List mh_C)) I L 0 [(0, .ref 46), (1, .ref 1003)] []
  refine mw_getsC wd_471 dJ5_inflateIfNeededFor_a7421_0 ?_
  refine mw_if_eq (tgt := 21) dJ5_inflateIfNeededFor_a7421_3 (by decide) (fun hc => absurd hc (by decide)) (fun hc => ?_)
  refine mw_aload_n dJ5_inflateIfNeededFor_a7421_6 0 rfl ?_
  refine mw_geti (fs := [.inr (some 48), .inl 0, .inl 0, .inl 0]) gf_J5_22 dJ5_inflateIfNeededFor_a7421_7 (sx_at hP (k := 0) rfl rfl) rfl ?_
  refine mw_nmi (v := (0 : Int32)) (show (I) 46 1 = (0 : Int32) from h46_1) ?_
  refine mw_aload_n dJ5_inflateIfNeededFor_a7421_10 1 rfl ?_
  refine mwx_t (Rc := mh_rm 0) (i := 3) (by decide) cv_J5_40 wd_302 dJ5_inflateIfNeededFor_a7421_11 [] [.ref 1003, .int (0 : Int32)] rfl rfl rfl (t_J0_coder_7d493 (o := 3) (res := (0 : Int32)) (by decide) (by decide +kernel)) ⟨Nat.le_of_ble_eq_true rfl, Nat.le_of_ble_eq_true rfl⟩ (Nat.le_of_ble_eq_true rfl) ⟨sx_c hP hn0 (Nat.le_of_ble_eq_true rfl), Nat.le_of_ble_eq_true rfl⟩ rfl ?_
  refine mw_icmp_eq (tgt := 21) dJ5_inflateIfNeededFor_a7421_14 (by decide) (fun hc => ?_) (fun hc => absurd (by decide) hc)
  exact mw_vret dJ5_inflateIfNeededFor_a7421_21 rfl (sx_c0 hP hn0 (Nat.le_of_ble_eq_true rfl)) (Nat.le_of_ble_eq_true rfl) mh_ret_rfl
set_option maxHeartbeats 400000 in
set_option maxRecDepth 100000 in
theorem t_sb23_J0_getBytes_840e7 {P : List mh_C} (hP : P.length = 46) {I : mh_I} {L : mh_L}  : mh_CT yJ0_getBytes_840e7 cJ0_getBytes_840e7 4 none (mh_rmc 1 0 0) (P ++ ([.inl (7, [.inr (some 48), .inl 0, .inl 0, .inl 0]), .inr (2, 16, mh_n), .inr (2, 60, mh_n)] : List mh_C)) I L [.ref 1003, .ref 48, .int (10 : Int32), .int (0 : Int32)] (mh_ret none (P ++ ([.inl (7, [.inr (some 48), .inl 0, .inl 0, .inl 0]), .inr (2, 16, mh_n), .inr (2, 60, mh_n)] : List mh_C)) (mh_ct I 3 48 0 10 50) L) := by
  refine mh_ofW (ini := false) RJ0 rfl (by decide) (fun h => by cases h) (Nat.le_of_ble_eq_true rfl) ?_
  generalize hn0 : (P ++ ([.inl (7, [.inr (some 48), .inl 0, .inl 0, .inl 0]), .inr (2, 16, mh_n), .inr (2, 60, mh_n)] : List mh_C)).length = n0
  replace hn0 : n0 = 49 := by rw [← hn0, sx_ln hP]; rfl
  show mh_W RJ0 cJ0_getBytes_840e7 4 none false (mh_rmc 1 0 0) n0 0 0 mh_noX (mh_ret none (P ++ ([.inl (7, [.inr (some 48), .inl 0, .inl 0, .inl 0]), .inr (2, 16, mh_n), .inr (2, 60, mh_n)] : List mh_C)) (mh_ct I 3 48 0 10 50) L) 0 (P ++ ([.inl (7, [.inr (some 48), .inl 0, .inl 0, .inl 0]), .inr (2, 16, mh_n), .inr (2, 60, mh_n)] : List mh_C)) I L 0 [(0, .ref 1003), (1, .ref 48), (2, .int (10 : Int32)), (3, .int (0 : Int32))] []
  refine mw_aload_n dJ0_getBytes_840e7_0 0 rfl ?_
  refine mwx_t (Rc := mh_rm 0) (i := 3) (by decide) cv_J0_335 wd_302 dJ0_getBytes_840e7_1 [] [.ref 1003] rfl rfl rfl (t_J0_coder_7d493 (o := 3) (res := (0 : Int32)) (by decide) (by decide +kernel)) ⟨Nat.le_of_ble_eq_true rfl, Nat.le_of_ble_eq_true rfl⟩ (Nat.le_of_ble_eq_true rfl) ⟨sx_c hP hn0 (Nat.le_of_ble_eq_true rfl), Nat.le_of_ble_eq_true rfl⟩ rfl ?_
  refine mw_iload_n dJ0_getBytes_840e7_4 3 rfl ?_
  refine mw_icmp_ne (tgt := 28) dJ0_getBytes_840e7_5 (by decide) (fun hc => absurd (by decide) hc) (fun hc => ?_)
  refine mw_aload_n dJ0_getBytes_840e7_8 0 rfl ?_
  refine mw_strv (i := 3) (by decide) wd_663 dJ0_getBytes_840e7_9 ?_
  refine mw_iconst (v := 0) dJ0_getBytes_840e7_12 (by decide) ?_
  refine mw_aload_n dJ0_getBytes_840e7_13 1 rfl ?_
  refine mw_iload_n dJ0_getBytes_840e7_14 2 rfl ?_
  refine mw_iload_n dJ0_getBytes_840e7_15 3 rfl ?_
  refine mw_ishl dJ0_getBytes_840e7_16 ?_
  refine mw_nmi (v := (10 : Int32)) (by decide) ?_
  refine mw_aload_n dJ0_getBytes_840e7_17 0 rfl ?_
  refine mw_strv (i := 3) (by decide) wd_663 dJ0_getBytes_840e7_18 ?_
  refine mw_blen (i := 3) (by decide) dJ0_getBytes_840e7_21 ?_
  refine mw_nmi (v := (50 : Int32)) (by decide +kernel) ?_
  refine mwx_copyt (i := 3) (sp' := 0) (dp' := 10) (n' := 50) (by decide) wd_588 dJ0_getBytes_840e7_22 (sx_at hP (k := 2) rfl rfl) (by decide) (by decide) (by decide) (by decide +kernel) (by decide) (by decide) (by decide) (by decide) (fun k _ => sb_fS3 _) ⟨wd_534, wd_533, wd_16⟩ ⟨by decide, by decide⟩ ?_
  refine mw_goto (tgt := 43) dJ0_getBytes_840e7_25 (by decide) ?_
  exact mw_vret dJ0_getBytes_840e7_43 rfl (sx_c0 hP hn0 (Nat.le_of_ble_eq_true rfl)) (Nat.le_of_ble_eq_true rfl) mh_ret_rfl
set_option maxHeartbeats 400000 in
set_option maxRecDepth 100000 in
theorem t_sb21_J5_putStringAt_47b60 {P : List mh_C} (hP : P.length = 46) {I : mh_I} {L : mh_L}  (h46_1 : I 46 1 = (0 : Int32)) : mh_CT yJ5_putStringAt_47b60 cJ5_putStringAt_47b60 3 none (mh_rmc 2 0 0) (P ++ ([.inl (7, [.inr (some 48), .inl 0, .inl 0, .inl 0]), .inr (2, 16, mh_n), .inr (2, 60, mh_n)] : List mh_C)) I L [.ref 46, .int (10 : Int32), .ref 1003] (mh_ret none (P ++ ([.inl (7, [.inr (some 48), .inl 0, .inl 0, .inl 0]), .inr (2, 16, mh_n), .inr (2, 60, mh_n)] : List mh_C)) (mh_ct I 3 48 0 10 50) L) := by
  refine mh_ofW (ini := false) RJ5 rfl (by decide) (fun h => by cases h) (Nat.le_of_ble_eq_true rfl) ?_
  generalize hn0 : (P ++ ([.inl (7, [.inr (some 48), .inl 0, .inl 0, .inl 0]), .inr (2, 16, mh_n), .inr (2, 60, mh_n)] : List mh_C)).length = n0
  replace hn0 : n0 = 49 := by rw [← hn0, sx_ln hP]; rfl
  show mh_W RJ5 cJ5_putStringAt_47b60 3 none false (mh_rmc 2 0 0) n0 0 0 mh_noX (mh_ret none (P ++ ([.inl (7, [.inr (some 48), .inl 0, .inl 0, .inl 0]), .inr (2, 16, mh_n), .inr (2, 60, mh_n)] : List mh_C)) (mh_ct I 3 48 0 10 50) L) 0 (P ++ ([.inl (7, [.inr (some 48), .inl 0, .inl 0, .inl 0]), .inr (2, 16, mh_n), .inr (2, 60, mh_n)] : List mh_C)) I L 0 [(0, .ref 46), (1, .int (10 : Int32)), (2, .ref 1003)] []
  refine mw_aload_n dJ5_putStringAt_47b60_0 0 rfl ?_
  refine mw_aload_n dJ5_putStringAt_47b60_1 2 rfl ?_
  refine mwx_vc (Rc := mh_rmc 1 0 0) (ci := 7) (fs := [.inr (some 48), .inl 0, .inl 0, .inl 0]) (T := TJ4) (N := 4) cC_J5_397 wd_563 dJ5_putStringAt_47b60_2 [.ref 1003] [.ref 1003, .ref 46] rfl rfl (sx_at hP (k := 0) rfl rfl) rfl (t_sb22_J5_inflateIfNeededFor_a7421 hP (show (I) 46 1 = (0 : Int32) from h46_1)) ⟨Nat.le_of_ble_eq_true rfl, Nat.le_of_ble_eq_true rfl⟩ (Nat.le_of_ble_eq_true rfl) ⟨sx_c hP hn0 (Nat.le_of_ble_eq_true rfl), Nat.le_of_ble_eq_true rfl⟩ (sx_l hP rfl) ?_
  refine mw_conv (slots' := 0) (sh' := (P ++ ([.inl (7, [.inr (some 48), .inl 0, .inl 0, .inl 0]), .inr (2, 16, mh_n), .inr (2, 60, mh_n)] : List mh_C))) (by decide) rfl ?_
  refine mw_aload_n dJ5_putStringAt_47b60_5 2 rfl ?_
  refine mw_aload_n dJ5_putStringAt_47b60_6 0 rfl ?_
  refine mw_getr (b := 48) (fs := [.inr (some 48), .inl 0, .inl 0, .inl 0]) gf_J5_15 dJ5_putStringAt_47b60_7 (sx_at hP (k := 0) rfl rfl) rfl ?_
  refine mw_iload_n dJ5_putStringAt_47b60_10 1 rfl ?_
  refine mw_aload_n dJ5_putStringAt_47b60_11 0 rfl ?_
  refine mw_geti (fs := [.inr (some 48), .inl 0, .inl 0, .inl 0]) gf_J5_22 dJ5_putStringAt_47b60_12 (sx_at hP (k := 0) rfl rfl) rfl ?_
  refine mw_nmi (v := (0 : Int32)) (show (I) 46 1 = (0 : Int32) from h46_1) ?_
  refine mwx_t (Rc := mh_rmc 1 0 0) (i := 3) (by decide) cv_J5_399 wd_587 dJ5_putStringAt_47b60_15 [.ref 48, .int (10 : Int32), .int (0 : Int32)] [.int (0 : Int32), .int (10 : Int32), .ref 48, .ref 1003] rfl rfl rfl (t_sb23_J0_getBytes_840e7 hP ) ⟨Nat.le_of_ble_eq_true rfl, Nat.le_of_ble_eq_true rfl⟩ (Nat.le_of_ble_eq_true rfl) ⟨sx_c hP hn0 (Nat.le_of_ble_eq_true rfl), Nat.le_of_ble_eq_true rfl⟩ (sx_l hP rfl) ?_
  refine mw_conv (slots' := 0) (sh' := (P ++ ([.inl (7, [.inr (some 48), .inl 0, .inl 0, .inl 0]), .inr (2, 16, mh_n), .inr (2, 60, mh_n)] : List mh_C))) (by decide) rfl ?_
  exact mw_vret dJ5_putStringAt_47b60_18 rfl (sx_c0 hP hn0 (Nat.le_of_ble_eq_true rfl)) (Nat.le_of_ble_eq_true rfl) mh_ret_rfl
set_option maxHeartbeats 400000 in
set_option maxRecDepth 100000 in
theorem t_sb16_J5_append_cf1ce {P : List mh_C} (hP : P.length = 46) {I : mh_I} {L : mh_L}  (h46_1 : I 46 1 = (0 : Int32)) (h46_3 : I 46 3 = (10 : Int32)) (hf47 : sb_Fit (I 47)) : mh_CT yJ5_append_cf1ce cJ5_append_cf1ce 3 (some (.object RJ5)) (mh_rmc 4 1 60) (P ++ ([.inl (7, [.inr (some 47), .inl 0, .inl 0, .inl 0]), .inr (2, 16, mh_n)] : List mh_C)) I L [.ref 46, .ref 1003] (mh_ret (some (.ref 46)) (P ++ ([.inl (7, [.inr (some 48), .inl 0, .inl 0, .inl 0]), .inr (2, 16, mh_n), .inr (2, 60, mh_n)] : List mh_C)) (mh_u (mh_ct (mh_cpy (mh_z I 48) 47 48 0 0 16) 3 48 0 10 50) 46 3 (60 : Int32)) (mh_zl L 48)) := by
  refine mh_ofW (ini := false) RJ5 rfl (by decide) (fun h => by cases h) (Nat.le_of_ble_eq_true rfl) ?_
  generalize hn0 : (P ++ ([.inl (7, [.inr (some 47), .inl 0, .inl 0, .inl 0]), .inr (2, 16, mh_n)] : List mh_C)).length = n0
  replace hn0 : n0 = 48 := by rw [← hn0, sx_ln hP]; rfl
  show mh_W RJ5 cJ5_append_cf1ce 3 (some (.object RJ5)) false (mh_rmc 4 1 60) n0 1 60 mh_noX (mh_ret (some (.ref 46)) (P ++ ([.inl (7, [.inr (some 48), .inl 0, .inl 0, .inl 0]), .inr (2, 16, mh_n), .inr (2, 60, mh_n)] : List mh_C)) (mh_u (mh_ct (mh_cpy (mh_z I 48) 47 48 0 0 16) 3 48 0 10 50) 46 3 (60 : Int32)) (mh_zl L 48)) 0 (P ++ ([.inl (7, [.inr (some 47), .inl 0, .inl 0, .inl 0]), .inr (2, 16, mh_n)] : List mh_C)) I L 0 [(0, .ref 46), (1, .ref 1003)] []
  refine mw_aload_n dJ5_append_cf1ce_0 1 rfl ?_
  refine mw_ifnn (tgt := 9) dJ5_append_cf1ce_1 (by decide) ?_
  refine mw_aload_n dJ5_append_cf1ce_9 1 rfl ?_
  refine mwx_t (Rc := mh_rm 1) (i := 3) (by decide) cv_J5_32 wd_298 dJ5_append_cf1ce_10 [] [.ref 1003] rfl rfl rfl (t_J0_length_8abf5 (o := 3) (res := (50 : Int32)) (by decide) (by decide +kernel)) ⟨Nat.le_of_ble_eq_true rfl, Nat.le_of_ble_eq_true rfl⟩ (Nat.le_of_ble_eq_true rfl) ⟨sx_c hP hn0 (Nat.le_of_ble_eq_true rfl), Nat.le_of_ble_eq_true rfl⟩ rfl ?_
  refine mw_istore_n dJ5_append_cf1ce_13 (by decide) rfl ?_
  refine mw_aload_n dJ5_append_cf1ce_14 1 rfl ?_
  refine mw_aload_n dJ5_append_cf1ce_15 1 rfl ?_
  refine mw_geti (fs := [.inr (some 47), .inl 0, .inl 0, .inl 0]) gf_J5_79 dJ5_append_cf1ce_16 (sx_at hP (k := 0) rfl rfl) rfl ?_
  refine mw_nmi (v := (10 : Int32)) (show (I) 46 3 = (10 : Int32) from h46_3) ?_
  refine mw_iload_n dJ5_append_cf1ce_19 0 rfl ?_
  refine mw_iadd dJ5_append_cf1ce_20 ?_
  refine mw_nmi (v := (60 : Int32)) (by decide) ?_
  refine mwx_vc (Rc := mh_rmc 3 1 60) (ci := 7) (fs := [.inr (some 47), .inl 0, .inl 0, .inl 0]) (T := TJ4) (N := 4) cC_J5_100 wd_507 dJ5_append_cf1ce_21 [.int (60 : Int32)] [.int (60 : Int32), .ref 46] rfl rfl (sx_at hP (k := 0) rfl rfl) rfl (t_sb17_J5_ensureCapacityInternal_d00df hP (show (I) 46 1 = (0 : Int32) from h46_1) (show sb_Fit ((I) 47) from hf47)) ⟨Nat.le_of_ble_eq_true rfl, Nat.le_of_ble_eq_true rfl⟩ (Nat.le_of_ble_eq_true rfl) ⟨sx_c hP hn0 (Nat.le_of_ble_eq_true rfl), Nat.le_of_ble_eq_true rfl⟩ (sx_l hP rfl) ?_
  refine mw_conv (slots' := 60) (sh' := (P ++ ([.inl (7, [.inr (some 48), .inl 0, .inl 0, .inl 0]), .inr (2, 16, mh_n), .inr (2, 60, mh_n)] : List mh_C))) (by decide) rfl ?_
  refine mw_aload_n dJ5_append_cf1ce_24 1 rfl ?_
  refine mw_aload_n dJ5_append_cf1ce_25 1 rfl ?_
  refine mw_geti (fs := [.inr (some 48), .inl 0, .inl 0, .inl 0]) gf_J5_79 dJ5_append_cf1ce_26 (sx_at hP (k := 0) rfl rfl) rfl ?_
  refine mw_nmi (v := (10 : Int32)) (show ((mh_cpy (mh_z I 48) 47 48 0 0 16)) 46 3 = (10 : Int32) from h46_3) ?_
  refine mw_aload_n dJ5_append_cf1ce_29 2 rfl ?_
  refine mwx_vc (Rc := mh_rmc 2 0 0) (ci := 7) (fs := [.inr (some 48), .inl 0, .inl 0, .inl 0]) (T := TJ4) (N := 4) cC_J5_208 wd_559 dJ5_append_cf1ce_30 [.int (10 : Int32), .ref 1003] [.ref 1003, .int (10 : Int32), .ref 46] rfl rfl (sx_at hP (k := 0) rfl rfl) rfl (t_sb21_J5_putStringAt_47b60 hP (show ((mh_cpy (mh_z I 48) 47 48 0 0 16)) 46 1 = (0 : Int32) from h46_1)) ⟨Nat.le_of_ble_eq_true rfl, Nat.le_of_ble_eq_true rfl⟩ (Nat.le_of_ble_eq_true rfl) ⟨sx_c hP hn0 (Nat.le_of_ble_eq_true rfl), Nat.le_of_ble_eq_true rfl⟩ (sx_l hP rfl) ?_
  refine mw_conv (slots' := 60) (sh' := (P ++ ([.inl (7, [.inr (some 48), .inl 0, .inl 0, .inl 0]), .inr (2, 16, mh_n), .inr (2, 60, mh_n)] : List mh_C))) (by decide) rfl ?_
  refine mw_aload_n dJ5_append_cf1ce_33 1 rfl ?_
  refine mw_dup dJ5_append_cf1ce_34 rfl ?_
  refine mw_geti (fs := [.inr (some 48), .inl 0, .inl 0, .inl 0]) gf_J5_79 dJ5_append_cf1ce_35 (sx_at hP (k := 0) rfl rfl) rfl ?_
  refine mw_nmi (v := (10 : Int32)) (show ((mh_ct (mh_cpy (mh_z I 48) 47 48 0 0 16) 3 48 0 10 50)) 46 3 = (10 : Int32) from h46_3) ?_
  refine mw_iload_n dJ5_append_cf1ce_38 0 rfl ?_
  refine mw_iadd dJ5_append_cf1ce_39 ?_
  refine mw_nmi (v := (60 : Int32)) (by decide) ?_
  refine mw_puti (fs := [.inr (some 48), .inl 0, .inl 0, .inl 0]) pf_J5_79 (fun h => by cases h) rfl rfl dJ5_append_cf1ce_40 (sx_at hP (k := 0) rfl rfl) rfl ?_
  refine mw_aload_n dJ5_append_cf1ce_43 1 rfl ?_
  exact mw_aret dJ5_append_cf1ce_44 rfl (Or.inl ⟨_, rfl⟩) (sx_c0 hP hn0 (Nat.le_of_ble_eq_true rfl)) (Nat.le_of_ble_eq_true rfl) mh_ret_rfl
set_option maxHeartbeats 400000 in
set_option maxRecDepth 100000 in
theorem t_sb15_J4_append_15ec4 {P : List mh_C} (hP : P.length = 46) {I : mh_I} {L : mh_L}  (h46_1 : I 46 1 = (0 : Int32)) (h46_3 : I 46 3 = (10 : Int32)) (hf47 : sb_Fit (I 47)) : mh_CT yJ4_append_15ec4 cJ4_append_15ec4 2 (some (.object RJ4)) (mh_rmc 5 1 60) (P ++ ([.inl (7, [.inr (some 47), .inl 0, .inl 0, .inl 0]), .inr (2, 16, mh_n)] : List mh_C)) I L [.ref 46, .ref 1003] (mh_ret (some (.ref 46)) (P ++ ([.inl (7, [.inr (some 48), .inl 0, .inl 0, .inl 0]), .inr (2, 16, mh_n), .inr (2, 60, mh_n)] : List mh_C)) (mh_u (mh_ct (mh_cpy (mh_z I 48) 47 48 0 0 16) 3 48 0 10 50) 46 3 (60 : Int32)) (mh_zl L 48)) := by
  refine mh_ofW (ini := false) RJ4 rfl (by decide) (fun h => by cases h) (Nat.le_of_ble_eq_true rfl) ?_
  generalize hn0 : (P ++ ([.inl (7, [.inr (some 47), .inl 0, .inl 0, .inl 0]), .inr (2, 16, mh_n)] : List mh_C)).length = n0
  replace hn0 : n0 = 48 := by rw [← hn0, sx_ln hP]; rfl
  show mh_W RJ4 cJ4_append_15ec4 2 (some (.object RJ4)) false (mh_rmc 5 1 60) n0 1 60 mh_noX (mh_ret (some (.ref 46)) (P ++ ([.inl (7, [.inr (some 48), .inl 0, .inl 0, .inl 0]), .inr (2, 16, mh_n), .inr (2, 60, mh_n)] : List mh_C)) (mh_u (mh_ct (mh_cpy (mh_z I 48) 47 48 0 0 16) 3 48 0 10 50) 46 3 (60 : Int32)) (mh_zl L 48)) 0 (P ++ ([.inl (7, [.inr (some 47), .inl 0, .inl 0, .inl 0]), .inr (2, 16, mh_n)] : List mh_C)) I L 0 [(0, .ref 46), (1, .ref 1003)] []
  refine mw_aload_n dJ4_append_15ec4_0 0 rfl ?_
  refine mw_aload_n dJ4_append_15ec4_1 1 rfl ?_
  refine mwx_su (Rc := mh_rmc 4 1 60) (ci := 7) (fs := [.inr (some 47), .inl 0, .inl 0, .inl 0]) (T := TJ4) (N := 4) cS_J4_29 wd_499 dJ4_append_15ec4_2 [.ref 1003] [.ref 1003, .ref 46] rfl rfl (sx_at hP (k := 0) rfl rfl) rfl (t_sb16_J5_append_cf1ce hP (show (I) 46 1 = (0 : Int32) from h46_1) (show (I) 46 3 = (10 : Int32) from h46_3) (show sb_Fit ((I) 47) from hf47)) ⟨Nat.le_of_ble_eq_true rfl, Nat.le_of_ble_eq_true rfl⟩ (Nat.le_of_ble_eq_true rfl) ⟨sx_c hP hn0 (Nat.le_of_ble_eq_true rfl), Nat.le_of_ble_eq_true rfl⟩ (sx_l hP rfl) ?_
  refine mw_conv (slots' := 60) (sh' := (P ++ ([.inl (7, [.inr (some 48), .inl 0, .inl 0, .inl 0]), .inr (2, 16, mh_n), .inr (2, 60, mh_n)] : List mh_C))) (by decide) rfl ?_
  refine mw_pop dJ4_append_15ec4_5 rfl ?_
  refine mw_aload_n dJ4_append_15ec4_6 0 rfl ?_
  exact mw_aret dJ4_append_15ec4_7 rfl (Or.inl ⟨_, rfl⟩) (sx_c0 hP hn0 (Nat.le_of_ble_eq_true rfl)) (Nat.le_of_ble_eq_true rfl) mh_ret_rfl
set_option maxHeartbeats 400000 in
set_option maxRecDepth 100000 in
theorem t_sb26_J6_stringSize_0f7a4 {P : List mh_C} (hP : P.length = 46) {I : mh_I} {L : mh_L} {d : Nat}  (hd : d < 8) : mh_CT yJ6_stringSize_0f7a4 cJ6_stringSize_0f7a4 4 (some .int) (mh_rmc 0 0 0) (P ++ ([.inl (7, [.inr (some 48), .inl 0, .inl 0, .inl 0]), .inr (2, 16, mh_n), .inr (2, 60, mh_n)] : List mh_C)) I L [.int (nI d)] (mh_ret (some (.int (1 : Int32))) (P ++ ([.inl (7, [.inr (some 48), .inl 0, .inl 0, .inl 0]), .inr (2, 16, mh_n), .inr (2, 60, mh_n)] : List mh_C)) I L) := by
  refine mh_ofW (ini := false) RJ6 rfl (by decide) (fun h => by cases h) (Nat.le_of_ble_eq_true rfl) ?_
  generalize hn0 : (P ++ ([.inl (7, [.inr (some 48), .inl 0, .inl 0, .inl 0]), .inr (2, 16, mh_n), .inr (2, 60, mh_n)] : List mh_C)).length = n0
  replace hn0 : n0 = 49 := by rw [← hn0, sx_ln hP]; rfl
  show mh_W RJ6 cJ6_stringSize_0f7a4 4 (some .int) false (mh_rmc 0 0 0) n0 0 0 mh_noX (mh_ret (some (.int (1 : Int32))) (P ++ ([.inl (7, [.inr (some 48), .inl 0, .inl 0, .inl 0]), .inr (2, 16, mh_n), .inr (2, 60, mh_n)] : List mh_C)) I L) 0 (P ++ ([.inl (7, [.inr (some 48), .inl 0, .inl 0, .inl 0]), .inr (2, 16, mh_n), .inr (2, 60, mh_n)] : List mh_C)) I L 0 [(0, .int (nI d))] []
  refine mw_iconst (v := 1) dJ6_stringSize_0f7a4_0 (by decide) ?_
  refine mw_istore_n dJ6_stringSize_0f7a4_1 (by decide) rfl ?_
  refine mw_iload_n dJ6_stringSize_0f7a4_2 1 rfl ?_
  refine mw_if_lt (tgt := 11) dJ6_stringSize_0f7a4_3 (by decide) (fun hc => absurd hc ((by decide : ∀ d : Nat, d < 8 → ¬ ((nI d) < 0)) d hd)) (fun hc => ?_)
  refine mw_iconst (v := 0) dJ6_stringSize_0f7a4_6 (by decide) ?_
  refine mw_istore_n dJ6_stringSize_0f7a4_7 (by decide) rfl ?_
  refine mw_iload_n dJ6_stringSize_0f7a4_8 1 rfl ?_
  refine mw_ineg dJ6_stringSize_0f7a4_9 ?_
  refine mw_istore_n dJ6_stringSize_0f7a4_10 (by decide) rfl ?_
  refine mw_bipush (v := -10) dJ6_stringSize_0f7a4_11 (by decide) ?_
  refine mw_istore_n dJ6_stringSize_0f7a4_13 (by decide) rfl ?_
  refine mw_iconst (v := 1) dJ6_stringSize_0f7a4_14 (by decide) ?_
  refine mw_istore_n dJ6_stringSize_0f7a4_15 (by decide) rfl ?_
  refine mw_iload_n dJ6_stringSize_0f7a4_16 0 rfl ?_
  refine mw_bipush (v := 10) dJ6_stringSize_0f7a4_17 (by decide) ?_
  refine mw_icmp_ge (tgt := 42) dJ6_stringSize_0f7a4_19 (by decide) (fun hc => absurd hc (by decide)) (fun hc => ?_)
  refine mw_iload_n dJ6_stringSize_0f7a4_22 2 rfl ?_
  refine mw_iload_n dJ6_stringSize_0f7a4_23 1 rfl ?_
  refine mw_icmp_le (tgt := 31) dJ6_stringSize_0f7a4_24 (by decide) (fun hc => absurd hc ((by decide : ∀ d : Nat, d < 8 → ¬ ((-(nI d)) ≤ (-10 : Int32))) d hd)) (fun hc => ?_)
  refine mw_iload_n dJ6_stringSize_0f7a4_27 0 rfl ?_
  refine mw_iload_n dJ6_stringSize_0f7a4_28 3 rfl ?_
  refine mw_iadd dJ6_stringSize_0f7a4_29 ?_
  refine mw_nmi (v := (1 : Int32)) (by decide) ?_
  exact mw_iret dJ6_stringSize_0f7a4_30 rfl rfl (sx_c0 hP hn0 (Nat.le_of_ble_eq_true rfl)) (Nat.le_of_ble_eq_true rfl) mh_ret_rfl
set_option maxHeartbeats 400000 in
set_option maxRecDepth 100000 in
theorem t_sb29_J8_newLength_cabcc {P : List mh_C} (hP : P.length = 46) {I : mh_I} {L : mh_L}  : mh_CT yJ8_newLength_cabcc cJ8_newLength_cabcc 4 (some .int) (mh_rmc 1 0 0) (P ++ ([.inl (7, [.inr (some 48), .inl 0, .inl 0, .inl 0]), .inr (2, 16, mh_n), .inr (2, 60, mh_n)] : List mh_C)) I L [.int (60 : Int32), .int (1 : Int32), .int (62 : Int32)] (mh_ret (some (.int (122 : Int32))) (P ++ ([.inl (7, [.inr (some 48), .inl 0, .inl 0, .inl 0]), .inr (2, 16, mh_n), .inr (2, 60, mh_n)] : List mh_C)) I L) := by
  refine mh_ofW (ini := false) RJ8 rfl (by decide) (fun h => by cases h) (Nat.le_of_ble_eq_true rfl) ?_
  generalize hn0 : (P ++ ([.inl (7, [.inr (some 48), .inl 0, .inl 0, .inl 0]), .inr (2, 16, mh_n), .inr (2, 60, mh_n)] : List mh_C)).length = n0
  replace hn0 : n0 = 49 := by rw [← hn0, sx_ln hP]; rfl
  show mh_W RJ8 cJ8_newLength_cabcc 4 (some .int) false (mh_rmc 1 0 0) n0 0 0 mh_noX (mh_ret (some (.int (122 : Int32))) (P ++ ([.inl (7, [.inr (some 48), .inl 0, .inl 0, .inl 0]), .inr (2, 16, mh_n), .inr (2, 60, mh_n)] : List mh_C)) I L) 0 (P ++ ([.inl (7, [.inr (some 48), .inl 0, .inl 0, .inl 0]), .inr (2, 16, mh_n), .inr (2, 60, mh_n)] : List mh_C)) I L 0 [(0, .int (60 : Int32)), (1, .int (1 : Int32)), (2, .int (62 : Int32))] []
  refine mw_iload_n dJ8_newLength_cabcc_0 0 rfl ?_
  refine mw_iload_n dJ8_newLength_cabcc_1 1 rfl ?_
  refine mw_iload_n dJ8_newLength_cabcc_2 2 rfl ?_
  refine mwx_max wd_515 ⟨wd_80, wd_14, wd_81⟩ dJ8_newLength_cabcc_3 (by decide) (by decide) ⟨sx_c0 hP hn0 (Nat.le_of_ble_eq_true rfl), Nat.le_of_ble_eq_true rfl⟩ ?_
  refine mw_nmi (v := (62 : Int32)) (by decide) ?_
  refine mw_iadd dJ8_newLength_cabcc_6 ?_
  refine mw_nmi (v := (122 : Int32)) (by decide) ?_
  refine mw_istore_n dJ8_newLength_cabcc_7 (by decide) rfl ?_
  refine mw_iconst (v := 0) dJ8_newLength_cabcc_8 (by decide) ?_
  refine mw_iload_n dJ8_newLength_cabcc_9 0 rfl ?_
  refine mw_icmp_ge (tgt := 21) dJ8_newLength_cabcc_10 (by decide) (fun hc => absurd hc (by decide)) (fun hc => ?_)
  refine mw_iload_n dJ8_newLength_cabcc_13 0 rfl ?_
  refine mw_ldc dJ8_newLength_cabcc_14 wd_516 ?_
  refine mw_icmp_gt (tgt := 21) dJ8_newLength_cabcc_16 (by decide) (fun hc => absurd hc (by decide)) (fun hc => ?_)
  refine mw_iload_n dJ8_newLength_cabcc_19 0 rfl ?_
  exact mw_iret dJ8_newLength_cabcc_20 rfl rfl (sx_c0 hP hn0 (Nat.le_of_ble_eq_true rfl)) (Nat.le_of_ble_eq_true rfl) mh_ret_rfl
set_option maxHeartbeats 400000 in
set_option maxRecDepth 100000 in
theorem t_sb28_J5_newCapacity_0f7a4 {P : List mh_C} (hP : P.length = 46) {I : mh_I} {L : mh_L}  (h46_1 : I 46 1 = (0 : Int32)) : mh_CT yJ5_newCapacity_0f7a4 cJ5_newCapacity_0f7a4 6 (some .int) (mh_rmc 2 0 0) (P ++ ([.inl (7, [.inr (some 48), .inl 0, .inl 0, .inl 0]), .inr (2, 16, mh_n), .inr (2, 60, mh_n)] : List mh_C)) I L [.ref 46, .int (61 : Int32)] (mh_ret (some (.int (122 : Int32))) (P ++ ([.inl (7, [.inr (some 48), .inl 0, .inl 0, .inl 0]), .inr (2, 16, mh_n), .inr (2, 60, mh_n)] : List mh_C)) I L) := by
  refine mh_ofW (ini := false) RJ5 rfl (by decide) (fun h => by cases h) (Nat.le_of_ble_eq_true rfl) ?_
  generalize hn0 : (P ++ ([.inl (7, [.inr (some 48), .inl 0, .inl 0, .inl 0]), .inr (2, 16, mh_n), .inr (2, 60, mh_n)] : List mh_C)).length = n0
  replace hn0 : n0 = 49 := by rw [← hn0, sx_ln hP]; rfl
  show mh_W RJ5 cJ5_newCapacity_0f7a4 6 (some .int) false (mh_rmc 2 0 0) n0 0 0 mh_noX (mh_ret (some (.int (122 : Int32))) (P ++ ([.inl (7, [.inr (some 48), .inl 0, .inl 0, .inl 0]), .inr (2, 16, mh_n), .inr (2, 60, mh_n)] : List mh_C)) I L) 0 (P ++ ([.inl (7, [.inr (some 48), .inl 0, .inl 0, .inl 0]), .inr (2, 16, mh_n), .inr (2, 60, mh_n)] : List mh_C)) I L 0 [(0, .ref 46), (1, .int (61 : Int32))] []
  refine mw_aload_n dJ5_newCapacity_0f7a4_0 0 rfl ?_
  refine mw_getr (b := 48) (fs := [.inr (some 48), .inl 0, .inl 0, .inl 0]) gf_J5_15 dJ5_newCapacity_0f7a4_1 (sx_at hP (k := 0) rfl rfl) rfl ?_
  refine mw_alen8 (v := (60 : Int32)) dJ5_newCapacity_0f7a4_4 (sx_at hP (k := 2) rfl rfl) rfl ?_
  refine mw_istore_n dJ5_newCapacity_0f7a4_5 (by decide) rfl ?_
  refine mw_iload_n dJ5_newCapacity_0f7a4_6 2 rfl ?_
  refine mw_aload_n dJ5_newCapacity_0f7a4_7 1 rfl ?_
  refine mw_geti (fs := [.inr (some 48), .inl 0, .inl 0, .inl 0]) gf_J5_22 dJ5_newCapacity_0f7a4_8 (sx_at hP (k := 0) rfl rfl) rfl ?_
  refine mw_nmi (v := (0 : Int32)) (show (I) 46 1 = (0 : Int32) from h46_1) ?_
  refine mw_ishl dJ5_newCapacity_0f7a4_11 ?_
  refine mw_nmi (v := (61 : Int32)) (by decide) ?_
  refine mw_istore_n dJ5_newCapacity_0f7a4_12 (by decide) rfl ?_
  refine mw_iload_n dJ5_newCapacity_0f7a4_13 0 rfl ?_
  refine mw_iload_n dJ5_newCapacity_0f7a4_14 1 rfl ?_
  refine mw_isub dJ5_newCapacity_0f7a4_15 ?_
  refine mw_nmi (v := (1 : Int32)) (by decide) ?_
  refine mw_istore dJ5_newCapacity_0f7a4_16 (by decide) rfl ?_
  refine mw_iload_n dJ5_newCapacity_0f7a4_18 2 rfl ?_
  refine mw_iload dJ5_newCapacity_0f7a4_19 0 rfl ?_
  refine mw_iload_n dJ5_newCapacity_0f7a4_21 2 rfl ?_
  refine mw_iconst (v := 2) dJ5_newCapacity_0f7a4_22 (by decide) ?_
  refine mw_aload_n dJ5_newCapacity_0f7a4_23 3 rfl ?_
  refine mw_geti (fs := [.inr (some 48), .inl 0, .inl 0, .inl 0]) gf_J5_22 dJ5_newCapacity_0f7a4_24 (sx_at hP (k := 0) rfl rfl) rfl ?_
  refine mw_nmi (v := (0 : Int32)) (show (I) 46 1 = (0 : Int32) from h46_1) ?_
  refine mw_ishl dJ5_newCapacity_0f7a4_27 ?_
  refine mw_nmi (v := (2 : Int32)) (by decide) ?_
  refine mw_iadd dJ5_newCapacity_0f7a4_28 ?_
  refine mw_nmi (v := (62 : Int32)) (by decide) ?_
  refine mwx_s (Rc := mh_rmc 1 0 0) cs_J5_114 wd_514 dJ5_newCapacity_0f7a4_29 [.int (60 : Int32), .int (1 : Int32), .int (62 : Int32)] [.int (62 : Int32), .int (1 : Int32), .int (60 : Int32)] rfl rfl (t_sb29_J8_newLength_cabcc hP ) ⟨Nat.le_of_ble_eq_true rfl, Nat.le_of_ble_eq_true rfl⟩ (Nat.le_of_ble_eq_true rfl) ⟨sx_c hP hn0 (Nat.le_of_ble_eq_true rfl), Nat.le_of_ble_eq_true rfl⟩ (sx_l hP rfl) ?_
  refine mw_conv (slots' := 0) (sh' := (P ++ ([.inl (7, [.inr (some 48), .inl 0, .inl 0, .inl 0]), .inr (2, 16, mh_n), .inr (2, 60, mh_n)] : List mh_C))) (by decide) rfl ?_
  refine mw_istore dJ5_newCapacity_0f7a4_32 (by decide) rfl ?_
  refine mw_iload dJ5_newCapacity_0f7a4_34 0 rfl ?_
  refine mw_ldc dJ5_newCapacity_0f7a4_36 wd_520 ?_
  refine mw_icmp_ne (tgt := 51) dJ5_newCapacity_0f7a4_38 (by decide) (fun hc => ?_) (fun hc => absurd hc (by decide))
  refine mw_iload dJ5_newCapacity_0f7a4_51 0 rfl ?_
  refine mw_aload_n dJ5_newCapacity_0f7a4_53 4 rfl ?_
  refine mw_geti (fs := [.inr (some 48), .inl 0, .inl 0, .inl 0]) gf_J5_22 dJ5_newCapacity_0f7a4_54 (sx_at hP (k := 0) rfl rfl) rfl ?_
  refine mw_nmi (v := (0 : Int32)) (show (I) 46 1 = (0 : Int32) from h46_1) ?_
  refine mw_ishr dJ5_newCapacity_0f7a4_57 ?_
  refine mw_nmi (v := (122 : Int32)) (by decide) ?_
  exact mw_iret dJ5_newCapacity_0f7a4_58 rfl rfl (sx_c0 hP hn0 (Nat.le_of_ble_eq_true rfl)) (Nat.le_of_ble_eq_true rfl) mh_ret_rfl
set_option maxHeartbeats 400000 in
set_option maxRecDepth 100000 in
theorem t_sb30_J7_copyOf_9075b {P : List mh_C} (hP : P.length = 46) {I : mh_I} {L : mh_L}  (hf48 : sb_Fit (I 48)) : mh_CT yJ7_copyOf_9075b cJ7_copyOf_9075b 3 (some (.array .byte)) (mh_rmc 1 1 122) (P ++ ([.inl (7, [.inr (some 48), .inl 0, .inl 0, .inl 0]), .inr (2, 16, mh_n), .inr (2, 60, mh_n)] : List mh_C)) I L [.ref 48, .int (122 : Int32)] (mh_ret (some (.ref 49)) (P ++ ([.inl (7, [.inr (some 48), .inl 0, .inl 0, .inl 0]), .inr (2, 16, mh_n), .inr (2, 60, mh_n), .inr (2, 122, mh_n)] : List mh_C)) (mh_cpy (mh_z I 49) 48 49 0 0 60) (mh_zl L 49)) := by
  refine mh_ofW (ini := false) RJ7 rfl (by decide) (fun h => by cases h) (Nat.le_of_ble_eq_true rfl) ?_
  generalize hn0 : (P ++ ([.inl (7, [.inr (some 48), .inl 0, .inl 0, .inl 0]), .inr (2, 16, mh_n), .inr (2, 60, mh_n)] : List mh_C)).length = n0
  replace hn0 : n0 = 49 := by rw [← hn0, sx_ln hP]; rfl
  show mh_W RJ7 cJ7_copyOf_9075b 3 (some (.array .byte)) false (mh_rmc 1 1 122) n0 1 122 mh_noX (mh_ret (some (.ref 49)) (P ++ ([.inl (7, [.inr (some 48), .inl 0, .inl 0, .inl 0]), .inr (2, 16, mh_n), .inr (2, 60, mh_n), .inr (2, 122, mh_n)] : List mh_C)) (mh_cpy (mh_z I 49) 48 49 0 0 60) (mh_zl L 49)) 0 (P ++ ([.inl (7, [.inr (some 48), .inl 0, .inl 0, .inl 0]), .inr (2, 16, mh_n), .inr (2, 60, mh_n)] : List mh_C)) I L 0 [(0, .ref 48), (1, .int (122 : Int32))] []
  refine mw_iload_n dJ7_copyOf_9075b_0 1 rfl ?_
  refine mw_aload_n dJ7_copyOf_9075b_1 0 rfl ?_
  refine mw_alen8 (v := (60 : Int32)) dJ7_copyOf_9075b_2 (sx_at hP (k := 2) rfl rfl) rfl ?_
  refine mw_icmp_ne (tgt := 14) dJ7_copyOf_9075b_3 (by decide) (fun hc => ?_) (fun hc => absurd hc (by decide))
  refine mw_iload_n dJ7_copyOf_9075b_14 1 rfl ?_
  refine mw_newaE (a := 49) (t := 2) (N := 122) (by rw [sx_ln hP]; rfl) (Or.inr (Or.inr ⟨rfl, rfl⟩)) wd_438 dJ7_copyOf_9075b_15 (by decide) (by decide) (by decide) (Nat.le_of_ble_eq_true rfl) ⟨by rw [hn0]; exact Nat.le_of_ble_eq_true rfl, Nat.le_of_ble_eq_true rfl⟩ ?_
  refine mw_conv (slots' := 122) (sh' := (P ++ ([.inl (7, [.inr (some 48), .inl 0, .inl 0, .inl 0]), .inr (2, 16, mh_n), .inr (2, 60, mh_n), .inr (2, 122, mh_n)] : List mh_C))) (by decide) (List.append_assoc _ _ _) ?_
  refine mw_astore_n dJ7_copyOf_9075b_17 (by decide) rfl ?_
  refine mw_aload_n dJ7_copyOf_9075b_18 1 rfl ?_
  refine mw_iconst (v := 0) dJ7_copyOf_9075b_19 (by decide) ?_
  refine mw_aload_n dJ7_copyOf_9075b_20 0 rfl ?_
  refine mw_iconst (v := 0) dJ7_copyOf_9075b_21 (by decide) ?_
  refine mw_aload_n dJ7_copyOf_9075b_22 1 rfl ?_
  refine mw_alen8 (v := (60 : Int32)) dJ7_copyOf_9075b_23 (sx_at hP (k := 2) rfl rfl) rfl ?_
  refine mw_iload_n dJ7_copyOf_9075b_24 2 rfl ?_
  refine mwx_min wd_531 ⟨wd_88, wd_14, wd_89⟩ dJ7_copyOf_9075b_25 (by decide) (by decide) ⟨sx_c0 hP hn0 (Nat.le_of_ble_eq_true rfl), Nat.le_of_ble_eq_true rfl⟩ ?_
  refine mw_nmi (v := (60 : Int32)) (by decide) ?_
  refine mwx_copy8 (sp' := 0) (dp' := 0) (n' := 60) wd_532 dJ7_copyOf_9075b_28 (sx_at hP (k := 2) rfl rfl) (sx_at hP (k := 3) rfl rfl) (by decide) (by decide) (by decide) (by decide) (by decide) (by decide) (by decide) (by decide) (fun k _ => (show sb_Fit (((mh_z I 49)) 48) from hf48) _) ⟨wd_534, wd_533, wd_16⟩ ⟨by decide, by decide⟩ ?_
  refine mw_aload_n dJ7_copyOf_9075b_31 0 rfl ?_
  exact mw_aret dJ7_copyOf_9075b_32 rfl (Or.inr ⟨_, rfl⟩) (sx_c0 hP hn0 (Nat.le_of_ble_eq_true rfl)) (Nat.le_of_ble_eq_true rfl) mh_ret_rfl
set_option maxHeartbeats 400000 in
set_option maxRecDepth 100000 in
theorem t_sb27_J5_ensureCapacityInternal_d00df {P : List mh_C} (hP : P.length = 46) {I : mh_I} {L : mh_L}  (h46_1 : I 46 1 = (0 : Int32)) (hf48 : sb_Fit (I 48)) : mh_CT yJ5_ensureCapacityInternal_d00df cJ5_ensureCapacityInternal_d00df 3 none (mh_rmc 3 1 122) (P ++ ([.inl (7, [.inr (some 48), .inl 0, .inl 0, .inl 0]), .inr (2, 16, mh_n), .inr (2, 60, mh_n)] : List mh_C)) I L [.ref 46, .int (61 : Int32)] (mh_ret none (P ++ ([.inl (7, [.inr (some 49), .inl 0, .inl 0, .inl 0]), .inr (2, 16, mh_n), .inr (2, 60, mh_n), .inr (2, 122, mh_n)] : List mh_C)) (mh_cpy (mh_z I 49) 48 49 0 0 60) (mh_zl L 49)) := by
  refine mh_ofW (ini := false) RJ5 rfl (by decide) (fun h => by cases h) (Nat.le_of_ble_eq_true rfl) ?_
  generalize hn0 : (P ++ ([.inl (7, [.inr (some 48), .inl 0, .inl 0, .inl 0]), .inr (2, 16, mh_n), .inr (2, 60, mh_n)] : List mh_C)).length = n0
  replace hn0 : n0 = 49 := by rw [← hn0, sx_ln hP]; rfl
  show mh_W RJ5 cJ5_ensureCapacityInternal_d00df 3 none false (mh_rmc 3 1 122) n0 1 122 mh_noX (mh_ret none (P ++ ([.inl (7, [.inr (some 49), .inl 0, .inl 0, .inl 0]), .inr (2, 16, mh_n), .inr (2, 60, mh_n), .inr (2, 122, mh_n)] : List mh_C)) (mh_cpy (mh_z I 49) 48 49 0 0 60) (mh_zl L 49)) 0 (P ++ ([.inl (7, [.inr (some 48), .inl 0, .inl 0, .inl 0]), .inr (2, 16, mh_n), .inr (2, 60, mh_n)] : List mh_C)) I L 0 [(0, .ref 46), (1, .int (61 : Int32))] []
  refine mw_aload_n dJ5_ensureCapacityInternal_d00df_0 0 rfl ?_
  refine mw_getr (b := 48) (fs := [.inr (some 48), .inl 0, .inl 0, .inl 0]) gf_J5_15 dJ5_ensureCapacityInternal_d00df_1 (sx_at hP (k := 0) rfl rfl) rfl ?_
  refine mw_alen8 (v := (60 : Int32)) dJ5_ensureCapacityInternal_d00df_4 (sx_at hP (k := 2) rfl rfl) rfl ?_
  refine mw_aload_n dJ5_ensureCapacityInternal_d00df_5 0 rfl ?_
  refine mw_geti (fs := [.inr (some 48), .inl 0, .inl 0, .inl 0]) gf_J5_22 dJ5_ensureCapacityInternal_d00df_6 (sx_at hP (k := 0) rfl rfl) rfl ?_
  refine mw_nmi (v := (0 : Int32)) (show (I) 46 1 = (0 : Int32) from h46_1) ?_
  refine mw_ishr dJ5_ensureCapacityInternal_d00df_9 ?_
  refine mw_nmi (v := (60 : Int32)) (by decide) ?_
  refine mw_istore_n dJ5_ensureCapacityInternal_d00df_10 (by decide) rfl ?_
  refine mw_iload_n dJ5_ensureCapacityInternal_d00df_11 2 rfl ?_
  refine mw_iload_n dJ5_ensureCapacityInternal_d00df_12 0 rfl ?_
  refine mw_isub dJ5_ensureCapacityInternal_d00df_13 ?_
  refine mw_nmi (v := (1 : Int32)) (by decide) ?_
  refine mw_if_le (tgt := 38) dJ5_ensureCapacityInternal_d00df_14 (by decide) (fun hc => absurd hc (by decide)) (fun hc => ?_)
  refine mw_aload_n dJ5_ensureCapacityInternal_d00df_17 1 rfl ?_
  refine mw_aload_n dJ5_ensureCapacityInternal_d00df_18 1 rfl ?_
  refine mw_getr (b := 48) (fs := [.inr (some 48), .inl 0, .inl 0, .inl 0]) gf_J5_15 dJ5_ensureCapacityInternal_d00df_19 (sx_at hP (k := 0) rfl rfl) rfl ?_
  refine mw_aload_n dJ5_ensureCapacityInternal_d00df_22 1 rfl ?_
  refine mw_iload_n dJ5_ensureCapacityInternal_d00df_23 2 rfl ?_
  refine mwx_vc (Rc := mh_rmc 2 0 0) (ci := 7) (fs := [.inr (some 48), .inl 0, .inl 0, .inl 0]) (T := TJ4) (N := 4) cC_J5_104 wd_511 dJ5_ensureCapacityInternal_d00df_24 [.int (61 : Int32)] [.int (61 : Int32), .ref 46, .ref 48, .ref 46] rfl rfl (sx_at hP (k := 0) rfl rfl) rfl (t_sb28_J5_newCapacity_0f7a4 hP (show (I) 46 1 = (0 : Int32) from h46_1)) ⟨Nat.le_of_ble_eq_true rfl, Nat.le_of_ble_eq_true rfl⟩ (Nat.le_of_ble_eq_true rfl) ⟨sx_c hP hn0 (Nat.le_of_ble_eq_true rfl), Nat.le_of_ble_eq_true rfl⟩ (sx_l hP rfl) ?_
  refine mw_conv (slots' := 0) (sh' := (P ++ ([.inl (7, [.inr (some 48), .inl 0, .inl 0, .inl 0]), .inr (2, 16, mh_n), .inr (2, 60, mh_n)] : List mh_C))) (by decide) rfl ?_
  refine mw_aload_n dJ5_ensureCapacityInternal_d00df_27 1 rfl ?_
  refine mw_geti (fs := [.inr (some 48), .inl 0, .inl 0, .inl 0]) gf_J5_22 dJ5_ensureCapacityInternal_d00df_28 (sx_at hP (k := 0) rfl rfl) rfl ?_
  refine mw_nmi (v := (0 : Int32)) (show (I) 46 1 = (0 : Int32) from h46_1) ?_
  refine mw_ishl dJ5_ensureCapacityInternal_d00df_31 ?_
  refine mw_nmi (v := (122 : Int32)) (by decide) ?_
  refine mwx_s (Rc := mh_rmc 1 1 122) cs_J5_108 wd_523 dJ5_ensureCapacityInternal_d00df_32 [.ref 48, .int (122 : Int32)] [.int (122 : Int32), .ref 48, .ref 46] rfl rfl (t_sb30_J7_copyOf_9075b hP (show sb_Fit ((I) 48) from hf48)) ⟨Nat.le_of_ble_eq_true rfl, Nat.le_of_ble_eq_true rfl⟩ (Nat.le_of_ble_eq_true rfl) ⟨sx_c hP hn0 (Nat.le_of_ble_eq_true rfl), Nat.le_of_ble_eq_true rfl⟩ (sx_l hP rfl) ?_
  refine mw_conv (slots' := 122) (sh' := (P ++ ([.inl (7, [.inr (some 48), .inl 0, .inl 0, .inl 0]), .inr (2, 16, mh_n), .inr (2, 60, mh_n), .inr (2, 122, mh_n)] : List mh_C))) (by decide) rfl ?_
  refine mw_putr (fs := [.inr (some 48), .inl 0, .inl 0, .inl 0]) pf_J5_15 (fun h => by cases h) rfl dJ5_ensureCapacityInternal_d00df_35 (sx_at hP (k := 0) rfl rfl) (Nat.le_of_ble_eq_true rfl) ?_
  refine mw_conv (slots' := 122) (sh' := (P ++ ([.inl (7, [.inr (some 49), .inl 0, .inl 0, .inl 0]), .inr (2, 16, mh_n), .inr (2, 60, mh_n), .inr (2, 122, mh_n)] : List mh_C))) (by decide) (sx_set hP (k := 0) rfl) ?_
  exact mw_vret dJ5_ensureCapacityInternal_d00df_38 rfl (sx_c0 hP hn0 (Nat.le_of_ble_eq_true rfl)) (Nat.le_of_ble_eq_true rfl) mh_ret_rfl
set_option maxHeartbeats 400000 in
set_option maxRecDepth 100000 in
theorem t_sb31_J5_isLatin1_aae02 {P : List mh_C} (hP : P.length = 46) {I : mh_I} {L : mh_L}  (h46_1 : I 46 1 = (0 : Int32)) : mh_CT yJ5_isLatin1_aae02 cJ5_isLatin1_aae02 1 (some .boolean) (mh_rmc 0 0 0) (P ++ ([.inl (7, [.inr (some 49), .inl 0, .inl 0, .inl 0]), .inr (2, 16, mh_n), .inr (2, 60, mh_n), .inr (2, 122, mh_n)] : List mh_C)) I L [.ref 46] (mh_ret (some (.int (1 : Int32))) (P ++ ([.inl (7, [.inr (some 49), .inl 0, .inl 0, .inl 0]), .inr (2, 16, mh_n), .inr (2, 60, mh_n), .inr (2, 122, mh_n)] : List mh_C)) I L) := by
  refine mh_ofW (ini := false) RJ5 rfl (by decide) (fun h => by cases h) (Nat.le_of_ble_eq_true rfl) ?_
  generalize hn0 : (P ++ ([.inl (7, [.inr (some 49), .inl 0, .inl 0, .inl 0]), .inr (2, 16, mh_n), .inr (2, 60, mh_n), .inr (2, 122, mh_n)] : List mh_C)).length = n0
  replace hn0 : n0 = 50 := by rw [← hn0, sx_ln hP]; rfl
  show mh_W RJ5 cJ5_isLatin1_aae02 1 (some .boolean) false (mh_rmc 0 0 0) n0 0 0 mh_noX (mh_ret (some (.int (1 : Int32))) (P ++ ([.inl (7, [.inr (some 49), .inl 0, .inl 0, .inl 0]), .inr (2, 16, mh_n), .inr (2, 60, mh_n), .inr (2, 122, mh_n)] : List mh_C)) I L) 0 (P ++ ([.inl (7, [.inr (some 49), .inl 0, .inl 0, .inl 0]), .inr (2, 16, mh_n), .inr (2, 60, mh_n), .inr (2, 122, mh_n)] : List mh_C)) I L 0 [(0, .ref 46)] []
  refine mw_getsC wd_471 dJ5_isLatin1_aae02_0 ?_
  refine mw_if_eq (tgt := 17) dJ5_isLatin1_aae02_3 (by decide) (fun hc => absurd hc (by decide)) (fun hc => ?_)
  refine mw_aload_n dJ5_isLatin1_aae02_6 0 rfl ?_
  refine mw_geti (fs := [.inr (some 49), .inl 0, .inl 0, .inl 0]) gf_J5_22 dJ5_isLatin1_aae02_7 (sx_at hP (k := 0) rfl rfl) rfl ?_
  refine mw_nmi (v := (0 : Int32)) (show (I) 46 1 = (0 : Int32) from h46_1) ?_
  refine mw_if_ne (tgt := 17) dJ5_isLatin1_aae02_10 (by decide) (fun hc => absurd (by decide) hc) (fun hc => ?_)
  refine mw_iconst (v := 1) dJ5_isLatin1_aae02_13 (by decide) ?_
  refine mw_goto (tgt := 18) dJ5_isLatin1_aae02_14 (by decide) ?_
  exact mw_iret dJ5_isLatin1_aae02_18 rfl rfl (sx_c0 hP hn0 (Nat.le_of_ble_eq_true rfl)) (Nat.le_of_ble_eq_true rfl) mh_ret_rfl
set_option maxHeartbeats 400000 in
set_option maxRecDepth 100000 in
theorem t_sb32_J6_getChars_ba4f3 {P : List mh_C} (hP : P.length = 46) {I : mh_I} {L : mh_L} {d : Nat}  (hd : d < 8) : mh_CT yJ6_getChars_ba4f3 cJ6_getChars_ba4f3 7 (some .int) (mh_rmc 0 0 0) (P ++ ([.inl (7, [.inr (some 49), .inl 0, .inl 0, .inl 0]), .inr (2, 16, mh_n), .inr (2, 60, mh_n), .inr (2, 122, mh_n)] : List mh_C)) I L [.int (nI d), .int (61 : Int32), .ref 49] (mh_ret (some (.int (60 : Int32))) (P ++ ([.inl (7, [.inr (some 49), .inl 0, .inl 0, .inl 0]), .inr (2, 16, mh_n), .inr (2, 60, mh_n), .inr (2, 122, mh_n)] : List mh_C)) (mh_u I 49 60 (vp_nar .byte (nI (48 + d)))) L) := by
  refine mh_ofW (ini := false) RJ6 rfl (by decide) (fun h => by cases h) (Nat.le_of_ble_eq_true rfl) ?_
  generalize hn0 : (P ++ ([.inl (7, [.inr (some 49), .inl 0, .inl 0, .inl 0]), .inr (2, 16, mh_n), .inr (2, 60, mh_n), .inr (2, 122, mh_n)] : List mh_C)).length = n0
  replace hn0 : n0 = 50 := by rw [← hn0, sx_ln hP]; rfl
  show mh_W RJ6 cJ6_getChars_ba4f3 7 (some .int) false (mh_rmc 0 0 0) n0 0 0 mh_noX (mh_ret (some (.int (60 : Int32))) (P ++ ([.inl (7, [.inr (some 49), .inl 0, .inl 0, .inl 0]), .inr (2, 16, mh_n), .inr (2, 60, mh_n), .inr (2, 122, mh_n)] : List mh_C)) (mh_u I 49 60 (vp_nar .byte (nI (48 + d)))) L) 0 (P ++ ([.inl (7, [.inr (some 49), .inl 0, .inl 0, .inl 0]), .inr (2, 16, mh_n), .inr (2, 60, mh_n), .inr (2, 122, mh_n)] : List mh_C)) I L 0 [(0, .int (nI d)), (1, .int (61 : Int32)), (2, .ref 49)] []
  refine mw_iload_n dJ6_getChars_ba4f3_0 1 rfl ?_
  refine mw_istore dJ6_getChars_ba4f3_1 (by decide) rfl ?_
  refine mw_iload_n dJ6_getChars_ba4f3_3 1 rfl ?_
  refine mw_if_ge (tgt := 11) dJ6_getChars_ba4f3_4 (by decide) (fun hc => ?_) (fun hc => absurd ((by decide : ∀ d : Nat, d < 8 → (0 ≤ (nI d))) d hd) hc)
  refine mw_iconst (v := 0) dJ6_getChars_ba4f3_11 (by decide) ?_
  refine mw_istore dJ6_getChars_ba4f3_12 (by decide) rfl ?_
  refine mw_iload dJ6_getChars_ba4f3_14 0 rfl ?_
  refine mw_if_ne (tgt := 22) dJ6_getChars_ba4f3_16 (by decide) (fun hc => absurd (by decide) hc) (fun hc => ?_)
  refine mw_iload_n dJ6_getChars_ba4f3_19 2 rfl ?_
  refine mw_ineg dJ6_getChars_ba4f3_20 ?_
  refine mw_istore_n dJ6_getChars_ba4f3_21 (by decide) rfl ?_
  refine mw_iload_n dJ6_getChars_ba4f3_22 0 rfl ?_
  refine mw_bipush (v := -100) dJ6_getChars_ba4f3_23 (by decide) ?_
  refine mw_icmp_gt (tgt := 72) dJ6_getChars_ba4f3_25 (by decide) (fun hc => ?_) (fun hc => absurd ((by decide : ∀ d : Nat, d < 8 → ((-100 : Int32) < (-(nI d)))) d hd) hc)
  refine mw_aload_n dJ6_getChars_ba4f3_72 4 rfl ?_
  refine mw_iinc (v := (60 : Int32)) dJ6_getChars_ba4f3_73 2 rfl (by decide) (by decide) rfl ?_
  refine mw_iload dJ6_getChars_ba4f3_76 0 rfl ?_
  refine mw_dig wd_603 dJ6_getChars_ba4f3_78 ?_
  refine mw_iload_n dJ6_getChars_ba4f3_81 1 rfl ?_
  refine mw_ineg dJ6_getChars_ba4f3_82 ?_
  refine mw_digld ((by decide : ∀ d : Nat, d < 8 → ¬ ((-(-(nI d))) < 0 ∨ 100 ≤ ((-(-(nI d)))).toNatClampNeg)) d hd) dJ6_getChars_ba4f3_83 ?_
  refine mw_nmi (v := nI (48 + d)) ((by decide : ∀ d : Nat, d < 8 → nI (48 + ((-(-(nI d)))).toNatClampNeg % 10) = nI (48 + d)) d hd) ?_
  refine mwx_bast (kx := 60) dJ6_getChars_ba4f3_84 (sx_at hP (k := 3) rfl rfl) (by decide) (by decide) ?_
  refine mw_iload_n dJ6_getChars_ba4f3_85 1 rfl ?_
  refine mw_bipush (v := -9) dJ6_getChars_ba4f3_86 (by decide) ?_
  refine mw_icmp_ge (tgt := 104) dJ6_getChars_ba4f3_88 (by decide) (fun hc => ?_) (fun hc => absurd ((by decide : ∀ d : Nat, d < 8 → ((-9 : Int32) ≤ (-(nI d)))) d hd) hc)
  refine mw_iload dJ6_getChars_ba4f3_104 2 rfl ?_
  refine mw_if_eq (tgt := 118) dJ6_getChars_ba4f3_106 (by decide) (fun hc => ?_) (fun hc => absurd (by decide) hc)
  refine mw_iload dJ6_getChars_ba4f3_118 0 rfl ?_
  exact mw_iret dJ6_getChars_ba4f3_120 rfl rfl (sx_c0 hP hn0 (Nat.le_of_ble_eq_true rfl)) (Nat.le_of_ble_eq_true rfl) mh_ret_rfl
set_option maxHeartbeats 400000 in
set_option maxRecDepth 100000 in
theorem t_sb25_J5_append_c97b9 {P : List mh_C} (hP : P.length = 46) {I : mh_I} {L : mh_L} {d : Nat}  (h46_1 : I 46 1 = (0 : Int32)) (h46_3 : I 46 3 = (60 : Int32)) (hf48 : sb_Fit (I 48)) (hd : d < 8) : mh_CT yJ5_append_c97b9 cJ5_append_c97b9 4 (some (.object RJ5)) (mh_rmc 4 1 122) (P ++ ([.inl (7, [.inr (some 48), .inl 0, .inl 0, .inl 0]), .inr (2, 16, mh_n), .inr (2, 60, mh_n)] : List mh_C)) I L [.ref 46, .int (nI d)] (mh_ret (some (.ref 46)) (P ++ ([.inl (7, [.inr (some 49), .inl 0, .inl 0, .inl 0]), .inr (2, 16, mh_n), .inr (2, 60, mh_n), .inr (2, 122, mh_n)] : List mh_C)) (mh_u (mh_u (mh_cpy (mh_z I 49) 48 49 0 0 60) 49 60 (vp_nar .byte (nI (48 + d)))) 46 3 (61 : Int32)) (mh_zl L 49)) := by
  refine mh_ofW (ini := false) RJ5 rfl (by decide) (fun h => by cases h) (Nat.le_of_ble_eq_true rfl) ?_
  generalize hn0 : (P ++ ([.inl (7, [.inr (some 48), .inl 0, .inl 0, .inl 0]), .inr (2, 16, mh_n), .inr (2, 60, mh_n)] : List mh_C)).length = n0
  replace hn0 : n0 = 49 := by rw [← hn0, sx_ln hP]; rfl
  show mh_W RJ5 cJ5_append_c97b9 4 (some (.object RJ5)) false (mh_rmc 4 1 122) n0 1 122 mh_noX (mh_ret (some (.ref 46)) (P ++ ([.inl (7, [.inr (some 49), .inl 0, .inl 0, .inl 0]), .inr (2, 16, mh_n), .inr (2, 60, mh_n), .inr (2, 122, mh_n)] : List mh_C)) (mh_u (mh_u (mh_cpy (mh_z I 49) 48 49 0 0 60) 49 60 (vp_nar .byte (nI (48 + d)))) 46 3 (61 : Int32)) (mh_zl L 49)) 0 (P ++ ([.inl (7, [.inr (some 48), .inl 0, .inl 0, .inl 0]), .inr (2, 16, mh_n), .inr (2, 60, mh_n)] : List mh_C)) I L 0 [(0, .ref 46), (1, .int (nI d))] []
  refine mw_aload_n dJ5_append_c97b9_0 0 rfl ?_
  refine mw_geti (fs := [.inr (some 48), .inl 0, .inl 0, .inl 0]) gf_J5_79 dJ5_append_c97b9_1 (sx_at hP (k := 0) rfl rfl) rfl ?_
  refine mw_nmi (v := (60 : Int32)) (show (I) 46 3 = (60 : Int32) from h46_3) ?_
  refine mw_istore_n dJ5_append_c97b9_4 (by decide) rfl ?_
  refine mw_iload_n dJ5_append_c97b9_5 0 rfl ?_
  refine mw_iload_n dJ5_append_c97b9_6 2 rfl ?_
  refine mwx_s (Rc := mh_rmc 0 0 0) cs_J5_245 wd_599 dJ5_append_c97b9_7 [.int (nI d)] [.int (nI d), .int (60 : Int32)] rfl rfl (t_sb26_J6_stringSize_0f7a4 hP hd) ⟨Nat.le_of_ble_eq_true rfl, Nat.le_of_ble_eq_true rfl⟩ (Nat.le_of_ble_eq_true rfl) ⟨sx_c hP hn0 (Nat.le_of_ble_eq_true rfl), Nat.le_of_ble_eq_true rfl⟩ (sx_l hP rfl) ?_
  refine mw_conv (slots' := 0) (sh' := (P ++ ([.inl (7, [.inr (some 48), .inl 0, .inl 0, .inl 0]), .inr (2, 16, mh_n), .inr (2, 60, mh_n)] : List mh_C))) (by decide) rfl ?_
  refine mw_iadd dJ5_append_c97b9_10 ?_
  refine mw_nmi (v := (61 : Int32)) (by decide) ?_
  refine mw_istore_n dJ5_append_c97b9_11 (by decide) rfl ?_
  refine mw_aload_n dJ5_append_c97b9_12 2 rfl ?_
  refine mw_iload_n dJ5_append_c97b9_13 0 rfl ?_
  refine mwx_vc (Rc := mh_rmc 3 1 122) (ci := 7) (fs := [.inr (some 48), .inl 0, .inl 0, .inl 0]) (T := TJ4) (N := 4) cC_J5_100 wd_507 dJ5_append_c97b9_14 [.int (61 : Int32)] [.int (61 : Int32), .ref 46] rfl rfl (sx_at hP (k := 0) rfl rfl) rfl (t_sb27_J5_ensureCapacityInternal_d00df hP (show (I) 46 1 = (0 : Int32) from h46_1) (show sb_Fit ((I) 48) from hf48)) ⟨Nat.le_of_ble_eq_true rfl, Nat.le_of_ble_eq_true rfl⟩ (Nat.le_of_ble_eq_true rfl) ⟨sx_c hP hn0 (Nat.le_of_ble_eq_true rfl), Nat.le_of_ble_eq_true rfl⟩ (sx_l hP rfl) ?_
  refine mw_conv (slots' := 122) (sh' := (P ++ ([.inl (7, [.inr (some 49), .inl 0, .inl 0, .inl 0]), .inr (2, 16, mh_n), .inr (2, 60, mh_n), .inr (2, 122, mh_n)] : List mh_C))) (by decide) rfl ?_
  refine mw_aload_n dJ5_append_c97b9_17 2 rfl ?_
  refine mwx_vc (Rc := mh_rmc 0 0 0) (ci := 7) (fs := [.inr (some 49), .inl 0, .inl 0, .inl 0]) (T := TJ4) (N := 4) cC_J5_83 wd_539 dJ5_append_c97b9_18 [] [.ref 46] rfl rfl (sx_at hP (k := 0) rfl rfl) rfl (t_sb31_J5_isLatin1_aae02 hP (show ((mh_cpy (mh_z I 49) 48 49 0 0 60)) 46 1 = (0 : Int32) from h46_1)) ⟨Nat.le_of_ble_eq_true rfl, Nat.le_of_ble_eq_true rfl⟩ (Nat.le_of_ble_eq_true rfl) ⟨sx_c hP hn0 (Nat.le_of_ble_eq_true rfl), Nat.le_of_ble_eq_true rfl⟩ (sx_l hP rfl) ?_
  refine mw_conv (slots' := 122) (sh' := (P ++ ([.inl (7, [.inr (some 49), .inl 0, .inl 0, .inl 0]), .inr (2, 16, mh_n), .inr (2, 60, mh_n), .inr (2, 122, mh_n)] : List mh_C))) (by decide) rfl ?_
  refine mw_if_eq (tgt := 37) dJ5_append_c97b9_21 (by decide) (fun hc => absurd hc (by decide)) (fun hc => ?_)
  refine mw_iload_n dJ5_append_c97b9_24 3 rfl ?_
  refine mw_iload_n dJ5_append_c97b9_25 0 rfl ?_
  refine mw_aload_n dJ5_append_c97b9_26 2 rfl ?_
  refine mw_getr (b := 49) (fs := [.inr (some 49), .inl 0, .inl 0, .inl 0]) gf_J5_15 dJ5_append_c97b9_27 (sx_at hP (k := 0) rfl rfl) rfl ?_
  refine mwx_s (Rc := mh_rmc 0 0 0) cs_J5_248 wd_602 dJ5_append_c97b9_30 [.int (nI d), .int (61 : Int32), .ref 49] [.ref 49, .int (61 : Int32), .int (nI d)] rfl rfl (t_sb32_J6_getChars_ba4f3 hP hd) ⟨Nat.le_of_ble_eq_true rfl, Nat.le_of_ble_eq_true rfl⟩ (Nat.le_of_ble_eq_true rfl) ⟨sx_c hP hn0 (Nat.le_of_ble_eq_true rfl), Nat.le_of_ble_eq_true rfl⟩ (sx_l hP rfl) ?_
  refine mw_conv (slots' := 122) (sh' := (P ++ ([.inl (7, [.inr (some 49), .inl 0, .inl 0, .inl 0]), .inr (2, 16, mh_n), .inr (2, 60, mh_n), .inr (2, 122, mh_n)] : List mh_C))) (by decide) rfl ?_
  refine mw_pop dJ5_append_c97b9_33 rfl ?_
  refine mw_goto (tgt := 48) dJ5_append_c97b9_34 (by decide) ?_
  refine mw_aload_n dJ5_append_c97b9_48 2 rfl ?_
  refine mw_iload_n dJ5_append_c97b9_49 0 rfl ?_
  refine mw_puti (fs := [.inr (some 49), .inl 0, .inl 0, .inl 0]) pf_J5_79 (fun h => by cases h) rfl rfl dJ5_append_c97b9_50 (sx_at hP (k := 0) rfl rfl) rfl ?_
  refine mw_aload_n dJ5_append_c97b9_53 2 rfl ?_
  exact mw_aret dJ5_append_c97b9_54 rfl (Or.inl ⟨_, rfl⟩) (sx_c0 hP hn0 (Nat.le_of_ble_eq_true rfl)) (Nat.le_of_ble_eq_true rfl) mh_ret_rfl
set_option maxHeartbeats 400000 in
set_option maxRecDepth 100000 in
theorem t_sb24_J4_append_bf812 {P : List mh_C} (hP : P.length = 46) {I : mh_I} {L : mh_L} {d : Nat}  (h46_1 : I 46 1 = (0 : Int32)) (h46_3 : I 46 3 = (60 : Int32)) (hf48 : sb_Fit (I 48)) (hd : d < 8) : mh_CT yJ4_append_bf812 cJ4_append_bf812 2 (some (.object RJ4)) (mh_rmc 5 1 122) (P ++ ([.inl (7, [.inr (some 48), .inl 0, .inl 0, .inl 0]), .inr (2, 16, mh_n), .inr (2, 60, mh_n)] : List mh_C)) I L [.ref 46, .int (nI d)] (mh_ret (some (.ref 46)) (P ++ ([.inl (7, [.inr (some 49), .inl 0, .inl 0, .inl 0]), .inr (2, 16, mh_n), .inr (2, 60, mh_n), .inr (2, 122, mh_n)] : List mh_C)) (mh_u (mh_u (mh_cpy (mh_z I 49) 48 49 0 0 60) 49 60 (vp_nar .byte (nI (48 + d)))) 46 3 (61 : Int32)) (mh_zl L 49)) := by
  refine mh_ofW (ini := false) RJ4 rfl (by decide) (fun h => by cases h) (Nat.le_of_ble_eq_true rfl) ?_
  generalize hn0 : (P ++ ([.inl (7, [.inr (some 48), .inl 0, .inl 0, .inl 0]), .inr (2, 16, mh_n), .inr (2, 60, mh_n)] : List mh_C)).length = n0
  replace hn0 : n0 = 49 := by rw [← hn0, sx_ln hP]; rfl
  show mh_W RJ4 cJ4_append_bf812 2 (some (.object RJ4)) false (mh_rmc 5 1 122) n0 1 122 mh_noX (mh_ret (some (.ref 46)) (P ++ ([.inl (7, [.inr (some 49), .inl 0, .inl 0, .inl 0]), .inr (2, 16, mh_n), .inr (2, 60, mh_n), .inr (2, 122, mh_n)] : List mh_C)) (mh_u (mh_u (mh_cpy (mh_z I 49) 48 49 0 0 60) 49 60 (vp_nar .byte (nI (48 + d)))) 46 3 (61 : Int32)) (mh_zl L 49)) 0 (P ++ ([.inl (7, [.inr (some 48), .inl 0, .inl 0, .inl 0]), .inr (2, 16, mh_n), .inr (2, 60, mh_n)] : List mh_C)) I L 0 [(0, .ref 46), (1, .int (nI d))] []
  refine mw_aload_n dJ4_append_bf812_0 0 rfl ?_
  refine mw_iload_n dJ4_append_bf812_1 1 rfl ?_
  refine mwx_su (Rc := mh_rmc 4 1 122) (ci := 7) (fs := [.inr (some 48), .inl 0, .inl 0, .inl 0]) (T := TJ4) (N := 4) cS_J4_53 wd_596 dJ4_append_bf812_2 [.int (nI d)] [.int (nI d), .ref 46] rfl rfl (sx_at hP (k := 0) rfl rfl) rfl (t_sb25_J5_append_c97b9 hP (show (I) 46 1 = (0 : Int32) from h46_1) (show (I) 46 3 = (60 : Int32) from h46_3) (show sb_Fit ((I) 48) from hf48) hd) ⟨Nat.le_of_ble_eq_true rfl, Nat.le_of_ble_eq_true rfl⟩ (Nat.le_of_ble_eq_true rfl) ⟨sx_c hP hn0 (Nat.le_of_ble_eq_true rfl), Nat.le_of_ble_eq_true rfl⟩ (sx_l hP rfl) ?_
  refine mw_conv (slots' := 122) (sh' := (P ++ ([.inl (7, [.inr (some 49), .inl 0, .inl 0, .inl 0]), .inr (2, 16, mh_n), .inr (2, 60, mh_n), .inr (2, 122, mh_n)] : List mh_C))) (by decide) rfl ?_
  refine mw_pop dJ4_append_bf812_5 rfl ?_
  refine mw_aload_n dJ4_append_bf812_6 0 rfl ?_
  exact mw_aret dJ4_append_bf812_7 rfl (Or.inl ⟨_, rfl⟩) (sx_c0 hP hn0 (Nat.le_of_ble_eq_true rfl)) (Nat.le_of_ble_eq_true rfl) mh_ret_rfl
set_option maxHeartbeats 400000 in
set_option maxRecDepth 100000 in
theorem t_sb35_J5_ensureCapacityInternal_d00df {P : List mh_C} (hP : P.length = 46) {I : mh_I} {L : mh_L}  (h46_1 : I 46 1 = (0 : Int32)) : mh_CT yJ5_ensureCapacityInternal_d00df cJ5_ensureCapacityInternal_d00df 3 none (mh_rmc 0 0 0) (P ++ ([.inl (7, [.inr (some 49), .inl 0, .inl 0, .inl 0]), .inr (2, 16, mh_n), .inr (2, 60, mh_n), .inr (2, 122, mh_n)] : List mh_C)) I L [.ref 46, .int (62 : Int32)] (mh_ret none (P ++ ([.inl (7, [.inr (some 49), .inl 0, .inl 0, .inl 0]), .inr (2, 16, mh_n), .inr (2, 60, mh_n), .inr (2, 122, mh_n)] : List mh_C)) I L) := by
  refine mh_ofW (ini := false) RJ5 rfl (by decide) (fun h => by cases h) (Nat.le_of_ble_eq_true rfl) ?_
  generalize hn0 : (P ++ ([.inl (7, [.inr (some 49), .inl 0, .inl 0, .inl 0]), .inr (2, 16, mh_n), .inr (2, 60, mh_n), .inr (2, 122, mh_n)] : List mh_C)).length = n0
  replace hn0 : n0 = 50 := by rw [← hn0, sx_ln hP]; rfl
  show mh_W RJ5 cJ5_ensureCapacityInternal_d00df 3 none false (mh_rmc 0 0 0) n0 0 0 mh_noX (mh_ret none (P ++ ([.inl (7, [.inr (some 49), .inl 0, .inl 0, .inl 0]), .inr (2, 16, mh_n), .inr (2, 60, mh_n), .inr (2, 122, mh_n)] : List mh_C)) I L) 0 (P ++ ([.inl (7, [.inr (some 49), .inl 0, .inl 0, .inl 0]), .inr (2, 16, mh_n), .inr (2, 60, mh_n), .inr (2, 122, mh_n)] : List mh_C)) I L 0 [(0, .ref 46), (1, .int (62 : Int32))] []
  refine mw_aload_n dJ5_ensureCapacityInternal_d00df_0 0 rfl ?_
  refine mw_getr (b := 49) (fs := [.inr (some 49), .inl 0, .inl 0, .inl 0]) gf_J5_15 dJ5_ensureCapacityInternal_d00df_1 (sx_at hP (k := 0) rfl rfl) rfl ?_
  refine mw_alen8 (v := (122 : Int32)) dJ5_ensureCapacityInternal_d00df_4 (sx_at hP (k := 3) rfl rfl) rfl ?_
  refine mw_aload_n dJ5_ensureCapacityInternal_d00df_5 0 rfl ?_
  refine mw_geti (fs := [.inr (some 49), .inl 0, .inl 0, .inl 0]) gf_J5_22 dJ5_ensureCapacityInternal_d00df_6 (sx_at hP (k := 0) rfl rfl) rfl ?_
  refine mw_nmi (v := (0 : Int32)) (show (I) 46 1 = (0 : Int32) from h46_1) ?_
  refine mw_ishr dJ5_ensureCapacityInternal_d00df_9 ?_
  refine mw_nmi (v := (122 : Int32)) (by decide) ?_
  refine mw_istore_n dJ5_ensureCapacityInternal_d00df_10 (by decide) rfl ?_
  refine mw_iload_n dJ5_ensureCapacityInternal_d00df_11 2 rfl ?_
  refine mw_iload_n dJ5_ensureCapacityInternal_d00df_12 0 rfl ?_
  refine mw_isub dJ5_ensureCapacityInternal_d00df_13 ?_
  refine mw_nmi (v := (-60 : Int32)) (by decide) ?_
  refine mw_if_le (tgt := 38) dJ5_ensureCapacityInternal_d00df_14 (by decide) (fun hc => ?_) (fun hc => absurd (by decide) hc)
  exact mw_vret dJ5_ensureCapacityInternal_d00df_38 rfl (sx_c0 hP hn0 (Nat.le_of_ble_eq_true rfl)) (Nat.le_of_ble_eq_true rfl) mh_ret_rfl
set_option maxHeartbeats 400000 in
set_option maxRecDepth 100000 in
theorem t_sb37_J5_inflateIfNeededFor_a7421 {P : List mh_C} (hP : P.length = 46) {I : mh_I} {L : mh_L}  (h46_1 : I 46 1 = (0 : Int32)) : mh_CT yJ5_inflateIfNeededFor_a7421 cJ5_inflateIfNeededFor_a7421 2 none (mh_rmc 1 0 0) (P ++ ([.inl (7, [.inr (some 49), .inl 0, .inl 0, .inl 0]), .inr (2, 16, mh_n), .inr (2, 60, mh_n), .inr (2, 122, mh_n)] : List mh_C)) I L [.ref 46, .ref 1004] (mh_ret none (P ++ ([.inl (7, [.inr (some 49), .inl 0, .inl 0, .inl 0]), .inr (2, 16, mh_n), .inr (2, 60, mh_n), .inr (2, 122, mh_n)] : List mh_C)) I L) := by
  refine mh_ofW (ini := false) RJ5 rfl (by decide) (fun h => by cases h) (Nat.le_of_ble_eq_true rfl) ?_
  generalize hn0 : (P ++ ([.inl (7, [.inr (some 49), .inl 0, .inl 0, .inl 0]), .inr (2, 16, mh_n), .inr (2, 60, mh_n), .inr (2, 122, mh_n)] : List mh_C)).length = n0
  replace hn0 : n0 = 50 := by rw [← hn0, sx_ln hP]; rfl
  show mh_W RJ5 cJ5_inflateIfNeededFor_a7421 2 none false (mh_rmc 1 0 0) n0 0 0 mh_noX (mh_ret none (P ++ ([.inl (7, [.inr (some 49), .inl 0, .inl 0, .inl 0]), .inr (2, 16, mh_n), .inr (2, 60, mh_n), .inr (2, 122, mh_n)] : List mh_C)) I L) 0 (P ++ ([.inl (7, [.inr (some 49), .inl 0, .inl 0, .inl 0]), .inr (2, 16, mh_n), .inr (2, 60, mh_n), .inr (2, 122, mh_n)] : List mh_C)) I L 0 [(0, .ref 46), (1, .ref 1004)] []
  refine mw_getsC wd_471 dJ5_inflateIfNeededFor_a7421_0 ?_
  refine mw_if_eq (tgt := 21) dJ5_inflateIfNeededFor_a7421_3 (by decide) (fun hc => absurd hc (by decide)) (fun hc => ?_)
  refine mw_aload_n dJ5_inflateIfNeededFor_a7421_6 0 rfl ?_
  refine mw_geti (fs := [.inr (some 49), .inl 0, .inl 0, .inl 0]) gf_J5_22 dJ5_inflateIfNeededFor_a7421_7 (sx_at hP (k := 0) rfl rfl) rfl ?_
  refine mw_nmi (v := (0 : Int32)) (show (I) 46 1 = (0 : Int32) from h46_1) ?_
  refine mw_aload_n dJ5_inflateIfNeededFor_a7421_10 1 rfl ?_
  refine mwx_t (Rc := mh_rm 0) (i := 4) (by decide) cv_J5_40 wd_302 dJ5_inflateIfNeededFor_a7421_11 [] [.ref 1004, .int (0 : Int32)] rfl rfl rfl (t_J0_coder_7d493 (o := 4) (res := (0 : Int32)) (by decide) (by decide +kernel)) ⟨Nat.le_of_ble_eq_true rfl, Nat.le_of_ble_eq_true rfl⟩ (Nat.le_of_ble_eq_true rfl) ⟨sx_c hP hn0 (Nat.le_of_ble_eq_true rfl), Nat.le_of_ble_eq_true rfl⟩ rfl ?_
  refine mw_icmp_eq (tgt := 21) dJ5_inflateIfNeededFor_a7421_14 (by decide) (fun hc => ?_) (fun hc => absurd (by decide) hc)
  exact mw_vret dJ5_inflateIfNeededFor_a7421_21 rfl (sx_c0 hP hn0 (Nat.le_of_ble_eq_true rfl)) (Nat.le_of_ble_eq_true rfl) mh_ret_rfl
set_option maxHeartbeats 400000 in
set_option maxRecDepth 100000 in
theorem t_sb38_J0_getBytes_840e7 {P : List mh_C} (hP : P.length = 46) {I : mh_I} {L : mh_L}  : mh_CT yJ0_getBytes_840e7 cJ0_getBytes_840e7 4 none (mh_rmc 1 0 0) (P ++ ([.inl (7, [.inr (some 49), .inl 0, .inl 0, .inl 0]), .inr (2, 16, mh_n), .inr (2, 60, mh_n), .inr (2, 122, mh_n)] : List mh_C)) I L [.ref 1004, .ref 49, .int (61 : Int32), .int (0 : Int32)] (mh_ret none (P ++ ([.inl (7, [.inr (some 49), .inl 0, .inl 0, .inl 0]), .inr (2, 16, mh_n), .inr (2, 60, mh_n), .inr (2, 122, mh_n)] : List mh_C)) (mh_ct I 4 49 0 61 1) L) := by
  refine mh_ofW (ini := false) RJ0 rfl (by decide) (fun h => by cases h) (Nat.le_of_ble_eq_true rfl) ?_
  generalize hn0 : (P ++ ([.inl (7, [.inr (some 49), .inl 0, .inl 0, .inl 0]), .inr (2, 16, mh_n), .inr (2, 60, mh_n), .inr (2, 122, mh_n)] : List mh_C)).length = n0
  replace hn0 : n0 = 50 := by rw [← hn0, sx_ln hP]; rfl
  show mh_W RJ0 cJ0_getBytes_840e7 4 none false (mh_rmc 1 0 0) n0 0 0 mh_noX (mh_ret none (P ++ ([.inl (7, [.inr (some 49), .inl 0, .inl 0, .inl 0]), .inr (2, 16, mh_n), .inr (2, 60, mh_n), .inr (2, 122, mh_n)] : List mh_C)) (mh_ct I 4 49 0 61 1) L) 0 (P ++ ([.inl (7, [.inr (some 49), .inl 0, .inl 0, .inl 0]), .inr (2, 16, mh_n), .inr (2, 60, mh_n), .inr (2, 122, mh_n)] : List mh_C)) I L 0 [(0, .ref 1004), (1, .ref 49), (2, .int (61 : Int32)), (3, .int (0 : Int32))] []
  refine mw_aload_n dJ0_getBytes_840e7_0 0 rfl ?_
  refine mwx_t (Rc := mh_rm 0) (i := 4) (by decide) cv_J0_335 wd_302 dJ0_getBytes_840e7_1 [] [.ref 1004] rfl rfl rfl (t_J0_coder_7d493 (o := 4) (res := (0 : Int32)) (by decide) (by decide +kernel)) ⟨Nat.le_of_ble_eq_true rfl, Nat.le_of_ble_eq_true rfl⟩ (Nat.le_of_ble_eq_true rfl) ⟨sx_c hP hn0 (Nat.le_of_ble_eq_true rfl), Nat.le_of_ble_eq_true rfl⟩ rfl ?_
  refine mw_iload_n dJ0_getBytes_840e7_4 3 rfl ?_
  refine mw_icmp_ne (tgt := 28) dJ0_getBytes_840e7_5 (by decide) (fun hc => absurd (by decide) hc) (fun hc => ?_)
  refine mw_aload_n dJ0_getBytes_840e7_8 0 rfl ?_
  refine mw_strv (i := 4) (by decide) wd_663 dJ0_getBytes_840e7_9 ?_
  refine mw_iconst (v := 0) dJ0_getBytes_840e7_12 (by decide) ?_
  refine mw_aload_n dJ0_getBytes_840e7_13 1 rfl ?_
  refine mw_iload_n dJ0_getBytes_840e7_14 2 rfl ?_
  refine mw_iload_n dJ0_getBytes_840e7_15 3 rfl ?_
  refine mw_ishl dJ0_getBytes_840e7_16 ?_
  refine mw_nmi (v := (61 : Int32)) (by decide) ?_
  refine mw_aload_n dJ0_getBytes_840e7_17 0 rfl ?_
  refine mw_strv (i := 4) (by decide) wd_663 dJ0_getBytes_840e7_18 ?_
  refine mw_blen (i := 4) (by decide) dJ0_getBytes_840e7_21 ?_
  refine mw_nmi (v := (1 : Int32)) (by decide +kernel) ?_
  refine mwx_copyt (i := 4) (sp' := 0) (dp' := 61) (n' := 1) (by decide) wd_588 dJ0_getBytes_840e7_22 (sx_at hP (k := 3) rfl rfl) (by decide) (by decide) (by decide) (by decide +kernel) (by decide) (by decide) (by decide) (by decide) (fun k _ => sb_fS4 _) ⟨wd_534, wd_533, wd_16⟩ ⟨by decide, by decide⟩ ?_
  refine mw_goto (tgt := 43) dJ0_getBytes_840e7_25 (by decide) ?_
  exact mw_vret dJ0_getBytes_840e7_43 rfl (sx_c0 hP hn0 (Nat.le_of_ble_eq_true rfl)) (Nat.le_of_ble_eq_true rfl) mh_ret_rfl
set_option maxHeartbeats 400000 in
set_option maxRecDepth 100000 in
theorem t_sb36_J5_putStringAt_47b60 {P : List mh_C} (hP : P.length = 46) {I : mh_I} {L : mh_L}  (h46_1 : I 46 1 = (0 : Int32)) : mh_CT yJ5_putStringAt_47b60 cJ5_putStringAt_47b60 3 none (mh_rmc 2 0 0) (P ++ ([.inl (7, [.inr (some 49), .inl 0, .inl 0, .inl 0]), .inr (2, 16, mh_n), .inr (2, 60, mh_n), .inr (2, 122, mh_n)] : List mh_C)) I L [.ref 46, .int (61 : Int32), .ref 1004] (mh_ret none (P ++ ([.inl (7, [.inr (some 49), .inl 0, .inl 0, .inl 0]), .inr (2, 16, mh_n), .inr (2, 60, mh_n), .inr (2, 122, mh_n)] : List mh_C)) (mh_ct I 4 49 0 61 1) L) := by
  refine mh_ofW (ini := false) RJ5 rfl (by decide) (fun h => by cases h) (Nat.le_of_ble_eq_true rfl) ?_
  generalize hn0 : (P ++ ([.inl (7, [.inr (some 49), .inl 0, .inl 0, .inl 0]), .inr (2, 16, mh_n), .inr (2, 60, mh_n), .inr (2, 122, mh_n)] : List mh_C)).length = n0
  replace hn0 : n0 = 50 := by rw [← hn0, sx_ln hP]; rfl
  show mh_W RJ5 cJ5_putStringAt_47b60 3 none false (mh_rmc 2 0 0) n0 0 0 mh_noX (mh_ret none (P ++ ([.inl (7, [.inr (some 49), .inl 0, .inl 0, .inl 0]), .inr (2, 16, mh_n), .inr (2, 60, mh_n), .inr (2, 122, mh_n)] : List mh_C)) (mh_ct I 4 49 0 61 1) L) 0 (P ++ ([.inl (7, [.inr (some 49), .inl 0, .inl 0, .inl 0]), .inr (2, 16, mh_n), .inr (2, 60, mh_n), .inr (2, 122, mh_n)] : List mh_C)) I L 0 [(0, .ref 46), (1, .int (61 : Int32)), (2, .ref 1004)] []
  refine mw_aload_n dJ5_putStringAt_47b60_0 0 rfl ?_
  refine mw_aload_n dJ5_putStringAt_47b60_1 2 rfl ?_
  refine mwx_vc (Rc := mh_rmc 1 0 0) (ci := 7) (fs := [.inr (some 49), .inl 0, .inl 0, .inl 0]) (T := TJ4) (N := 4) cC_J5_397 wd_563 dJ5_putStringAt_47b60_2 [.ref 1004] [.ref 1004, .ref 46] rfl rfl (sx_at hP (k := 0) rfl rfl) rfl (t_sb37_J5_inflateIfNeededFor_a7421 hP (show (I) 46 1 = (0 : Int32) from h46_1)) ⟨Nat.le_of_ble_eq_true rfl, Nat.le_of_ble_eq_true rfl⟩ (Nat.le_of_ble_eq_true rfl) ⟨sx_c hP hn0 (Nat.le_of_ble_eq_true rfl), Nat.le_of_ble_eq_true rfl⟩ (sx_l hP rfl) ?_
  refine mw_conv (slots' := 0) (sh' := (P ++ ([.inl (7, [.inr (some 49), .inl 0, .inl 0, .inl 0]), .inr (2, 16, mh_n), .inr (2, 60, mh_n), .inr (2, 122, mh_n)] : List mh_C))) (by decide) rfl ?_
  refine mw_aload_n dJ5_putStringAt_47b60_5 2 rfl ?_
  refine mw_aload_n dJ5_putStringAt_47b60_6 0 rfl ?_
  refine mw_getr (b := 49) (fs := [.inr (some 49), .inl 0, .inl 0, .inl 0]) gf_J5_15 dJ5_putStringAt_47b60_7 (sx_at hP (k := 0) rfl rfl) rfl ?_
  refine mw_iload_n dJ5_putStringAt_47b60_10 1 rfl ?_
  refine mw_aload_n dJ5_putStringAt_47b60_11 0 rfl ?_
  refine mw_geti (fs := [.inr (some 49), .inl 0, .inl 0, .inl 0]) gf_J5_22 dJ5_putStringAt_47b60_12 (sx_at hP (k := 0) rfl rfl) rfl ?_
  refine mw_nmi (v := (0 : Int32)) (show (I) 46 1 = (0 : Int32) from h46_1) ?_
  refine mwx_t (Rc := mh_rmc 1 0 0) (i := 4) (by decide) cv_J5_399 wd_587 dJ5_putStringAt_47b60_15 [.ref 49, .int (61 : Int32), .int (0 : Int32)] [.int (0 : Int32), .int (61 : Int32), .ref 49, .ref 1004] rfl rfl rfl (t_sb38_J0_getBytes_840e7 hP ) ⟨Nat.le_of_ble_eq_true rfl, Nat.le_of_ble_eq_true rfl⟩ (Nat.le_of_ble_eq_true rfl) ⟨sx_c hP hn0 (Nat.le_of_ble_eq_true rfl), Nat.le_of_ble_eq_true rfl⟩ (sx_l hP rfl) ?_
  refine mw_conv (slots' := 0) (sh' := (P ++ ([.inl (7, [.inr (some 49), .inl 0, .inl 0, .inl 0]), .inr (2, 16, mh_n), .inr (2, 60, mh_n), .inr (2, 122, mh_n)] : List mh_C))) (by decide) rfl ?_
  exact mw_vret dJ5_putStringAt_47b60_18 rfl (sx_c0 hP hn0 (Nat.le_of_ble_eq_true rfl)) (Nat.le_of_ble_eq_true rfl) mh_ret_rfl
set_option maxHeartbeats 400000 in
set_option maxRecDepth 100000 in
theorem t_sb34_J5_append_cf1ce {P : List mh_C} (hP : P.length = 46) {I : mh_I} {L : mh_L}  (h46_1 : I 46 1 = (0 : Int32)) (h46_3 : I 46 3 = (61 : Int32)) : mh_CT yJ5_append_cf1ce cJ5_append_cf1ce 3 (some (.object RJ5)) (mh_rmc 3 0 0) (P ++ ([.inl (7, [.inr (some 49), .inl 0, .inl 0, .inl 0]), .inr (2, 16, mh_n), .inr (2, 60, mh_n), .inr (2, 122, mh_n)] : List mh_C)) I L [.ref 46, .ref 1004] (mh_ret (some (.ref 46)) (P ++ ([.inl (7, [.inr (some 49), .inl 0, .inl 0, .inl 0]), .inr (2, 16, mh_n), .inr (2, 60, mh_n), .inr (2, 122, mh_n)] : List mh_C)) (mh_u (mh_ct I 4 49 0 61 1) 46 3 (62 : Int32)) L) := by
  refine mh_ofW (ini := false) RJ5 rfl (by decide) (fun h => by cases h) (Nat.le_of_ble_eq_true rfl) ?_
  generalize hn0 : (P ++ ([.inl (7, [.inr (some 49), .inl 0, .inl 0, .inl 0]), .inr (2, 16, mh_n), .inr (2, 60, mh_n), .inr (2, 122, mh_n)] : List mh_C)).length = n0
  replace hn0 : n0 = 50 := by rw [← hn0, sx_ln hP]; rfl
  show mh_W RJ5 cJ5_append_cf1ce 3 (some (.object RJ5)) false (mh_rmc 3 0 0) n0 0 0 mh_noX (mh_ret (some (.ref 46)) (P ++ ([.inl (7, [.inr (some 49), .inl 0, .inl 0, .inl 0]), .inr (2, 16, mh_n), .inr (2, 60, mh_n), .inr (2, 122, mh_n)] : List mh_C)) (mh_u (mh_ct I 4 49 0 61 1) 46 3 (62 : Int32)) L) 0 (P ++ ([.inl (7, [.inr (some 49), .inl 0, .inl 0, .inl 0]), .inr (2, 16, mh_n), .inr (2, 60, mh_n), .inr (2, 122, mh_n)] : List mh_C)) I L 0 [(0, .ref 46), (1, .ref 1004)] []
  refine mw_aload_n dJ5_append_cf1ce_0 1 rfl ?_
  refine mw_ifnn (tgt := 9) dJ5_append_cf1ce_1 (by decide) ?_
  refine mw_aload_n dJ5_append_cf1ce_9 1 rfl ?_
  refine mwx_t (Rc := mh_rm 1) (i := 4) (by decide) cv_J5_32 wd_298 dJ5_append_cf1ce_10 [] [.ref 1004] rfl rfl rfl (t_J0_length_8abf5 (o := 4) (res := (1 : Int32)) (by decide) (by decide +kernel)) ⟨Nat.le_of_ble_eq_true rfl, Nat.le_of_ble_eq_true rfl⟩ (Nat.le_of_ble_eq_true rfl) ⟨sx_c hP hn0 (Nat.le_of_ble_eq_true rfl), Nat.le_of_ble_eq_true rfl⟩ rfl ?_
  refine mw_istore_n dJ5_append_cf1ce_13 (by decide) rfl ?_
  refine mw_aload_n dJ5_append_cf1ce_14 1 rfl ?_
  refine mw_aload_n dJ5_append_cf1ce_15 1 rfl ?_
  refine mw_geti (fs := [.inr (some 49), .inl 0, .inl 0, .inl 0]) gf_J5_79 dJ5_append_cf1ce_16 (sx_at hP (k := 0) rfl rfl) rfl ?_
  refine mw_nmi (v := (61 : Int32)) (show (I) 46 3 = (61 : Int32) from h46_3) ?_
  refine mw_iload_n dJ5_append_cf1ce_19 0 rfl ?_
  refine mw_iadd dJ5_append_cf1ce_20 ?_
  refine mw_nmi (v := (62 : Int32)) (by decide) ?_
  refine mwx_vc (Rc := mh_rmc 0 0 0) (ci := 7) (fs := [.inr (some 49), .inl 0, .inl 0, .inl 0]) (T := TJ4) (N := 4) cC_J5_100 wd_507 dJ5_append_cf1ce_21 [.int (62 : Int32)] [.int (62 : Int32), .ref 46] rfl rfl (sx_at hP (k := 0) rfl rfl) rfl (t_sb35_J5_ensureCapacityInternal_d00df hP (show (I) 46 1 = (0 : Int32) from h46_1)) ⟨Nat.le_of_ble_eq_true rfl, Nat.le_of_ble_eq_true rfl⟩ (Nat.le_of_ble_eq_true rfl) ⟨sx_c hP hn0 (Nat.le_of_ble_eq_true rfl), Nat.le_of_ble_eq_true rfl⟩ (sx_l hP rfl) ?_
  refine mw_conv (slots' := 0) (sh' := (P ++ ([.inl (7, [.inr (some 49), .inl 0, .inl 0, .inl 0]), .inr (2, 16, mh_n), .inr (2, 60, mh_n), .inr (2, 122, mh_n)] : List mh_C))) (by decide) rfl ?_
  refine mw_aload_n dJ5_append_cf1ce_24 1 rfl ?_
  refine mw_aload_n dJ5_append_cf1ce_25 1 rfl ?_
  refine mw_geti (fs := [.inr (some 49), .inl 0, .inl 0, .inl 0]) gf_J5_79 dJ5_append_cf1ce_26 (sx_at hP (k := 0) rfl rfl) rfl ?_
  refine mw_nmi (v := (61 : Int32)) (show (I) 46 3 = (61 : Int32) from h46_3) ?_
  refine mw_aload_n dJ5_append_cf1ce_29 2 rfl ?_
  refine mwx_vc (Rc := mh_rmc 2 0 0) (ci := 7) (fs := [.inr (some 49), .inl 0, .inl 0, .inl 0]) (T := TJ4) (N := 4) cC_J5_208 wd_559 dJ5_append_cf1ce_30 [.int (61 : Int32), .ref 1004] [.ref 1004, .int (61 : Int32), .ref 46] rfl rfl (sx_at hP (k := 0) rfl rfl) rfl (t_sb36_J5_putStringAt_47b60 hP (show (I) 46 1 = (0 : Int32) from h46_1)) ⟨Nat.le_of_ble_eq_true rfl, Nat.le_of_ble_eq_true rfl⟩ (Nat.le_of_ble_eq_true rfl) ⟨sx_c hP hn0 (Nat.le_of_ble_eq_true rfl), Nat.le_of_ble_eq_true rfl⟩ (sx_l hP rfl) ?_
  refine mw_conv (slots' := 0) (sh' := (P ++ ([.inl (7, [.inr (some 49), .inl 0, .inl 0, .inl 0]), .inr (2, 16, mh_n), .inr (2, 60, mh_n), .inr (2, 122, mh_n)] : List mh_C))) (by decide) rfl ?_
  refine mw_aload_n dJ5_append_cf1ce_33 1 rfl ?_
  refine mw_dup dJ5_append_cf1ce_34 rfl ?_
  refine mw_geti (fs := [.inr (some 49), .inl 0, .inl 0, .inl 0]) gf_J5_79 dJ5_append_cf1ce_35 (sx_at hP (k := 0) rfl rfl) rfl ?_
  refine mw_nmi (v := (61 : Int32)) (show ((mh_ct I 4 49 0 61 1)) 46 3 = (61 : Int32) from h46_3) ?_
  refine mw_iload_n dJ5_append_cf1ce_38 0 rfl ?_
  refine mw_iadd dJ5_append_cf1ce_39 ?_
  refine mw_nmi (v := (62 : Int32)) (by decide) ?_
  refine mw_puti (fs := [.inr (some 49), .inl 0, .inl 0, .inl 0]) pf_J5_79 (fun h => by cases h) rfl rfl dJ5_append_cf1ce_40 (sx_at hP (k := 0) rfl rfl) rfl ?_
  refine mw_aload_n dJ5_append_cf1ce_43 1 rfl ?_
  exact mw_aret dJ5_append_cf1ce_44 rfl (Or.inl ⟨_, rfl⟩) (sx_c0 hP hn0 (Nat.le_of_ble_eq_true rfl)) (Nat.le_of_ble_eq_true rfl) mh_ret_rfl
set_option maxHeartbeats 400000 in
set_option maxRecDepth 100000 in
theorem t_sb33_J4_append_15ec4 {P : List mh_C} (hP : P.length = 46) {I : mh_I} {L : mh_L}  (h46_1 : I 46 1 = (0 : Int32)) (h46_3 : I 46 3 = (61 : Int32)) : mh_CT yJ4_append_15ec4 cJ4_append_15ec4 2 (some (.object RJ4)) (mh_rmc 4 0 0) (P ++ ([.inl (7, [.inr (some 49), .inl 0, .inl 0, .inl 0]), .inr (2, 16, mh_n), .inr (2, 60, mh_n), .inr (2, 122, mh_n)] : List mh_C)) I L [.ref 46, .ref 1004] (mh_ret (some (.ref 46)) (P ++ ([.inl (7, [.inr (some 49), .inl 0, .inl 0, .inl 0]), .inr (2, 16, mh_n), .inr (2, 60, mh_n), .inr (2, 122, mh_n)] : List mh_C)) (mh_u (mh_ct I 4 49 0 61 1) 46 3 (62 : Int32)) L) := by
  refine mh_ofW (ini := false) RJ4 rfl (by decide) (fun h => by cases h) (Nat.le_of_ble_eq_true rfl) ?_
  generalize hn0 : (P ++ ([.inl (7, [.inr (some 49), .inl 0, .inl 0, .inl 0]), .inr (2, 16, mh_n), .inr (2, 60, mh_n), .inr (2, 122, mh_n)] : List mh_C)).length = n0
  replace hn0 : n0 = 50 := by rw [← hn0, sx_ln hP]; rfl
  show mh_W RJ4 cJ4_append_15ec4 2 (some (.object RJ4)) false (mh_rmc 4 0 0) n0 0 0 mh_noX (mh_ret (some (.ref 46)) (P ++ ([.inl (7, [.inr (some 49), .inl 0, .inl 0, .inl 0]), .inr (2, 16, mh_n), .inr (2, 60, mh_n), .inr (2, 122, mh_n)] : List mh_C)) (mh_u (mh_ct I 4 49 0 61 1) 46 3 (62 : Int32)) L) 0 (P ++ ([.inl (7, [.inr (some 49), .inl 0, .inl 0, .inl 0]), .inr (2, 16, mh_n), .inr (2, 60, mh_n), .inr (2, 122, mh_n)] : List mh_C)) I L 0 [(0, .ref 46), (1, .ref 1004)] []
  refine mw_aload_n dJ4_append_15ec4_0 0 rfl ?_
  refine mw_aload_n dJ4_append_15ec4_1 1 rfl ?_
  refine mwx_su (Rc := mh_rmc 3 0 0) (ci := 7) (fs := [.inr (some 49), .inl 0, .inl 0, .inl 0]) (T := TJ4) (N := 4) cS_J4_29 wd_499 dJ4_append_15ec4_2 [.ref 1004] [.ref 1004, .ref 46] rfl rfl (sx_at hP (k := 0) rfl rfl) rfl (t_sb34_J5_append_cf1ce hP (show (I) 46 1 = (0 : Int32) from h46_1) (show (I) 46 3 = (61 : Int32) from h46_3)) ⟨Nat.le_of_ble_eq_true rfl, Nat.le_of_ble_eq_true rfl⟩ (Nat.le_of_ble_eq_true rfl) ⟨sx_c hP hn0 (Nat.le_of_ble_eq_true rfl), Nat.le_of_ble_eq_true rfl⟩ (sx_l hP rfl) ?_
  refine mw_conv (slots' := 0) (sh' := (P ++ ([.inl (7, [.inr (some 49), .inl 0, .inl 0, .inl 0]), .inr (2, 16, mh_n), .inr (2, 60, mh_n), .inr (2, 122, mh_n)] : List mh_C))) (by decide) rfl ?_
  refine mw_pop dJ4_append_15ec4_5 rfl ?_
  refine mw_aload_n dJ4_append_15ec4_6 0 rfl ?_
  exact mw_aret dJ4_append_15ec4_7 rfl (Or.inl ⟨_, rfl⟩) (sx_c0 hP hn0 (Nat.le_of_ble_eq_true rfl)) (Nat.le_of_ble_eq_true rfl) mh_ret_rfl
set_option maxHeartbeats 400000 in
set_option maxRecDepth 100000 in
theorem t_sb42_J5_getValue_6d5f1 {P : List mh_C} (hP : P.length = 46) {I : mh_I} {L : mh_L}  : mh_CT yJ5_getValue_6d5f1 cJ5_getValue_6d5f1 1 (some (.array .byte)) (mh_rmc 0 0 0) (P ++ ([.inl (7, [.inr (some 49), .inl 0, .inl 0, .inl 0]), .inr (2, 16, mh_n), .inr (2, 60, mh_n), .inr (2, 122, mh_n), .inl (6, [.inr none, .inl 0, .inl 0, .inl 0])] : List mh_C)) I L [.ref 46] (mh_ret (some (.ref 49)) (P ++ ([.inl (7, [.inr (some 49), .inl 0, .inl 0, .inl 0]), .inr (2, 16, mh_n), .inr (2, 60, mh_n), .inr (2, 122, mh_n), .inl (6, [.inr none, .inl 0, .inl 0, .inl 0])] : List mh_C)) I L) := by
  refine mh_ofW (ini := false) RJ5 rfl (by decide) (fun h => by cases h) (Nat.le_of_ble_eq_true rfl) ?_
  generalize hn0 : (P ++ ([.inl (7, [.inr (some 49), .inl 0, .inl 0, .inl 0]), .inr (2, 16, mh_n), .inr (2, 60, mh_n), .inr (2, 122, mh_n), .inl (6, [.inr none, .inl 0, .inl 0, .inl 0])] : List mh_C)).length = n0
  replace hn0 : n0 = 51 := by rw [← hn0, sx_ln hP]; rfl
  show mh_W RJ5 cJ5_getValue_6d5f1 1 (some (.array .byte)) false (mh_rmc 0 0 0) n0 0 0 mh_noX (mh_ret (some (.ref 49)) (P ++ ([.inl (7, [.inr (some 49), .inl 0, .inl 0, .inl 0]), .inr (2, 16, mh_n), .inr (2, 60, mh_n), .inr (2, 122, mh_n), .inl (6, [.inr none, .inl 0, .inl 0, .inl 0])] : List mh_C)) I L) 0 (P ++ ([.inl (7, [.inr (some 49), .inl 0, .inl 0, .inl 0]), .inr (2, 16, mh_n), .inr (2, 60, mh_n), .inr (2, 122, mh_n), .inl (6, [.inr none, .inl 0, .inl 0, .inl 0])] : List mh_C)) I L 0 [(0, .ref 46)] []
  refine mw_aload_n dJ5_getValue_6d5f1_0 0 rfl ?_
  refine mw_getr (b := 49) (fs := [.inr (some 49), .inl 0, .inl 0, .inl 0]) gf_J5_15 dJ5_getValue_6d5f1_1 (sx_at hP (k := 0) rfl rfl) rfl ?_
  exact mw_aret dJ5_getValue_6d5f1_4 rfl (Or.inr ⟨_, rfl⟩) (sx_c0 hP hn0 (Nat.le_of_ble_eq_true rfl)) (Nat.le_of_ble_eq_true rfl) mh_ret_rfl
set_option maxHeartbeats 400000 in
set_option maxRecDepth 100000 in
theorem t_sb44_J5_length_8abf5 {P : List mh_C} (hP : P.length = 46) {I : mh_I} {L : mh_L}  (h46_3 : I 46 3 = (62 : Int32)) : mh_CT yJ5_length_8abf5 cJ5_length_8abf5 1 (some .int) (mh_rmc 0 0 0) (P ++ ([.inl (7, [.inr (some 49), .inl 0, .inl 0, .inl 0]), .inr (2, 16, mh_n), .inr (2, 60, mh_n), .inr (2, 122, mh_n), .inl (6, [.inr none, .inl 0, .inl 0, .inl 0])] : List mh_C)) I L [.ref 46] (mh_ret (some (.int (62 : Int32))) (P ++ ([.inl (7, [.inr (some 49), .inl 0, .inl 0, .inl 0]), .inr (2, 16, mh_n), .inr (2, 60, mh_n), .inr (2, 122, mh_n), .inl (6, [.inr none, .inl 0, .inl 0, .inl 0])] : List mh_C)) I L) := by
  refine mh_ofW (ini := false) RJ5 rfl (by decide) (fun h => by cases h) (Nat.le_of_ble_eq_true rfl) ?_
  generalize hn0 : (P ++ ([.inl (7, [.inr (some 49), .inl 0, .inl 0, .inl 0]), .inr (2, 16, mh_n), .inr (2, 60, mh_n), .inr (2, 122, mh_n), .inl (6, [.inr none, .inl 0, .inl 0, .inl 0])] : List mh_C)).length = n0
  replace hn0 : n0 = 51 := by rw [← hn0, sx_ln hP]; rfl
  show mh_W RJ5 cJ5_length_8abf5 1 (some .int) false (mh_rmc 0 0 0) n0 0 0 mh_noX (mh_ret (some (.int (62 : Int32))) (P ++ ([.inl (7, [.inr (some 49), .inl 0, .inl 0, .inl 0]), .inr (2, 16, mh_n), .inr (2, 60, mh_n), .inr (2, 122, mh_n), .inl (6, [.inr none, .inl 0, .inl 0, .inl 0])] : List mh_C)) I L) 0 (P ++ ([.inl (7, [.inr (some 49), .inl 0, .inl 0, .inl 0]), .inr (2, 16, mh_n), .inr (2, 60, mh_n), .inr (2, 122, mh_n), .inl (6, [.inr none, .inl 0, .inl 0, .inl 0])] : List mh_C)) I L 0 [(0, .ref 46)] []
  refine mw_aload_n dJ5_length_8abf5_0 0 rfl ?_
  refine mw_geti (fs := [.inr (some 49), .inl 0, .inl 0, .inl 0]) gf_J5_79 dJ5_length_8abf5_1 (sx_at hP (k := 0) rfl rfl) rfl ?_
  refine mw_nmi (v := (62 : Int32)) (show (I) 46 3 = (62 : Int32) from h46_3) ?_
  exact mw_iret dJ5_length_8abf5_4 rfl rfl (sx_c0 hP hn0 (Nat.le_of_ble_eq_true rfl)) (Nat.le_of_ble_eq_true rfl) mh_ret_rfl
set_option maxHeartbeats 400000 in
set_option maxRecDepth 100000 in
theorem t_sb43_J4_length_8abf5 {P : List mh_C} (hP : P.length = 46) {I : mh_I} {L : mh_L}  (h46_3 : I 46 3 = (62 : Int32)) : mh_CT yJ4_length_8abf5 cJ4_length_8abf5 1 (some .int) (mh_rmc 1 0 0) (P ++ ([.inl (7, [.inr (some 49), .inl 0, .inl 0, .inl 0]), .inr (2, 16, mh_n), .inr (2, 60, mh_n), .inr (2, 122, mh_n), .inl (6, [.inr none, .inl 0, .inl 0, .inl 0])] : List mh_C)) I L [.ref 46] (mh_ret (some (.int (62 : Int32))) (P ++ ([.inl (7, [.inr (some 49), .inl 0, .inl 0, .inl 0]), .inr (2, 16, mh_n), .inr (2, 60, mh_n), .inr (2, 122, mh_n), .inl (6, [.inr none, .inl 0, .inl 0, .inl 0])] : List mh_C)) I L) := by
  refine mh_ofW (ini := false) RJ4 rfl (by decide) (fun h => by cases h) (Nat.le_of_ble_eq_true rfl) ?_
  generalize hn0 : (P ++ ([.inl (7, [.inr (some 49), .inl 0, .inl 0, .inl 0]), .inr (2, 16, mh_n), .inr (2, 60, mh_n), .inr (2, 122, mh_n), .inl (6, [.inr none, .inl 0, .inl 0, .inl 0])] : List mh_C)).length = n0
  replace hn0 : n0 = 51 := by rw [← hn0, sx_ln hP]; rfl
  show mh_W RJ4 cJ4_length_8abf5 1 (some .int) false (mh_rmc 1 0 0) n0 0 0 mh_noX (mh_ret (some (.int (62 : Int32))) (P ++ ([.inl (7, [.inr (some 49), .inl 0, .inl 0, .inl 0]), .inr (2, 16, mh_n), .inr (2, 60, mh_n), .inr (2, 122, mh_n), .inl (6, [.inr none, .inl 0, .inl 0, .inl 0])] : List mh_C)) I L) 0 (P ++ ([.inl (7, [.inr (some 49), .inl 0, .inl 0, .inl 0]), .inr (2, 16, mh_n), .inr (2, 60, mh_n), .inr (2, 122, mh_n), .inl (6, [.inr none, .inl 0, .inl 0, .inl 0])] : List mh_C)) I L 0 [(0, .ref 46)] []
  refine mw_aload_n dJ4_length_8abf5_0 0 rfl ?_
  refine mwx_su (Rc := mh_rmc 0 0 0) (ci := 7) (fs := [.inr (some 49), .inl 0, .inl 0, .inl 0]) (T := TJ4) (N := 4) cS_J4_343 wd_642 dJ4_length_8abf5_1 [] [.ref 46] rfl rfl (sx_at hP (k := 0) rfl rfl) rfl (t_sb44_J5_length_8abf5 hP (show (I) 46 3 = (62 : Int32) from h46_3)) ⟨Nat.le_of_ble_eq_true rfl, Nat.le_of_ble_eq_true rfl⟩ (Nat.le_of_ble_eq_true rfl) ⟨sx_c hP hn0 (Nat.le_of_ble_eq_true rfl), Nat.le_of_ble_eq_true rfl⟩ (sx_l hP rfl) ?_
  refine mw_conv (slots' := 0) (sh' := (P ++ ([.inl (7, [.inr (some 49), .inl 0, .inl 0, .inl 0]), .inr (2, 16, mh_n), .inr (2, 60, mh_n), .inr (2, 122, mh_n), .inl (6, [.inr none, .inl 0, .inl 0, .inl 0])] : List mh_C))) (by decide) rfl ?_
  exact mw_iret dJ4_length_8abf5_4 rfl rfl (sx_c0 hP hn0 (Nat.le_of_ble_eq_true rfl)) (Nat.le_of_ble_eq_true rfl) mh_ret_rfl
set_option maxHeartbeats 400000 in
set_option maxRecDepth 100000 in
theorem t_sb45_J5_isLatin1_aae02 {P : List mh_C} (hP : P.length = 46) {I : mh_I} {L : mh_L}  (h46_1 : I 46 1 = (0 : Int32)) : mh_CT yJ5_isLatin1_aae02 cJ5_isLatin1_aae02 1 (some .boolean) (mh_rmc 0 0 0) (P ++ ([.inl (7, [.inr (some 49), .inl 0, .inl 0, .inl 0]), .inr (2, 16, mh_n), .inr (2, 60, mh_n), .inr (2, 122, mh_n), .inl (6, [.inr none, .inl 0, .inl 0, .inl 0])] : List mh_C)) I L [.ref 46] (mh_ret (some (.int (1 : Int32))) (P ++ ([.inl (7, [.inr (some 49), .inl 0, .inl 0, .inl 0]), .inr (2, 16, mh_n), .inr (2, 60, mh_n), .inr (2, 122, mh_n), .inl (6, [.inr none, .inl 0, .inl 0, .inl 0])] : List mh_C)) I L) := by
  refine mh_ofW (ini := false) RJ5 rfl (by decide) (fun h => by cases h) (Nat.le_of_ble_eq_true rfl) ?_
  generalize hn0 : (P ++ ([.inl (7, [.inr (some 49), .inl 0, .inl 0, .inl 0]), .inr (2, 16, mh_n), .inr (2, 60, mh_n), .inr (2, 122, mh_n), .inl (6, [.inr none, .inl 0, .inl 0, .inl 0])] : List mh_C)).length = n0
  replace hn0 : n0 = 51 := by rw [← hn0, sx_ln hP]; rfl
  show mh_W RJ5 cJ5_isLatin1_aae02 1 (some .boolean) false (mh_rmc 0 0 0) n0 0 0 mh_noX (mh_ret (some (.int (1 : Int32))) (P ++ ([.inl (7, [.inr (some 49), .inl 0, .inl 0, .inl 0]), .inr (2, 16, mh_n), .inr (2, 60, mh_n), .inr (2, 122, mh_n), .inl (6, [.inr none, .inl 0, .inl 0, .inl 0])] : List mh_C)) I L) 0 (P ++ ([.inl (7, [.inr (some 49), .inl 0, .inl 0, .inl 0]), .inr (2, 16, mh_n), .inr (2, 60, mh_n), .inr (2, 122, mh_n), .inl (6, [.inr none, .inl 0, .inl 0, .inl 0])] : List mh_C)) I L 0 [(0, .ref 46)] []
  refine mw_getsC wd_471 dJ5_isLatin1_aae02_0 ?_
  refine mw_if_eq (tgt := 17) dJ5_isLatin1_aae02_3 (by decide) (fun hc => absurd hc (by decide)) (fun hc => ?_)
  refine mw_aload_n dJ5_isLatin1_aae02_6 0 rfl ?_
  refine mw_geti (fs := [.inr (some 49), .inl 0, .inl 0, .inl 0]) gf_J5_22 dJ5_isLatin1_aae02_7 (sx_at hP (k := 0) rfl rfl) rfl ?_
  refine mw_nmi (v := (0 : Int32)) (show (I) 46 1 = (0 : Int32) from h46_1) ?_
  refine mw_if_ne (tgt := 17) dJ5_isLatin1_aae02_10 (by decide) (fun hc => absurd (by decide) hc) (fun hc => ?_)
  refine mw_iconst (v := 1) dJ5_isLatin1_aae02_13 (by decide) ?_
  refine mw_goto (tgt := 18) dJ5_isLatin1_aae02_14 (by decide) ?_
  exact mw_iret dJ5_isLatin1_aae02_18 rfl rfl (sx_c0 hP hn0 (Nat.le_of_ble_eq_true rfl)) (Nat.le_of_ble_eq_true rfl) mh_ret_rfl
set_option maxHeartbeats 400000 in
set_option maxRecDepth 100000 in
theorem t_sb48_J7_checkLength_df160 {P : List mh_C} (hP : P.length = 46) {I : mh_I} {L : mh_L}  : mh_CT yJ7_checkLength_df160 cJ7_checkLength_df160 2 none (mh_rmc 0 0 0) (P ++ ([.inl (7, [.inr (some 49), .inl 0, .inl 0, .inl 0]), .inr (2, 16, mh_n), .inr (2, 60, mh_n), .inr (2, 122, mh_n), .inl (6, [.inr none, .inl 0, .inl 0, .inl 0])] : List mh_C)) I L [.int (0 : Int32), .int (62 : Int32)] (mh_ret none (P ++ ([.inl (7, [.inr (some 49), .inl 0, .inl 0, .inl 0]), .inr (2, 16, mh_n), .inr (2, 60, mh_n), .inr (2, 122, mh_n), .inl (6, [.inr none, .inl 0, .inl 0, .inl 0])] : List mh_C)) I L) := by
  refine mh_ofW (ini := false) RJ7 rfl (by decide) (fun h => by cases h) (Nat.le_of_ble_eq_true rfl) ?_
  generalize hn0 : (P ++ ([.inl (7, [.inr (some 49), .inl 0, .inl 0, .inl 0]), .inr (2, 16, mh_n), .inr (2, 60, mh_n), .inr (2, 122, mh_n), .inl (6, [.inr none, .inl 0, .inl 0, .inl 0])] : List mh_C)).length = n0
  replace hn0 : n0 = 51 := by rw [← hn0, sx_ln hP]; rfl
  show mh_W RJ7 cJ7_checkLength_df160 2 none false (mh_rmc 0 0 0) n0 0 0 mh_noX (mh_ret none (P ++ ([.inl (7, [.inr (some 49), .inl 0, .inl 0, .inl 0]), .inr (2, 16, mh_n), .inr (2, 60, mh_n), .inr (2, 122, mh_n), .inl (6, [.inr none, .inl 0, .inl 0, .inl 0])] : List mh_C)) I L) 0 (P ++ ([.inl (7, [.inr (some 49), .inl 0, .inl 0, .inl 0]), .inr (2, 16, mh_n), .inr (2, 60, mh_n), .inr (2, 122, mh_n), .inl (6, [.inr none, .inl 0, .inl 0, .inl 0])] : List mh_C)) I L 0 [(0, .int (0 : Int32)), (1, .int (62 : Int32))] []
  refine mw_iload_n dJ7_checkLength_df160_0 1 rfl ?_
  refine mw_iload_n dJ7_checkLength_df160_1 0 rfl ?_
  refine mw_icmp_ge (tgt := 37) dJ7_checkLength_df160_2 (by decide) (fun hc => ?_) (fun hc => absurd (by decide) hc)
  exact mw_vret dJ7_checkLength_df160_37 rfl (sx_c0 hP hn0 (Nat.le_of_ble_eq_true rfl)) (Nat.le_of_ble_eq_true rfl) mh_ret_rfl
set_option maxHeartbeats 400000 in
set_option maxRecDepth 100000 in
theorem t_sb47_J7_copyOfRangeByte_39247 {P : List mh_C} (hP : P.length = 46) {I : mh_I} {L : mh_L}  (hf49 : sb_Fit (I 49)) : mh_CT yJ7_copyOfRangeByte_39247 cJ7_copyOfRangeByte_39247 5 (some (.array .byte)) (mh_rmc 1 1 62) (P ++ ([.inl (7, [.inr (some 49), .inl 0, .inl 0, .inl 0]), .inr (2, 16, mh_n), .inr (2, 60, mh_n), .inr (2, 122, mh_n), .inl (6, [.inr none, .inl 0, .inl 0, .inl 0])] : List mh_C)) I L [.ref 49, .int (0 : Int32), .int (62 : Int32)] (mh_ret (some (.ref 51)) (P ++ ([.inl (7, [.inr (some 49), .inl 0, .inl 0, .inl 0]), .inr (2, 16, mh_n), .inr (2, 60, mh_n), .inr (2, 122, mh_n), .inl (6, [.inr none, .inl 0, .inl 0, .inl 0]), .inr (2, 62, mh_n)] : List mh_C)) (mh_cpy (mh_z I 51) 49 51 0 0 62) (mh_zl L 51)) := by
  refine mh_ofW (ini := false) RJ7 rfl (by decide) (fun h => by cases h) (Nat.le_of_ble_eq_true rfl) ?_
  generalize hn0 : (P ++ ([.inl (7, [.inr (some 49), .inl 0, .inl 0, .inl 0]), .inr (2, 16, mh_n), .inr (2, 60, mh_n), .inr (2, 122, mh_n), .inl (6, [.inr none, .inl 0, .inl 0, .inl 0])] : List mh_C)).length = n0
  replace hn0 : n0 = 51 := by rw [← hn0, sx_ln hP]; rfl
  show mh_W RJ7 cJ7_copyOfRangeByte_39247 5 (some (.array .byte)) false (mh_rmc 1 1 62) n0 1 62 mh_noX (mh_ret (some (.ref 51)) (P ++ ([.inl (7, [.inr (some 49), .inl 0, .inl 0, .inl 0]), .inr (2, 16, mh_n), .inr (2, 60, mh_n), .inr (2, 122, mh_n), .inl (6, [.inr none, .inl 0, .inl 0, .inl 0]), .inr (2, 62, mh_n)] : List mh_C)) (mh_cpy (mh_z I 51) 49 51 0 0 62) (mh_zl L 51)) 0 (P ++ ([.inl (7, [.inr (some 49), .inl 0, .inl 0, .inl 0]), .inr (2, 16, mh_n), .inr (2, 60, mh_n), .inr (2, 122, mh_n), .inl (6, [.inr none, .inl 0, .inl 0, .inl 0])] : List mh_C)) I L 0 [(0, .ref 49), (1, .int (0 : Int32)), (2, .int (62 : Int32))] []
  refine mw_iload_n dJ7_copyOfRangeByte_39247_0 1 rfl ?_
  refine mw_iload_n dJ7_copyOfRangeByte_39247_1 2 rfl ?_
  refine mwx_s (Rc := mh_rmc 0 0 0) cs_J7_343 wd_652 dJ7_copyOfRangeByte_39247_2 [.int (0 : Int32), .int (62 : Int32)] [.int (62 : Int32), .int (0 : Int32)] rfl rfl (t_sb48_J7_checkLength_df160 hP ) ⟨Nat.le_of_ble_eq_true rfl, Nat.le_of_ble_eq_true rfl⟩ (Nat.le_of_ble_eq_true rfl) ⟨sx_c hP hn0 (Nat.le_of_ble_eq_true rfl), Nat.le_of_ble_eq_true rfl⟩ (sx_l hP rfl) ?_
  refine mw_conv (slots' := 0) (sh' := (P ++ ([.inl (7, [.inr (some 49), .inl 0, .inl 0, .inl 0]), .inr (2, 16, mh_n), .inr (2, 60, mh_n), .inr (2, 122, mh_n), .inl (6, [.inr none, .inl 0, .inl 0, .inl 0])] : List mh_C))) (by decide) rfl ?_
  refine mw_iload_n dJ7_copyOfRangeByte_39247_5 2 rfl ?_
  refine mw_iload_n dJ7_copyOfRangeByte_39247_6 1 rfl ?_
  refine mw_isub dJ7_copyOfRangeByte_39247_7 ?_
  refine mw_nmi (v := (62 : Int32)) (by decide) ?_
  refine mw_istore_n dJ7_copyOfRangeByte_39247_8 (by decide) rfl ?_
  refine mw_iload_n dJ7_copyOfRangeByte_39247_9 0 rfl ?_
  refine mw_newaE (a := 51) (t := 2) (N := 62) (by rw [sx_ln hP]; rfl) (Or.inr (Or.inr ⟨rfl, rfl⟩)) wd_438 dJ7_copyOfRangeByte_39247_10 (by decide) (by decide) (by decide) (Nat.le_of_ble_eq_true rfl) ⟨by rw [hn0]; exact Nat.le_of_ble_eq_true rfl, Nat.le_of_ble_eq_true rfl⟩ ?_
  refine mw_conv (slots' := 62) (sh' := (P ++ ([.inl (7, [.inr (some 49), .inl 0, .inl 0, .inl 0]), .inr (2, 16, mh_n), .inr (2, 60, mh_n), .inr (2, 122, mh_n), .inl (6, [.inr none, .inl 0, .inl 0, .inl 0]), .inr (2, 62, mh_n)] : List mh_C))) (by decide) (List.append_assoc _ _ _) ?_
  refine mw_astore dJ7_copyOfRangeByte_39247_12 (by decide) rfl ?_
  refine mw_aload_n dJ7_copyOfRangeByte_39247_14 2 rfl ?_
  refine mw_iload_n dJ7_copyOfRangeByte_39247_15 3 rfl ?_
  refine mw_aload dJ7_copyOfRangeByte_39247_16 0 rfl ?_
  refine mw_iconst (v := 0) dJ7_copyOfRangeByte_39247_18 (by decide) ?_
  refine mw_aload_n dJ7_copyOfRangeByte_39247_19 2 rfl ?_
  refine mw_alen8 (v := (122 : Int32)) dJ7_copyOfRangeByte_39247_20 (sx_at hP (k := 3) rfl rfl) rfl ?_
  refine mw_iload_n dJ7_copyOfRangeByte_39247_21 3 rfl ?_
  refine mw_isub dJ7_copyOfRangeByte_39247_22 ?_
  refine mw_nmi (v := (122 : Int32)) (by decide) ?_
  refine mw_iload_n dJ7_copyOfRangeByte_39247_23 1 rfl ?_
  refine mwx_min wd_531 ⟨wd_88, wd_14, wd_89⟩ dJ7_copyOfRangeByte_39247_24 (by decide) (by decide) ⟨sx_c0 hP hn0 (Nat.le_of_ble_eq_true rfl), Nat.le_of_ble_eq_true rfl⟩ ?_
  refine mw_nmi (v := (62 : Int32)) (by decide) ?_
  refine mwx_copy8 (sp' := 0) (dp' := 0) (n' := 62) wd_532 dJ7_copyOfRangeByte_39247_27 (sx_at hP (k := 3) rfl rfl) (sx_at hP (k := 5) rfl rfl) (by decide) (by decide) (by decide) (by decide) (by decide) (by decide) (by decide) (by decide) (fun k _ => (show sb_Fit (((mh_z I 51)) 49) from hf49) _) ⟨wd_534, wd_533, wd_16⟩ ⟨by decide, by decide⟩ ?_
  refine mw_aload dJ7_copyOfRangeByte_39247_30 0 rfl ?_
  exact mw_aret dJ7_copyOfRangeByte_39247_32 rfl (Or.inr ⟨_, rfl⟩) (sx_c0 hP hn0 (Nat.le_of_ble_eq_true rfl)) (Nat.le_of_ble_eq_true rfl) mh_ret_rfl
set_option maxHeartbeats 400000 in
set_option maxRecDepth 100000 in
theorem t_sb46_J7_copyOfRange_39247 {P : List mh_C} (hP : P.length = 46) {I : mh_I} {L : mh_L}  (hf49 : sb_Fit (I 49)) : mh_CT yJ7_copyOfRange_39247 cJ7_copyOfRange_39247 3 (some (.array .byte)) (mh_rmc 2 1 62) (P ++ ([.inl (7, [.inr (some 49), .inl 0, .inl 0, .inl 0]), .inr (2, 16, mh_n), .inr (2, 60, mh_n), .inr (2, 122, mh_n), .inl (6, [.inr none, .inl 0, .inl 0, .inl 0])] : List mh_C)) I L [.ref 49, .int (0 : Int32), .int (62 : Int32)] (mh_ret (some (.ref 51)) (P ++ ([.inl (7, [.inr (some 49), .inl 0, .inl 0, .inl 0]), .inr (2, 16, mh_n), .inr (2, 60, mh_n), .inr (2, 122, mh_n), .inl (6, [.inr none, .inl 0, .inl 0, .inl 0]), .inr (2, 62, mh_n)] : List mh_C)) (mh_cpy (mh_z I 51) 49 51 0 0 62) (mh_zl L 51)) := by
  refine mh_ofW (ini := false) RJ7 rfl (by decide) (fun h => by cases h) (Nat.le_of_ble_eq_true rfl) ?_
  generalize hn0 : (P ++ ([.inl (7, [.inr (some 49), .inl 0, .inl 0, .inl 0]), .inr (2, 16, mh_n), .inr (2, 60, mh_n), .inr (2, 122, mh_n), .inl (6, [.inr none, .inl 0, .inl 0, .inl 0])] : List mh_C)).length = n0
  replace hn0 : n0 = 51 := by rw [← hn0, sx_ln hP]; rfl
  show mh_W RJ7 cJ7_copyOfRange_39247 3 (some (.array .byte)) false (mh_rmc 2 1 62) n0 1 62 mh_noX (mh_ret (some (.ref 51)) (P ++ ([.inl (7, [.inr (some 49), .inl 0, .inl 0, .inl 0]), .inr (2, 16, mh_n), .inr (2, 60, mh_n), .inr (2, 122, mh_n), .inl (6, [.inr none, .inl 0, .inl 0, .inl 0]), .inr (2, 62, mh_n)] : List mh_C)) (mh_cpy (mh_z I 51) 49 51 0 0 62) (mh_zl L 51)) 0 (P ++ ([.inl (7, [.inr (some 49), .inl 0, .inl 0, .inl 0]), .inr (2, 16, mh_n), .inr (2, 60, mh_n), .inr (2, 122, mh_n), .inl (6, [.inr none, .inl 0, .inl 0, .inl 0])] : List mh_C)) I L 0 [(0, .ref 49), (1, .int (0 : Int32)), (2, .int (62 : Int32))] []
  refine mw_iload_n dJ7_copyOfRange_39247_0 1 rfl ?_
  refine mw_if_ne (tgt := 10) dJ7_copyOfRange_39247_1 (by decide) (fun hc => absurd (by decide) hc) (fun hc => ?_)
  refine mw_iload_n dJ7_copyOfRange_39247_4 2 rfl ?_
  refine mw_aload_n dJ7_copyOfRange_39247_5 0 rfl ?_
  refine mw_alen8 (v := (122 : Int32)) dJ7_copyOfRange_39247_6 (sx_at hP (k := 3) rfl rfl) rfl ?_
  refine mw_icmp_eq (tgt := 17) dJ7_copyOfRange_39247_7 (by decide) (fun hc => absurd hc (by decide)) (fun hc => ?_)
  refine mw_aload_n dJ7_copyOfRange_39247_10 0 rfl ?_
  refine mw_iload_n dJ7_copyOfRange_39247_11 1 rfl ?_
  refine mw_iload_n dJ7_copyOfRange_39247_12 2 rfl ?_
  refine mwx_s (Rc := mh_rmc 1 1 62) cs_J7_339 wd_649 dJ7_copyOfRange_39247_13 [.ref 49, .int (0 : Int32), .int (62 : Int32)] [.int (62 : Int32), .int (0 : Int32), .ref 49] rfl rfl (t_sb47_J7_copyOfRangeByte_39247 hP (show sb_Fit ((I) 49) from hf49)) ⟨Nat.le_of_ble_eq_true rfl, Nat.le_of_ble_eq_true rfl⟩ (Nat.le_of_ble_eq_true rfl) ⟨sx_c hP hn0 (Nat.le_of_ble_eq_true rfl), Nat.le_of_ble_eq_true rfl⟩ (sx_l hP rfl) ?_
  refine mw_conv (slots' := 62) (sh' := (P ++ ([.inl (7, [.inr (some 49), .inl 0, .inl 0, .inl 0]), .inr (2, 16, mh_n), .inr (2, 60, mh_n), .inr (2, 122, mh_n), .inl (6, [.inr none, .inl 0, .inl 0, .inl 0]), .inr (2, 62, mh_n)] : List mh_C))) (by decide) rfl ?_
  exact mw_aret dJ7_copyOfRange_39247_16 rfl (Or.inr ⟨_, rfl⟩) (sx_c0 hP hn0 (Nat.le_of_ble_eq_true rfl)) (Nat.le_of_ble_eq_true rfl) mh_ret_rfl
set_option maxHeartbeats 400000 in
set_option maxRecDepth 100000 in
theorem t_sb41_J0_init_db425 {P : List mh_C} (hP : P.length = 46) {I : mh_I} {L : mh_L}  (h46_1 : I 46 1 = (0 : Int32)) (h46_3 : I 46 3 = (62 : Int32)) (hf49 : sb_Fit (I 49)) : mh_CT yJ0_init_db425 cJ0_init_db425 5 none (mh_rmc 3 1 62) (P ++ ([.inl (7, [.inr (some 49), .inl 0, .inl 0, .inl 0]), .inr (2, 16, mh_n), .inr (2, 60, mh_n), .inr (2, 122, mh_n), .inl (6, [.inr none, .inl 0, .inl 0, .inl 0])] : List mh_C)) I L [.ref 50, .ref 46, .null] (mh_ret none (P ++ ([.inl (7, [.inr (some 49), .inl 0, .inl 0, .inl 0]), .inr (2, 16, mh_n), .inr (2, 60, mh_n), .inr (2, 122, mh_n), .inl (6, [.inr (some 51), .inl 0, .inl 0, .inl 0]), .inr (2, 62, mh_n)] : List mh_C)) (mh_cpy (mh_z (mh_u I 50 1 (0 : Int32)) 51) 49 51 0 0 62) (mh_zl L 51)) := by
  refine mh_ofW (ini := true) RJ0 rfl (by decide) (fun h => rfl) (Nat.le_of_ble_eq_true rfl) ?_
  generalize hn0 : (P ++ ([.inl (7, [.inr (some 49), .inl 0, .inl 0, .inl 0]), .inr (2, 16, mh_n), .inr (2, 60, mh_n), .inr (2, 122, mh_n), .inl (6, [.inr none, .inl 0, .inl 0, .inl 0])] : List mh_C)).length = n0
  replace hn0 : n0 = 51 := by rw [← hn0, sx_ln hP]; rfl
  show mh_W RJ0 cJ0_init_db425 5 none true (mh_rmc 3 1 62) n0 1 62 mh_noX (mh_ret none (P ++ ([.inl (7, [.inr (some 49), .inl 0, .inl 0, .inl 0]), .inr (2, 16, mh_n), .inr (2, 60, mh_n), .inr (2, 122, mh_n), .inl (6, [.inr (some 51), .inl 0, .inl 0, .inl 0]), .inr (2, 62, mh_n)] : List mh_C)) (mh_cpy (mh_z (mh_u I 50 1 (0 : Int32)) 51) 49 51 0 0 62) (mh_zl L 51)) 0 (P ++ ([.inl (7, [.inr (some 49), .inl 0, .inl 0, .inl 0]), .inr (2, 16, mh_n), .inr (2, 60, mh_n), .inr (2, 122, mh_n), .inl (6, [.inr none, .inl 0, .inl 0, .inl 0])] : List mh_C)) I L 0 [(0, .ref 50), (1, .ref 46), (2, .null)] []
  refine mw_aload_n dJ0_init_db425_0 0 rfl ?_
  refine mw_oinit ⟨wd_629, wd_178, wd_179⟩ dJ0_init_db425_1 ⟨by decide, by decide⟩ ?_
  refine mw_aload_n dJ0_init_db425_4 1 rfl ?_
  refine mwx_vc (Rc := mh_rmc 0 0 0) (ci := 7) (fs := [.inr (some 49), .inl 0, .inl 0, .inl 0]) (T := TJ4) (N := 4) cC_J0_552 wd_634 dJ0_init_db425_5 [] [.ref 46] rfl rfl (sx_at hP (k := 0) rfl rfl) rfl (t_sb42_J5_getValue_6d5f1 hP ) ⟨Nat.le_of_ble_eq_true rfl, Nat.le_of_ble_eq_true rfl⟩ (Nat.le_of_ble_eq_true rfl) ⟨sx_c hP hn0 (Nat.le_of_ble_eq_true rfl), Nat.le_of_ble_eq_true rfl⟩ (sx_l hP rfl) ?_
  refine mw_conv (slots' := 0) (sh' := (P ++ ([.inl (7, [.inr (some 49), .inl 0, .inl 0, .inl 0]), .inr (2, 16, mh_n), .inr (2, 60, mh_n), .inr (2, 122, mh_n), .inl (6, [.inr none, .inl 0, .inl 0, .inl 0])] : List mh_C))) (by decide) rfl ?_
  refine mw_astore_n dJ0_init_db425_8 (by decide) rfl ?_
  refine mw_aload_n dJ0_init_db425_9 2 rfl ?_
  refine mwx_vu (Rc := mh_rmc 1 0 0) (ci := 7) (fs := [.inr (some 49), .inl 0, .inl 0, .inl 0]) (T := TJ4) (N := 4) cU_J0_549 wd_640 dJ0_init_db425_10 [] [.ref 46] rfl rfl (sx_at hP (k := 0) rfl rfl) rfl (t_sb43_J4_length_8abf5 hP (show (I) 46 3 = (62 : Int32) from h46_3)) ⟨Nat.le_of_ble_eq_true rfl, Nat.le_of_ble_eq_true rfl⟩ (Nat.le_of_ble_eq_true rfl) ⟨sx_c hP hn0 (Nat.le_of_ble_eq_true rfl), Nat.le_of_ble_eq_true rfl⟩ (sx_l hP rfl) ?_
  refine mw_conv (slots' := 0) (sh' := (P ++ ([.inl (7, [.inr (some 49), .inl 0, .inl 0, .inl 0]), .inr (2, 16, mh_n), .inr (2, 60, mh_n), .inr (2, 122, mh_n), .inl (6, [.inr none, .inl 0, .inl 0, .inl 0])] : List mh_C))) (by decide) rfl ?_
  refine mw_istore dJ0_init_db425_13 (by decide) rfl ?_
  refine mw_aload_n dJ0_init_db425_15 3 rfl ?_
  refine mwx_vc (Rc := mh_rmc 0 0 0) (ci := 7) (fs := [.inr (some 49), .inl 0, .inl 0, .inl 0]) (T := TJ4) (N := 4) cC_J0_1047 wd_539 dJ0_init_db425_16 [] [.ref 46] rfl rfl (sx_at hP (k := 0) rfl rfl) rfl (t_sb45_J5_isLatin1_aae02 hP (show (I) 46 1 = (0 : Int32) from h46_1)) ⟨Nat.le_of_ble_eq_true rfl, Nat.le_of_ble_eq_true rfl⟩ (Nat.le_of_ble_eq_true rfl) ⟨sx_c hP hn0 (Nat.le_of_ble_eq_true rfl), Nat.le_of_ble_eq_true rfl⟩ (sx_l hP rfl) ?_
  refine mw_conv (slots' := 0) (sh' := (P ++ ([.inl (7, [.inr (some 49), .inl 0, .inl 0, .inl 0]), .inr (2, 16, mh_n), .inr (2, 60, mh_n), .inr (2, 122, mh_n), .inl (6, [.inr none, .inl 0, .inl 0, .inl 0])] : List mh_C))) (by decide) rfl ?_
  refine mw_if_eq (tgt := 41) dJ0_init_db425_19 (by decide) (fun hc => absurd hc (by decide)) (fun hc => ?_)
  refine mw_aload_n dJ0_init_db425_22 2 rfl ?_
  refine mw_iconst (v := 0) dJ0_init_db425_23 (by decide) ?_
  refine mw_puti (fs := [.inr none, .inl 0, .inl 0, .inl 0]) pf_J0_15 (fun _ => rfl) rfl rfl dJ0_init_db425_24 (sx_at hP (k := 4) rfl rfl) rfl ?_
  refine mw_aload_n dJ0_init_db425_27 2 rfl ?_
  refine mw_aload_n dJ0_init_db425_28 1 rfl ?_
  refine mw_iconst (v := 0) dJ0_init_db425_29 (by decide) ?_
  refine mw_iload dJ0_init_db425_30 0 rfl ?_
  refine mwx_s (Rc := mh_rmc 2 1 62) cs_J0_54 wd_646 dJ0_init_db425_32 [.ref 49, .int (0 : Int32), .int (62 : Int32)] [.int (62 : Int32), .int (0 : Int32), .ref 49, .ref 50] rfl rfl (t_sb46_J7_copyOfRange_39247 hP (show sb_Fit (((mh_u I 50 1 (0 : Int32))) 49) from hf49)) ⟨Nat.le_of_ble_eq_true rfl, Nat.le_of_ble_eq_true rfl⟩ (Nat.le_of_ble_eq_true rfl) ⟨sx_c hP hn0 (Nat.le_of_ble_eq_true rfl), Nat.le_of_ble_eq_true rfl⟩ (sx_l hP rfl) ?_
  refine mw_conv (slots' := 62) (sh' := (P ++ ([.inl (7, [.inr (some 49), .inl 0, .inl 0, .inl 0]), .inr (2, 16, mh_n), .inr (2, 60, mh_n), .inr (2, 122, mh_n), .inl (6, [.inr none, .inl 0, .inl 0, .inl 0]), .inr (2, 62, mh_n)] : List mh_C))) (by decide) rfl ?_
  refine mw_putr (fs := [.inr none, .inl 0, .inl 0, .inl 0]) pf_J0_9 (fun _ => rfl) rfl dJ0_init_db425_35 (sx_at hP (k := 4) rfl rfl) (Nat.le_of_ble_eq_true rfl) ?_
  refine mw_conv (slots' := 62) (sh' := (P ++ ([.inl (7, [.inr (some 49), .inl 0, .inl 0, .inl 0]), .inr (2, 16, mh_n), .inr (2, 60, mh_n), .inr (2, 122, mh_n), .inl (6, [.inr (some 51), .inl 0, .inl 0, .inl 0]), .inr (2, 62, mh_n)] : List mh_C))) (by decide) (sx_set hP (k := 4) rfl) ?_
  refine mw_goto (tgt := 97) dJ0_init_db425_38 (by decide) ?_
  exact mw_vret dJ0_init_db425_97 rfl (sx_c0 hP hn0 (Nat.le_of_ble_eq_true rfl)) (Nat.le_of_ble_eq_true rfl) mh_ret_rfl
set_option maxHeartbeats 400000 in
set_option maxRecDepth 100000 in
theorem t_sb40_J0_init_81219 {P : List mh_C} (hP : P.length = 46) {I : mh_I} {L : mh_L}  (h46_1 : I 46 1 = (0 : Int32)) (h46_3 : I 46 3 = (62 : Int32)) (hf49 : sb_Fit (I 49)) : mh_CT yJ0_init_81219 cJ0_init_81219 2 none (mh_rmc 4 1 62) (P ++ ([.inl (7, [.inr (some 49), .inl 0, .inl 0, .inl 0]), .inr (2, 16, mh_n), .inr (2, 60, mh_n), .inr (2, 122, mh_n), .inl (6, [.inr none, .inl 0, .inl 0, .inl 0])] : List mh_C)) I L [.ref 50, .ref 46] (mh_ret none (P ++ ([.inl (7, [.inr (some 49), .inl 0, .inl 0, .inl 0]), .inr (2, 16, mh_n), .inr (2, 60, mh_n), .inr (2, 122, mh_n), .inl (6, [.inr (some 51), .inl 0, .inl 0, .inl 0]), .inr (2, 62, mh_n)] : List mh_C)) (mh_cpy (mh_z (mh_u I 50 1 (0 : Int32)) 51) 49 51 0 0 62) (mh_zl L 51)) := by
  refine mh_ofW (ini := true) RJ0 rfl (by decide) (fun h => rfl) (Nat.le_of_ble_eq_true rfl) ?_
  generalize hn0 : (P ++ ([.inl (7, [.inr (some 49), .inl 0, .inl 0, .inl 0]), .inr (2, 16, mh_n), .inr (2, 60, mh_n), .inr (2, 122, mh_n), .inl (6, [.inr none, .inl 0, .inl 0, .inl 0])] : List mh_C)).length = n0
  replace hn0 : n0 = 51 := by rw [← hn0, sx_ln hP]; rfl
  show mh_W RJ0 cJ0_init_81219 2 none true (mh_rmc 4 1 62) n0 1 62 mh_noX (mh_ret none (P ++ ([.inl (7, [.inr (some 49), .inl 0, .inl 0, .inl 0]), .inr (2, 16, mh_n), .inr (2, 60, mh_n), .inr (2, 122, mh_n), .inl (6, [.inr (some 51), .inl 0, .inl 0, .inl 0]), .inr (2, 62, mh_n)] : List mh_C)) (mh_cpy (mh_z (mh_u I 50 1 (0 : Int32)) 51) 49 51 0 0 62) (mh_zl L 51)) 0 (P ++ ([.inl (7, [.inr (some 49), .inl 0, .inl 0, .inl 0]), .inr (2, 16, mh_n), .inr (2, 60, mh_n), .inr (2, 122, mh_n), .inl (6, [.inr none, .inl 0, .inl 0, .inl 0])] : List mh_C)) I L 0 [(0, .ref 50), (1, .ref 46)] []
  refine mw_aload_n dJ0_init_81219_0 0 rfl ?_
  refine mw_aload_n dJ0_init_81219_1 1 rfl ?_
  refine mw_null dJ0_init_81219_2 ?_
  refine mw_ir (Rc := mh_rmc 3 1 62) ci_J0_489 wd_628 dJ0_init_81219_3 [.ref 46, .null] [.null, .ref 46, .ref 50] rfl rfl (t_sb41_J0_init_db425 hP (show (I) 46 1 = (0 : Int32) from h46_1) (show (I) 46 3 = (62 : Int32) from h46_3) (show sb_Fit ((I) 49) from hf49)) ⟨Nat.le_of_ble_eq_true rfl, Nat.le_of_ble_eq_true rfl⟩ (Nat.le_of_ble_eq_true rfl) ⟨sx_c hP hn0 (Nat.le_of_ble_eq_true rfl), Nat.le_of_ble_eq_true rfl⟩ (sx_l hP rfl) ?_
  refine mw_conv (slots' := 62) (sh' := (P ++ ([.inl (7, [.inr (some 49), .inl 0, .inl 0, .inl 0]), .inr (2, 16, mh_n), .inr (2, 60, mh_n), .inr (2, 122, mh_n), .inl (6, [.inr (some 51), .inl 0, .inl 0, .inl 0]), .inr (2, 62, mh_n)] : List mh_C))) (by decide) rfl ?_
  exact mw_vret dJ0_init_81219_6 rfl (sx_c0 hP hn0 (Nat.le_of_ble_eq_true rfl)) (Nat.le_of_ble_eq_true rfl) mh_ret_rfl
set_option maxHeartbeats 400000 in
set_option maxRecDepth 100000 in
theorem t_sb39_J4_toString_0e30d {P : List mh_C} (hP : P.length = 46) {I : mh_I} {L : mh_L}  (h46_1 : I 46 1 = (0 : Int32)) (h46_3 : I 46 3 = (62 : Int32)) (hf49 : sb_Fit (I 49)) : mh_CT yJ4_toString_0e30d cJ4_toString_0e30d 1 (some (.object RJ0)) (mh_rmc 5 2 66) (P ++ ([.inl (7, [.inr (some 49), .inl 0, .inl 0, .inl 0]), .inr (2, 16, mh_n), .inr (2, 60, mh_n), .inr (2, 122, mh_n)] : List mh_C)) I L [.ref 46] (mh_ret (some (.ref 50)) (P ++ ([.inl (7, [.inr (some 49), .inl 0, .inl 0, .inl 0]), .inr (2, 16, mh_n), .inr (2, 60, mh_n), .inr (2, 122, mh_n), .inl (6, [.inr (some 51), .inl 0, .inl 0, .inl 0]), .inr (2, 62, mh_n)] : List mh_C)) (mh_cpy (mh_z (mh_u (mh_z I 50) 50 1 (0 : Int32)) 51) 49 51 0 0 62) (mh_zl (mh_zl L 50) 51)) := by
  refine mh_ofW (ini := false) RJ4 rfl (by decide) (fun h => by cases h) (Nat.le_of_ble_eq_true rfl) ?_
  generalize hn0 : (P ++ ([.inl (7, [.inr (some 49), .inl 0, .inl 0, .inl 0]), .inr (2, 16, mh_n), .inr (2, 60, mh_n), .inr (2, 122, mh_n)] : List mh_C)).length = n0
  replace hn0 : n0 = 50 := by rw [← hn0, sx_ln hP]; rfl
  show mh_W RJ4 cJ4_toString_0e30d 1 (some (.object RJ0)) false (mh_rmc 5 2 66) n0 2 66 mh_noX (mh_ret (some (.ref 50)) (P ++ ([.inl (7, [.inr (some 49), .inl 0, .inl 0, .inl 0]), .inr (2, 16, mh_n), .inr (2, 60, mh_n), .inr (2, 122, mh_n), .inl (6, [.inr (some 51), .inl 0, .inl 0, .inl 0]), .inr (2, 62, mh_n)] : List mh_C)) (mh_cpy (mh_z (mh_u (mh_z I 50) 50 1 (0 : Int32)) 51) 49 51 0 0 62) (mh_zl (mh_zl L 50) 51)) 0 (P ++ ([.inl (7, [.inr (some 49), .inl 0, .inl 0, .inl 0]), .inr (2, 16, mh_n), .inr (2, 60, mh_n), .inr (2, 122, mh_n)] : List mh_C)) I L 0 [(0, .ref 46)] []
  refine mw_newE (a := 50) (by rw [sx_ln hP]; rfl) nw_J4_18 dJ4_toString_0e30d_0 (Nat.le_of_ble_eq_true rfl) ⟨by rw [hn0]; exact Nat.le_of_ble_eq_true rfl, Nat.le_of_ble_eq_true rfl⟩ ?_
  refine mw_conv (slots' := 4) (sh' := (P ++ ([.inl (7, [.inr (some 49), .inl 0, .inl 0, .inl 0]), .inr (2, 16, mh_n), .inr (2, 60, mh_n), .inr (2, 122, mh_n), .inl (6, [.inr none, .inl 0, .inl 0, .inl 0])] : List mh_C))) (by decide) (List.append_assoc _ _ _) ?_
  refine mw_dup dJ4_toString_0e30d_3 rfl ?_
  refine mw_aload_n dJ4_toString_0e30d_4 0 rfl ?_
  refine mw_ir (Rc := mh_rmc 4 1 62) ci_J4_137 wd_625 dJ4_toString_0e30d_5 [.ref 46] [.ref 46, .ref 50, .ref 50] rfl rfl (t_sb40_J0_init_81219 hP (show ((mh_z I 50)) 46 1 = (0 : Int32) from h46_1) (show ((mh_z I 50)) 46 3 = (62 : Int32) from h46_3) (show sb_Fit (((mh_z I 50)) 49) from hf49)) ⟨Nat.le_of_ble_eq_true rfl, Nat.le_of_ble_eq_true rfl⟩ (Nat.le_of_ble_eq_true rfl) ⟨sx_c hP hn0 (Nat.le_of_ble_eq_true rfl), Nat.le_of_ble_eq_true rfl⟩ (sx_l hP rfl) ?_
  refine mw_conv (slots' := 66) (sh' := (P ++ ([.inl (7, [.inr (some 49), .inl 0, .inl 0, .inl 0]), .inr (2, 16, mh_n), .inr (2, 60, mh_n), .inr (2, 122, mh_n), .inl (6, [.inr (some 51), .inl 0, .inl 0, .inl 0]), .inr (2, 62, mh_n)] : List mh_C))) (by decide) rfl ?_
  exact mw_aret dJ4_toString_0e30d_8 rfl (Or.inl ⟨_, rfl⟩) (sx_c0 hP hn0 (Nat.le_of_ble_eq_true rfl)) (Nat.le_of_ble_eq_true rfl) mh_ret_rfl
