def E6 : List mh_C := [.inl (7, [.inr (some 49), .inl 0, .inl 0, .inl 0]), .inr (2, 16, mh_n), .inr (2, 60, mh_n), .inr (2, 122, mh_n), .inl (6, [.inr (some 51), .inl 0, .inl 0, .inl 0]), .inr (2, 62, mh_n)]
set_option maxHeartbeats 400000 in
set_option maxRecDepth 100000 in
theorem t_sb50_J0_coder_7d493 {P : List mh_C} (hP : P.length = 46) {I : mh_I} {L : mh_L}  (h50_1 : I 50 1 = (0 : Int32)) : mh_CT yJ0_coder_7d493 cJ0_coder_7d493 1 (some .byte) (mh_rmc 0 0 0) (P ++ ([.inl (7, [.inr (some 49), .inl 0, .inl 0, .inl 0]), .inr (2, 16, mh_n), .inr (2, 60, mh_n), .inr (2, 122, mh_n), .inl (6, [.inr (some 51), .inl 0, .inl 0, .inl 0]), .inr (2, 62, mh_n)] : List mh_C)) I L [.ref 50] (mh_ret (some (.int (0 : Int32))) (P ++ ([.inl (7, [.inr (some 49), .inl 0, .inl 0, .inl 0]), .inr (2, 16, mh_n), .inr (2, 60, mh_n), .inr (2, 122, mh_n), .inl (6, [.inr (some 51), .inl 0, .inl 0, .inl 0]), .inr (2, 62, mh_n)] : List mh_C)) I L) := by
  refine mh_ofW (ini := false) RJ0 rfl (by decide) (fun h => by cases h) (Nat.le_of_ble_eq_true rfl) ?_
  generalize hn0 : (P ++ ([.inl (7, [.inr (some 49), .inl 0, .inl 0, .inl 0]), .inr (2, 16, mh_n), .inr (2, 60, mh_n), .inr (2, 122, mh_n), .inl (6, [.inr (some 51), .inl 0, .inl 0, .inl 0]), .inr (2, 62, mh_n)] : List mh_C)).length = n0
  replace hn0 : n0 = 52 := by rw [← hn0, sx_ln hP]; rfl
  show mh_W RJ0 cJ0_coder_7d493 1 (some .byte) false (mh_rmc 0 0 0) n0 0 0 mh_noX (mh_ret (some (.int (0 : Int32))) (P ++ ([.inl (7, [.inr (some 49), .inl 0, .inl 0, .inl 0]), .inr (2, 16, mh_n), .inr (2, 60, mh_n), .inr (2, 122, mh_n), .inl (6, [.inr (some 51), .inl 0, .inl 0, .inl 0]), .inr (2, 62, mh_n)] : List mh_C)) I L) 0 (P ++ ([.inl (7, [.inr (some 49), .inl 0, .inl 0, .inl 0]), .inr (2, 16, mh_n), .inr (2, 60, mh_n), .inr (2, 122, mh_n), .inl (6, [.inr (some 51), .inl 0, .inl 0, .inl 0]), .inr (2, 62, mh_n)] : List mh_C)) I L 0 [(0, .ref 50)] []
  refine mw_getsC wd_303 dJ0_coder_7d493_0 ?_
  refine mw_if_eq (tgt := 13) dJ0_coder_7d493_3 (by decide) (fun hc => absurd hc (by decide)) (fun hc => ?_)
  refine mw_aload_n dJ0_coder_7d493_6 0 rfl ?_
  refine mw_geti (fs := [.inr (some 51), .inl 0, .inl 0, .inl 0]) gf_J0_15 dJ0_coder_7d493_7 (sx_at hP (k := 4) rfl rfl) rfl ?_
  refine mw_nmi (v := (0 : Int32)) (show (I) 50 1 = (0 : Int32) from h50_1) ?_
  refine mw_goto (tgt := 14) dJ0_coder_7d493_10 (by decide) ?_
  exact mw_iret dJ0_coder_7d493_14 rfl rfl (sx_c0 hP hn0 (Nat.le_of_ble_eq_true rfl)) (Nat.le_of_ble_eq_true rfl) mh_ret_rfl
set_option maxHeartbeats 400000 in
set_option maxRecDepth 100000 in
theorem t_sb49_J0_length_8abf5 {P : List mh_C} (hP : P.length = 46) {I : mh_I} {L : mh_L}  (h50_1 : I 50 1 = (0 : Int32)) : mh_CT yJ0_length_8abf5 cJ0_length_8abf5 1 (some .int) (mh_rmc 1 0 0) (P ++ ([.inl (7, [.inr (some 49), .inl 0, .inl 0, .inl 0]), .inr (2, 16, mh_n), .inr (2, 60, mh_n), .inr (2, 122, mh_n), .inl (6, [.inr (some 51), .inl 0, .inl 0, .inl 0]), .inr (2, 62, mh_n)] : List mh_C)) I L [.ref 50] (mh_ret (some (.int (62 : Int32))) (P ++ ([.inl (7, [.inr (some 49), .inl 0, .inl 0, .inl 0]), .inr (2, 16, mh_n), .inr (2, 60, mh_n), .inr (2, 122, mh_n), .inl (6, [.inr (some 51), .inl 0, .inl 0, .inl 0]), .inr (2, 62, mh_n)] : List mh_C)) I L) := by
  refine mh_ofW (ini := false) RJ0 rfl (by decide) (fun h => by cases h) (Nat.le_of_ble_eq_true rfl) ?_
  generalize hn0 : (P ++ ([.inl (7, [.inr (some 49), .inl 0, .inl 0, .inl 0]), .inr (2, 16, mh_n), .inr (2, 60, mh_n), .inr (2, 122, mh_n), .inl (6, [.inr (some 51), .inl 0, .inl 0, .inl 0]), .inr (2, 62, mh_n)] : List mh_C)).length = n0
  replace hn0 : n0 = 52 := by rw [← hn0, sx_ln hP]; rfl
  show mh_W RJ0 cJ0_length_8abf5 1 (some .int) false (mh_rmc 1 0 0) n0 0 0 mh_noX (mh_ret (some (.int (62 : Int32))) (P ++ ([.inl (7, [.inr (some 49), .inl 0, .inl 0, .inl 0]), .inr (2, 16, mh_n), .inr (2, 60, mh_n), .inr (2, 122, mh_n), .inl (6, [.inr (some 51), .inl 0, .inl 0, .inl 0]), .inr (2, 62, mh_n)] : List mh_C)) I L) 0 (P ++ ([.inl (7, [.inr (some 49), .inl 0, .inl 0, .inl 0]), .inr (2, 16, mh_n), .inr (2, 60, mh_n), .inr (2, 122, mh_n), .inl (6, [.inr (some 51), .inl 0, .inl 0, .inl 0]), .inr (2, 62, mh_n)] : List mh_C)) I L 0 [(0, .ref 50)] []
  refine mw_aload_n dJ0_length_8abf5_0 0 rfl ?_
  refine mw_getr (b := 51) (fs := [.inr (some 51), .inl 0, .inl 0, .inl 0]) gf_J0_9 dJ0_length_8abf5_1 (sx_at hP (k := 4) rfl rfl) rfl ?_
  refine mw_alen8 (v := (62 : Int32)) dJ0_length_8abf5_4 (sx_at hP (k := 5) rfl rfl) rfl ?_
  refine mw_aload_n dJ0_length_8abf5_5 0 rfl ?_
  refine mwx_v (Rc := mh_rmc 0 0 0) (ci := 6) (fs := [.inr (some 51), .inl 0, .inl 0, .inl 0]) (T := TJ0) (N := 4) cv_J0_335 wd_302 dJ0_length_8abf5_6 [] [.ref 50, .int (62 : Int32)] rfl rfl (sx_at hP (k := 4) rfl rfl) rfl (t_sb50_J0_coder_7d493 hP (show (I) 50 1 = (0 : Int32) from h50_1)) ⟨Nat.le_of_ble_eq_true rfl, Nat.le_of_ble_eq_true rfl⟩ (Nat.le_of_ble_eq_true rfl) ⟨sx_c hP hn0 (Nat.le_of_ble_eq_true rfl), Nat.le_of_ble_eq_true rfl⟩ (sx_l hP rfl) ?_
  refine mw_conv (slots' := 0) (sh' := (P ++ ([.inl (7, [.inr (some 49), .inl 0, .inl 0, .inl 0]), .inr (2, 16, mh_n), .inr (2, 60, mh_n), .inr (2, 122, mh_n), .inl (6, [.inr (some 51), .inl 0, .inl 0, .inl 0]), .inr (2, 62, mh_n)] : List mh_C))) (by decide) rfl ?_
  refine mw_ishr dJ0_length_8abf5_9 ?_
  refine mw_nmi (v := (62 : Int32)) (by decide) ?_
  exact mw_iret dJ0_length_8abf5_10 rfl rfl (sx_c0 hP hn0 (Nat.le_of_ble_eq_true rfl)) (Nat.le_of_ble_eq_true rfl) mh_ret_rfl
set_option maxHeartbeats 400000 in
set_option maxRecDepth 100000 in
theorem t_sb51_J0_isLatin1_aae02 {P : List mh_C} (hP : P.length = 46) {I : mh_I} {L : mh_L}  (h50_1 : I 50 1 = (0 : Int32)) : mh_CT yJ0_isLatin1_aae02 cJ0_isLatin1_aae02 1 (some .boolean) (mh_rmc 0 0 0) (P ++ ([.inl (7, [.inr (some 49), .inl 0, .inl 0, .inl 0]), .inr (2, 16, mh_n), .inr (2, 60, mh_n), .inr (2, 122, mh_n), .inl (6, [.inr (some 51), .inl 0, .inl 0, .inl 0]), .inr (2, 62, mh_n)] : List mh_C)) I L [.ref 50] (mh_ret (some (.int (1 : Int32))) (P ++ ([.inl (7, [.inr (some 49), .inl 0, .inl 0, .inl 0]), .inr (2, 16, mh_n), .inr (2, 60, mh_n), .inr (2, 122, mh_n), .inl (6, [.inr (some 51), .inl 0, .inl 0, .inl 0]), .inr (2, 62, mh_n)] : List mh_C)) I L) := by
  refine mh_ofW (ini := false) RJ0 rfl (by decide) (fun h => by cases h) (Nat.le_of_ble_eq_true rfl) ?_
  generalize hn0 : (P ++ ([.inl (7, [.inr (some 49), .inl 0, .inl 0, .inl 0]), .inr (2, 16, mh_n), .inr (2, 60, mh_n), .inr (2, 122, mh_n), .inl (6, [.inr (some 51), .inl 0, .inl 0, .inl 0]), .inr (2, 62, mh_n)] : List mh_C)).length = n0
  replace hn0 : n0 = 52 := by rw [← hn0, sx_ln hP]; rfl
  show mh_W RJ0 cJ0_isLatin1_aae02 1 (some .boolean) false (mh_rmc 0 0 0) n0 0 0 mh_noX (mh_ret (some (.int (1 : Int32))) (P ++ ([.inl (7, [.inr (some 49), .inl 0, .inl 0, .inl 0]), .inr (2, 16, mh_n), .inr (2, 60, mh_n), .inr (2, 122, mh_n), .inl (6, [.inr (some 51), .inl 0, .inl 0, .inl 0]), .inr (2, 62, mh_n)] : List mh_C)) I L) 0 (P ++ ([.inl (7, [.inr (some 49), .inl 0, .inl 0, .inl 0]), .inr (2, 16, mh_n), .inr (2, 60, mh_n), .inr (2, 122, mh_n), .inl (6, [.inr (some 51), .inl 0, .inl 0, .inl 0]), .inr (2, 62, mh_n)] : List mh_C)) I L 0 [(0, .ref 50)] []
  refine mw_getsC wd_303 dJ0_isLatin1_aae02_0 ?_
  refine mw_if_eq (tgt := 17) dJ0_isLatin1_aae02_3 (by decide) (fun hc => absurd hc (by decide)) (fun hc => ?_)
  refine mw_aload_n dJ0_isLatin1_aae02_6 0 rfl ?_
  refine mw_geti (fs := [.inr (some 51), .inl 0, .inl 0, .inl 0]) gf_J0_15 dJ0_isLatin1_aae02_7 (sx_at hP (k := 4) rfl rfl) rfl ?_
  refine mw_nmi (v := (0 : Int32)) (show (I) 50 1 = (0 : Int32) from h50_1) ?_
  refine mw_if_ne (tgt := 17) dJ0_isLatin1_aae02_10 (by decide) (fun hc => absurd (by decide) hc) (fun hc => ?_)
  refine mw_iconst (v := 1) dJ0_isLatin1_aae02_13 (by decide) ?_
  refine mw_goto (tgt := 18) dJ0_isLatin1_aae02_14 (by decide) ?_
  exact mw_iret dJ0_isLatin1_aae02_18 rfl rfl (sx_c0 hP hn0 (Nat.le_of_ble_eq_true rfl)) (Nat.le_of_ble_eq_true rfl) mh_ret_rfl
def chI (I : mh_I) (j : Nat) : Int32 := ((I 51 j &&& 255).toUInt32 % 65536).toInt32
theorem t_D_charAt1 {P : List mh_C} (hP : P.length = 46) {I : mh_I} {L : mh_L} {j : Nat} (hj : j < 62) : mh_CT yJ1_charAt_3b067 cJ1_charAt_3b067 2 (some .char) (mh_rm 3) (P ++ ([.inl (7, [.inr (some 49), .inl 0, .inl 0, .inl 0]), .inr (2, 16, mh_n), .inr (2, 60, mh_n), .inr (2, 122, mh_n), .inl (6, [.inr (some 51), .inl 0, .inl 0, .inl 0]), .inr (2, 62, mh_n)] : List mh_C)) I L [.ref 51, .int (nI j)] (mh_ret (some (.int (chI I j))) (P ++ ([.inl (7, [.inr (some 49), .inl 0, .inl 0, .inl 0]), .inr (2, 16, mh_n), .inr (2, 60, mh_n), .inr (2, 122, mh_n), .inl (6, [.inr (some 51), .inl 0, .inl 0, .inl 0]), .inr (2, 62, mh_n)] : List mh_C)) I L) := by
  refine mh_ofW (ini := false) RJ1 rfl (by decide) (fun h => by cases h) (Nat.le_of_ble_eq_true rfl) ?_
  generalize hn0 : (P ++ ([.inl (7, [.inr (some 49), .inl 0, .inl 0, .inl 0]), .inr (2, 16, mh_n), .inr (2, 60, mh_n), .inr (2, 122, mh_n), .inl (6, [.inr (some 51), .inl 0, .inl 0, .inl 0]), .inr (2, 62, mh_n)] : List mh_C)).length = n0
  replace hn0 : n0 = 52 := by rw [← hn0, sx_ln hP]; rfl
  show mh_W RJ1 cJ1_charAt_3b067 2 (some .char) false (mh_rm 3) n0 0 0 mh_noX (mh_ret (some (.int (chI I j))) (P ++ ([.inl (7, [.inr (some 49), .inl 0, .inl 0, .inl 0]), .inr (2, 16, mh_n), .inr (2, 60, mh_n), .inr (2, 122, mh_n), .inl (6, [.inr (some 51), .inl 0, .inl 0, .inl 0]), .inr (2, 62, mh_n)] : List mh_C)) I L) 0 (P ++ ([.inl (7, [.inr (some 49), .inl 0, .inl 0, .inl 0]), .inr (2, 16, mh_n), .inr (2, 60, mh_n), .inr (2, 122, mh_n), .inl (6, [.inr (some 51), .inl 0, .inl 0, .inl 0]), .inr (2, 62, mh_n)] : List mh_C)) I L 0 [(0, .ref 51), (1, .int (nI j))] []
  refine mw_iload_n dJ1_charAt_3b067_0 1 rfl ?_
  refine mw_aload_n dJ1_charAt_3b067_1 0 rfl ?_
  refine mw_alen8 (v := (62 : Int32)) dJ1_charAt_3b067_2 (sx_at hP (k := 5) rfl rfl) rfl ?_
  refine mwx_s (Rc := mh_rm 2) cs_J1_9 wd_318 dJ1_charAt_3b067_3 [.int (nI j), .int (62 : Int32)] [.int (62 : Int32), .int (nI j)] rfl rfl (t_J0_checkIndex_df160 ((by decide +kernel : ∀ j, j < 62 → J0_checkIndex_df160 (nI j) (62 : Int32) = some ()) j hj)) ⟨Nat.le_of_ble_eq_true rfl, Nat.le_of_ble_eq_true rfl⟩ (Nat.le_of_ble_eq_true rfl) ⟨sx_c hP hn0 (Nat.le_of_ble_eq_true rfl), Nat.le_of_ble_eq_true rfl⟩ (sx_l hP rfl) ?_
  refine mw_aload_n dJ1_charAt_3b067_6 0 rfl ?_
  refine mw_iload_n dJ1_charAt_3b067_7 1 rfl ?_
  refine mw_bald8 dJ1_charAt_3b067_8 (sx_at hP (k := 5) rfl rfl) ((by decide +kernel : ∀ j, j < 62 → ¬ (nI j < 0 ∨ 62 ≤ (nI j).toNatClampNeg)) j hj) ?_
  refine mw_nmi (v := I 51 j) (congrArg (I 51) ((by decide +kernel : ∀ j, j < 62 → (nI j).toNatClampNeg = j) j hj)) ?_
  refine mw_sipush (v := 255) dJ1_charAt_3b067_9 (by decide) ?_
  refine mw_iand dJ1_charAt_3b067_12 ?_
  refine mw_i2c dJ1_charAt_3b067_13 ?_
  exact mw_iret dJ1_charAt_3b067_14 rfl (pk_nc _) (sx_c0 hP hn0 (Nat.le_of_ble_eq_true rfl)) (Nat.le_of_ble_eq_true rfl) mh_ret_rfl
theorem t_D_charAt {P : List mh_C} (hP : P.length = 46) {I : mh_I} {L : mh_L} {j : Nat} (hc : I 50 1 = (0 : Int32)) (hj : j < 62) : mh_CT yJ0_charAt_5068e cJ0_charAt_5068e 2 (some .char) (mh_rm 4) (P ++ ([.inl (7, [.inr (some 49), .inl 0, .inl 0, .inl 0]), .inr (2, 16, mh_n), .inr (2, 60, mh_n), .inr (2, 122, mh_n), .inl (6, [.inr (some 51), .inl 0, .inl 0, .inl 0]), .inr (2, 62, mh_n)] : List mh_C)) I L [.ref 50, .int (nI j)] (mh_ret (some (.int (chI I j))) (P ++ ([.inl (7, [.inr (some 49), .inl 0, .inl 0, .inl 0]), .inr (2, 16, mh_n), .inr (2, 60, mh_n), .inr (2, 122, mh_n), .inl (6, [.inr (some 51), .inl 0, .inl 0, .inl 0]), .inr (2, 62, mh_n)] : List mh_C)) I L) := by
  refine mh_ofW (ini := false) RJ0 rfl (by decide) (fun h => by cases h) (Nat.le_of_ble_eq_true rfl) ?_
  generalize hn0 : (P ++ ([.inl (7, [.inr (some 49), .inl 0, .inl 0, .inl 0]), .inr (2, 16, mh_n), .inr (2, 60, mh_n), .inr (2, 122, mh_n), .inl (6, [.inr (some 51), .inl 0, .inl 0, .inl 0]), .inr (2, 62, mh_n)] : List mh_C)).length = n0
  replace hn0 : n0 = 52 := by rw [← hn0, sx_ln hP]; rfl
  show mh_W RJ0 cJ0_charAt_5068e 2 (some .char) false (mh_rm 4) n0 0 0 mh_noX (mh_ret (some (.int (chI I j))) (P ++ ([.inl (7, [.inr (some 49), .inl 0, .inl 0, .inl 0]), .inr (2, 16, mh_n), .inr (2, 60, mh_n), .inr (2, 122, mh_n), .inl (6, [.inr (some 51), .inl 0, .inl 0, .inl 0]), .inr (2, 62, mh_n)] : List mh_C)) I L) 0 (P ++ ([.inl (7, [.inr (some 49), .inl 0, .inl 0, .inl 0]), .inr (2, 16, mh_n), .inr (2, 60, mh_n), .inr (2, 122, mh_n), .inl (6, [.inr (some 51), .inl 0, .inl 0, .inl 0]), .inr (2, 62, mh_n)] : List mh_C)) I L 0 [(0, .ref 50), (1, .int (nI j))] []
  refine mw_aload_n dJ0_charAt_5068e_0 0 rfl ?_
  refine mwx_v (Rc := mh_rmc 0 0 0) (ci := 6) (fs := [.inr (some 51), .inl 0, .inl 0, .inl 0]) (T := TJ0) (N := 4) cv_J0_492 wd_312 dJ0_charAt_5068e_1 [] [.ref 50] rfl rfl (sx_at hP (k := 4) rfl rfl) rfl (t_sb51_J0_isLatin1_aae02 hP hc) ⟨Nat.le_of_ble_eq_true rfl, Nat.le_of_ble_eq_true rfl⟩ (Nat.le_of_ble_eq_true rfl) ⟨sx_c hP hn0 (Nat.le_of_ble_eq_true rfl), Nat.le_of_ble_eq_true rfl⟩ (sx_l hP rfl) ?_
  refine mw_if_eq (tgt := 16) dJ0_charAt_5068e_4 (by decide) (fun hc => absurd hc (by decide)) (fun hc => ?_)
  refine mw_aload_n dJ0_charAt_5068e_7 0 rfl ?_
  refine mw_getr (b := 51) (fs := [.inr (some 51), .inl 0, .inl 0, .inl 0]) gf_J0_9 dJ0_charAt_5068e_8 (sx_at hP (k := 4) rfl rfl) rfl ?_
  refine mw_iload_n dJ0_charAt_5068e_11 1 rfl ?_
  refine mwx_s (Rc := mh_rm 3) cs_J0_495 wd_315 dJ0_charAt_5068e_12 [.ref 51, .int (nI j)] [.int (nI j), .ref 51] rfl rfl (t_D_charAt1 hP hj) ⟨Nat.le_of_ble_eq_true rfl, Nat.le_of_ble_eq_true rfl⟩ (Nat.le_of_ble_eq_true rfl) ⟨sx_c hP hn0 (Nat.le_of_ble_eq_true rfl), Nat.le_of_ble_eq_true rfl⟩ (sx_l hP rfl) ?_
  exact mw_iret dJ0_charAt_5068e_15 rfl (pk_nc _) (sx_c0 hP hn0 (Nat.le_of_ble_eq_true rfl)) (Nat.le_of_ble_eq_true rfl) mh_ret_rfl
def L_text_l2 : Nat → Int32 → mh_I → Option mh_I
  | 0, _, _ => none
  | n + 1, i, I => if (62 : Int32) ≤ i then some I else mh_ix i 62 (fun j => (X5_feed (1 : Int32) (chI I j) (0 : Int32) (0 : Int32) (0 : Int32) (0 : Int32) I).bind (fun q => L_text_l2 n (i + (1 : Int32)) (mh_mx 46 q.2 I)))
def L_text (I : mh_I) : Option mh_I := L_text_l2 mh_fuel (0 : Int32) I
abbrev w_L_text (T : Option Nat) (Φ : mh_P) (I : mh_I) (L : mh_L) (pc : Nat) (lv : List (Nat × Value)) (st : List Value) : Prop := mh_W RL cL_text 3 none false (mh_rm 5) (SHX T ++ E6).length 0 0 mh_noX Φ 0 (SHX T ++ E6) I L pc lv st
set_option maxHeartbeats 1000000 in
set_option maxRecDepth 100000 in
theorem t_L_text_l2 {T : Option Nat} (hT : ∀ t, T = some t → t < 46) {L : mh_L} {res : mh_I} (n : Nat) (i : Int32) (I : mh_I) (hc : I 50 1 = (0 : Int32)) (h : L_text_l2 n i I = some res) : w_L_text T (mh_ret none (SHX T ++ E6) res L) I L 2 [(2, .int i), (0, .ref 0), (1, .ref 50)] [] := by
  have hcs : (SHX T ++ E6).length - (SHX T ++ E6).length + (mh_rm 4).cells ≤ (mh_rm 5).cells ∧ 0 + (mh_rm 4).slots ≤ (mh_rm 5).slots := ⟨by rw [Nat.sub_self]; exact Nat.le_refl 0, Nat.le_refl 0⟩
  have hcl : (SHX T ++ E6).length - (SHX T ++ E6).length + (mh_rmc 1 0 0).cells ≤ (mh_rm 5).cells ∧ 0 + (mh_rmc 1 0 0).slots ≤ (mh_rm 5).slots := ⟨by rw [Nat.sub_self]; exact Nat.le_refl 0, Nat.le_refl 0⟩
  have hcz : (SHX T ++ E6).length - (SHX T ++ E6).length ≤ (mh_rm 5).cells ∧ 0 ≤ (mh_rm 5).slots := ⟨by rw [Nat.sub_self]; exact Nat.le_refl 0, Nat.le_refl 0⟩
  induction n generalizing i I with
  | zero => rw [L_text_l2] at h; cases h
  | succ n ih =>
    rw [L_text_l2] at h
    refine mw_iload_n dL_text_2 0 rfl ?_
    refine mw_aload_n dL_text_3 2 rfl ?_
    refine mwx_v (Rc := mh_rmc 1 0 0) (ci := 6) (fs := [.inr (some 51), .inl 0, .inl 0, .inl 0]) (T := TJ0) (N := 4) cv_L_7 wd_298 dL_text_4 [] [.ref 50, .int i] rfl rfl (sx_at (SHX_len T) (k := 4) rfl rfl) rfl (t_sb49_J0_length_8abf5 (SHX_len T) hc) ⟨Nat.le_of_ble_eq_true rfl, Nat.le_of_ble_eq_true rfl⟩ (Nat.le_of_ble_eq_true rfl) hcl rfl ?_
    refine mw_icmp_ge (tgt := 31) dL_text_7 (by decide) (fun hc1 => ?_) (fun hc1 => ?_)
    · replace h := mh_ifp hc1 h
      obtain rfl := Option.some.inj h
      exact mw_vret dL_text_31 rfl hcz.1 (Nat.le_refl 0) mh_ret_rfl
    · replace h := mh_ifn hc1 h
      obtain ⟨j, hj, hjn, hjl, h⟩ := mh_ix_some h
      obtain ⟨j2, hj2, hij, -, hcl2, -⟩ := pk_mu (L := 62) (fun z => hjn (Or.inl z)) hc1 (by decide)
      obtain rfl : j = j2 := hj.trans hcl2
      subst hij
      obtain ⟨q, hq, h⟩ := mh_bind h
      refine mw_aload_n dL_text_10 1 rfl ?_
      refine mw_iconst (v := 1) dL_text_11 (by decide) ?_
      refine mw_aload_n dL_text_12 2 rfl ?_
      refine mw_iload_n dL_text_13 0 rfl ?_
      refine mwx_v (Rc := mh_rm 4) (ci := 6) (fs := [.inr (some 51), .inl 0, .inl 0, .inl 0]) (T := TJ0) (N := 4) cv_L_13 wd_308 dL_text_14 [.int (nI j)] [.int (nI j), .ref 50, .int (1 : Int32), .ref 0] rfl rfl (sx_at (SHX_len T) (k := 4) rfl rfl) rfl (t_D_charAt (SHX_len T) hc hjl) ⟨Nat.le_of_ble_eq_true rfl, Nat.le_of_ble_eq_true rfl⟩ (Nat.le_of_ble_eq_true rfl) hcs rfl ?_
      refine mw_iconst (v := 0) dL_text_17 (by decide) ?_
      refine mw_iconst (v := 0) dL_text_18 (by decide) ?_
      refine mw_iconst (v := 0) dL_text_19 (by decide) ?_
      refine mw_iconst (v := 0) dL_text_20 (by decide) ?_
      refine mwg_vr (dc := 2) (ci := 5) (fs := fsX5) (T := TX5) (N := 9) cv_L_17 wd_682 dL_text_21 [.int (1 : Int32), .int (chI I j), .int (0 : Int32), .int (0 : Int32), .int (0 : Int32), .int (0 : Int32)] [.int (0 : Int32), .int (0 : Int32), .int (0 : Int32), .int (0 : Int32), .int (chI I j), .int (1 : Int32), .ref 0] rfl rfl rfl rfl (mh_frXI E6 hT hT (by simp [mh_lo]) (fun v hv => by cases hv; exact trivial) (t_X5_feed hq)) ⟨Nat.le_of_ble_eq_true rfl, Nat.le_of_ble_eq_true rfl⟩ (Nat.le_of_ble_eq_true rfl) hcz rfl ?_
      refine mw_pop dL_text_24 rfl ?_
      refine mw_iinc (v := nI j + 1) dL_text_25 0 rfl rfl (by decide) rfl ?_
      refine mw_goto (tgt := 2) dL_text_28 (by decide) ?_
      exact ih _ _ ((congrFun (mh_mx_hi (X := q.2) (Y := I) (by decide : ¬ 50 < 46)) 1).trans hc) h
theorem t_L_text {T : Option Nat} (hT : ∀ t, T = some t → t < 46) {I : mh_I} {L : mh_L} {res : mh_I} (hc : I 50 1 = (0 : Int32)) (h : L_text I = some res) : mh_CT yL_text cL_text 3 none (mh_rm 5) (SHX T ++ E6) I L [.ref 0, .ref 50] (mh_ret none (SHX T ++ E6) res L) := by
  refine mh_ofW (ini := false) RL rfl (by decide) (fun h => by cases h) (Nat.le_of_ble_eq_true rfl) ?_
  show w_L_text T (mh_ret none (SHX T ++ E6) res L) I L 0 [(0, .ref 0), (1, .ref 50)] []
  refine mw_iconst (v := 0) dL_text_0 (by decide) ?_
  refine mw_istore_n dL_text_1 (by decide) rfl ?_
  exact t_L_text_l2 hT _ _ _ hc h
