abbrev fs0X6 : List mh_F := [.inr none, .inr none, .inr none, .inr none, .inr none, .inl 0, .inr none, .inr none, .inl 0, .inl 0, .inl 0, .inl 0, .inr none, .inr none, .inr none, .inr none, .inr none, .inl 0, .inl 0, .inl 0, .inl 0, .inr none, .inr none, .inl 0, .inl 0, .inl 0, .inr none, .inr none, .inr none, .inl 0]
abbrev w_X6_init (slots : Nat) (sh : List mh_C) (Φ : mh_P) (I : mh_I) (L : mh_L) (pc : Nat) (lv : List (Nat × Value)) (st : List Value) : Prop := mh_W RX6 cX6_init 2 none true (mh_rmc 5 17 2579) 1 17 2579 mh_noX Φ slots sh I L pc lv st
def cI_X6 (I : mh_I) : mh_I := (mh_z (mh_z (mh_z (mh_z (mh_u (mh_u (mh_u (mh_u (mh_u (mh_u (mh_u (mh_u (mh_u (mh_u (mh_u (mh_u (mh_u (mh_u (mh_u (mh_u (mh_u (mh_u (mh_u (mh_u (mh_u (mh_u (mh_u (mh_u (mh_u (mh_u (mh_u (mh_u (mh_u (mh_u (mh_u (mh_u (mh_u (mh_u (mh_u (mh_u (mh_u (mh_u (mh_u (mh_u (mh_u (mh_u (mh_u (mh_u (mh_u (mh_u (mh_u (mh_u (mh_u (mh_u (mh_u (mh_u (mh_u (mh_u (mh_u (mh_u (mh_u (mh_u (mh_u (mh_u (mh_u (mh_u (mh_u (mh_u (mh_u (mh_u (mh_u (mh_u (mh_u (mh_u (mh_u (mh_u (mh_u (mh_u (mh_u (mh_u (mh_u (mh_u (mh_u (mh_u (mh_u (mh_u (mh_u (mh_u (mh_u (mh_u (mh_u (mh_u (mh_u (mh_u (mh_u (mh_u (mh_u (mh_u (mh_u (mh_u (mh_z (mh_u (mh_u (mh_u (mh_u (mh_u (mh_u (mh_u (mh_u (mh_u (mh_u (mh_u (mh_u (mh_u (mh_u (mh_u (mh_u (mh_u (mh_u (mh_u (mh_u (mh_u (mh_u (mh_u (mh_u (mh_u (mh_u (mh_u (mh_u (mh_u (mh_u (mh_u (mh_u (mh_u (mh_u (mh_u (mh_u (mh_u (mh_u (mh_u (mh_u (mh_u (mh_u (mh_u (mh_u (mh_u (mh_u (mh_u (mh_u (mh_u (mh_u (mh_u (mh_u (mh_u (mh_u (mh_u (mh_u (mh_u (mh_u (mh_u (mh_u (mh_u (mh_z (mh_z (mh_z (mh_u (mh_u (mh_u (mh_u (mh_z (mh_z (mh_z (mh_z (mh_z (mh_z (mh_z (mh_z (mh_z I 1) 2) 3) 4) 5) 6) 7) 8) 9) 9 0 (-1)) 9 1 (-1)) 9 2 (-1)) 9 3 (-1)) 10) 11) 12) 12 0 (114)) 12 1 (117)) 12 2 (98)) 12 3 (32)) 12 4 (49)) 12 5 (48)) 12 6 (32)) 12 7 (43)) 12 8 (32)) 12 9 (109)) 12 10 (111)) 12 11 (114)) 12 12 (101)) 12 13 (32)) 12 14 (45)) 12 15 (32)) 12 16 (102)) 12 17 (97)) 12 18 (99)) 12 19 (101)) 12 20 (32)) 12 21 (42)) 12 22 (32)) 12 23 (51)) 12 24 (32)) 12 25 (59)) 12 26 (32)) 12 27 (109)) 12 28 (105)) 12 29 (110)) 12 30 (117)) 12 31 (116)) 12 32 (101)) 12 33 (115)) 12 34 (32)) 12 35 (50)) 12 36 (32)) 12 37 (43)) 12 38 (32)) 12 39 (109)) 12 40 (111)) 12 41 (114)) 12 42 (101)) 12 43 (32)) 12 44 (59)) 12 45 (32)) 12 46 (115)) 12 47 (101)) 12 48 (101)) 12 49 (110)) 12 50 (32)) 12 51 (49)) 12 52 (32)) 12 53 (43)) 12 54 (32)) 12 55 (102)) 12 56 (97)) 12 57 (99)) 12 58 (101)) 12 59 (32)) 12 60 (59)) 13) 13 0 (114)) 13 1 (117)) 13 2 (98)) 13 3 (32)) 13 4 (32)) 13 5 (32)) 13 6 (32)) 13 7 (32)) 13 8 (109)) 13 9 (105)) 13 10 (110)) 13 11 (117)) 13 12 (116)) 13 13 (101)) 13 14 (115)) 13 15 (32)) 13 16 (115)) 13 17 (101)) 13 18 (101)) 13 19 (110)) 13 20 (32)) 13 21 (32)) 13 22 (32)) 13 23 (32)) 13 24 (114)) 13 25 (111)) 13 26 (119)) 13 27 (32)) 13 28 (32)) 13 29 (32)) 13 30 (32)) 13 31 (32)) 13 32 (112)) 13 33 (108)) 13 34 (97)) 13 35 (99)) 13 36 (101)) 13 37 (32)) 13 38 (32)) 13 39 (32)) 13 40 (109)) 13 41 (111)) 13 42 (114)) 13 43 (101)) 13 44 (32)) 13 45 (32)) 13 46 (32)) 13 47 (32)) 13 48 (112)) 13 49 (117)) 13 50 (108)) 13 51 (108)) 13 52 (32)) 13 53 (32)) 13 54 (32)) 13 55 (32)) 13 56 (102)) 13 57 (97)) 13 58 (99)) 13 59 (101)) 13 60 (32)) 13 61 (32)) 13 62 (32)) 13 63 (32)) 13 64 (109)) 13 65 (101)) 13 66 (110)) 13 67 (100)) 13 68 (101)) 13 69 (100)) 13 70 (32)) 13 71 (32)) 13 72 (111)) 13 73 (114)) 13 74 (32)) 13 75 (32)) 13 76 (32)) 13 77 (32)) 13 78 (32)) 13 79 (32)) 13 80 (97)) 13 81 (110)) 13 82 (100)) 13 83 (32)) 13 84 (32)) 13 85 (32)) 13 86 (32)) 13 87 (32)) 13 88 (110)) 13 89 (111)) 13 90 (116)) 13 91 (32)) 13 92 (32)) 13 93 (32)) 13 94 (32)) 13 95 (32)) 14) 15) 16) 17)
def cL_X6 (L : mh_L) : mh_L := (mh_zl (mh_zl (mh_zl (mh_zl (mh_zl (mh_zl (mh_zl (mh_zl (mh_zl (mh_zl (mh_zl (mh_zl (mh_zl (mh_zl (mh_zl (mh_zl (mh_zl L 1) 2) 3) 4) 5) 6) 7) 8) 9) 10) 11) 12) 13) 14) 15) 16) 17)
def X6_init_l1092 : Nat → Int32 → mh_I → Option mh_I
  | 0, _, _ => none
  | n + 1, k, I => if (61 : Int32) ≤ k then some I else mh_ix k 61 (fun b => mh_ix k 160 (fun a => X6_init_l1092 n (k + (1 : Int32)) (mh_u I 5 a (I 12 b))))
def X6_init (I : mh_I) : Option mh_I := (X6_init_l1092 mh_fuel 0 (cI_X6 I)).bind (fun I1 => (X6_text (mh_u I1 0 5 (61 : Int32))).bind (fun q => some q.2))
theorem cs_shape6 : ([.inl (6, [.inr (some 1), .inr (some 2), .inr (some 3), .inr (some 4), .inr (some 5), .inl 0, .inr (some 6), .inr (some 7), .inl 0, .inl 0, .inl 0, .inl 0, .inr (some 8), .inr (some 9), .inr (some 10), .inr (some 11), .inr (some 12), .inl 0, .inl 0, .inl 0, .inl 0, .inr (some 13), .inr (some 14), .inl 0, .inl 0, .inl 0, .inr (some 15), .inr (some 16), .inr (some 17), .inl 0]), mh_row 48, mh_row 48, mh_row 48, mh_row 48, mh_row 160, mh_row 1200, mh_row 24, mh_row 192, mh_row 4, mh_row 4, mh_row 192, mh_row 61, mh_row 96, mh_row 200, mh_row 200, mh_row 6, mh_row 48] : List mh_C) = SHM := rfl
set_option maxHeartbeats 4000000 in
set_option maxRecDepth 100000 in
theorem t_X6_init_l1092 {Φ : mh_P} {L : mh_L} {I1 : mh_I} (n : Nat) (k : Int32) (I : mh_I) (h : X6_init_l1092 n k I = some I1) (hk : w_X6_init 2579 SHM Φ I1 L 1116 [(0, .ref 0)] []) : w_X6_init 2579 SHM Φ I L 1092 [(1, .int k), (0, .ref 0)] [] := by
  induction n generalizing k I with
  | zero => rw [X6_init_l1092] at h; cases h
  | succ n ih =>
    rw [X6_init_l1092] at h
    refine mw_iload_n dX6_init_1092 0 rfl ?_
    refine mw_bipush (v := 61) dX6_init_1093 (by decide) ?_
    refine mw_icmp_ge (tgt := 1116) dX6_init_1095 (by decide) (fun hc => ?_) (fun hc => ?_)
    · replace h := mh_ifp hc h
      obtain rfl := Option.some.inj h
      refine mw_loc [1] rfl ?_
      exact hk
    · replace h := mh_ifn hc h
      obtain ⟨b, hb, hbn, hbl, h⟩ := mh_ix_some h
      obtain ⟨a, ha, han, hal, h⟩ := mh_ix_some h
      refine mw_aload_n dX6_init_1098 1 rfl ?_
      refine mw_getr (b := 5) (fs := fsX6) gf_X6_22 dX6_init_1099 rfl rfl ?_
      refine mw_iload_n dX6_init_1102 0 rfl ?_
      refine mw_aload_n dX6_init_1103 1 rfl ?_
      refine mw_getr (b := 12) (fs := fsX6) gf_X6_43 dX6_init_1104 rfl rfl ?_
      refine mw_iload_n dX6_init_1107 0 rfl ?_
      refine mw_xiald dX6_init_1108 rfl hb hbn ?_
      refine mw_xiast dX6_init_1109 rfl ha han ?_
      refine mw_iinc (v := k + 1) dX6_init_1110 0 rfl rfl (by decide) rfl ?_
      refine mw_goto (tgt := 1092) dX6_init_1113 (by decide) ?_
      exact ih _ _ h
set_option maxHeartbeats 8000000 in
set_option maxRecDepth 100000 in
theorem t_X6_init {I : mh_I} {L : mh_L} {res : mh_I} (h : X6_init I = some res) : mh_CT yX6_init cX6_init 2 none (mh_rmc 5 17 2579) [.inl (6, fs0X6)] I L [.ref 0] (mh_ret none SHM res (cL_X6 L)) := by
  refine mh_ofW (ini := true) RX6 rfl (by decide) (fun _ => rfl) (Nat.le_of_ble_eq_true rfl) ?_
  show w_X6_init 0 [.inl (6, fs0X6)] (mh_ret none SHM res (cL_X6 L)) I L 0 [(0, .ref 0)] []
  generalize hφ : mh_ret none SHM res (cL_X6 L) = Φ
  refine mw_aload_n dX6_init_0 0 rfl ?_
  refine mw_oinit ⟨wd_711, wd_22, wd_23⟩ dX6_init_1 ⟨by decide, by decide⟩ ?_
  refine mw_aload_n dX6_init_4 0 rfl ?_
  refine mw_bipush (v := 48) dX6_init_5 (by decide) ?_
  refine mw_newaE (a := 1) (by decide +kernel) (t := 0) (N := 48) (Or.inl ⟨rfl, rfl⟩) wd_56 dX6_init_7 (by decide) (by decide) (by decide) (Nat.le_of_ble_eq_true rfl) ⟨by decide, (show 0 + 48 ≤ 2579 by omega)⟩ ?_
  refine mw_conv (slots' := 48) (sh' := [.inl (6, [.inr none, .inr none, .inr none, .inr none, .inr none, .inl 0, .inr none, .inr none, .inl 0, .inl 0, .inl 0, .inl 0, .inr none, .inr none, .inr none, .inr none, .inr none, .inl 0, .inl 0, .inl 0, .inl 0, .inr none, .inr none, .inl 0, .inl 0, .inl 0, .inr none, .inr none, .inr none, .inl 0]), mh_row 48]) (by decide) rfl ?_
  refine mw_putr (fs := [.inr none, .inr none, .inr none, .inr none, .inr none, .inl 0, .inr none, .inr none, .inl 0, .inl 0, .inl 0, .inl 0, .inr none, .inr none, .inr none, .inr none, .inr none, .inl 0, .inl 0, .inl 0, .inl 0, .inr none, .inr none, .inl 0, .inl 0, .inl 0, .inr none, .inr none, .inr none, .inl 0]) pf_X6_7 (fun _ => rfl) rfl dX6_init_9 rfl (Nat.le_of_ble_eq_true rfl) ?_
  refine mw_conv (slots' := 48) (sh' := [.inl (6, [.inr (some 1), .inr none, .inr none, .inr none, .inr none, .inl 0, .inr none, .inr none, .inl 0, .inl 0, .inl 0, .inl 0, .inr none, .inr none, .inr none, .inr none, .inr none, .inl 0, .inl 0, .inl 0, .inl 0, .inr none, .inr none, .inl 0, .inl 0, .inl 0, .inr none, .inr none, .inr none, .inl 0]), mh_row 48]) (by decide) rfl ?_
  refine mw_aload_n dX6_init_12 0 rfl ?_
  refine mw_bipush (v := 48) dX6_init_13 (by decide) ?_
  refine mw_newaE (a := 2) (by decide +kernel) (t := 0) (N := 48) (Or.inl ⟨rfl, rfl⟩) wd_56 dX6_init_15 (by decide) (by decide) (by decide) (Nat.le_of_ble_eq_true rfl) ⟨by decide, (show 48 + 48 ≤ 2579 by omega)⟩ ?_
  refine mw_conv (slots' := 96) (sh' := [.inl (6, [.inr (some 1), .inr none, .inr none, .inr none, .inr none, .inl 0, .inr none, .inr none, .inl 0, .inl 0, .inl 0, .inl 0, .inr none, .inr none, .inr none, .inr none, .inr none, .inl 0, .inl 0, .inl 0, .inl 0, .inr none, .inr none, .inl 0, .inl 0, .inl 0, .inr none, .inr none, .inr none, .inl 0]), mh_row 48, mh_row 48]) (by decide) rfl ?_
  refine mw_putr (fs := [.inr (some 1), .inr none, .inr none, .inr none, .inr none, .inl 0, .inr none, .inr none, .inl 0, .inl 0, .inl 0, .inl 0, .inr none, .inr none, .inr none, .inr none, .inr none, .inl 0, .inl 0, .inl 0, .inl 0, .inr none, .inr none, .inl 0, .inl 0, .inl 0, .inr none, .inr none, .inr none, .inl 0]) pf_X6_13 (fun _ => rfl) rfl dX6_init_17 rfl (Nat.le_of_ble_eq_true rfl) ?_
  refine mw_conv (slots' := 96) (sh' := [.inl (6, [.inr (some 1), .inr (some 2), .inr none, .inr none, .inr none, .inl 0, .inr none, .inr none, .inl 0, .inl 0, .inl 0, .inl 0, .inr none, .inr none, .inr none, .inr none, .inr none, .inl 0, .inl 0, .inl 0, .inl 0, .inr none, .inr none, .inl 0, .inl 0, .inl 0, .inr none, .inr none, .inr none, .inl 0]), mh_row 48, mh_row 48]) (by decide) rfl ?_
  refine mw_aload_n dX6_init_20 0 rfl ?_
  refine mw_bipush (v := 48) dX6_init_21 (by decide) ?_
  refine mw_newaE (a := 3) (by decide +kernel) (t := 0) (N := 48) (Or.inl ⟨rfl, rfl⟩) wd_56 dX6_init_23 (by decide) (by decide) (by decide) (Nat.le_of_ble_eq_true rfl) ⟨by decide, (show 96 + 48 ≤ 2579 by omega)⟩ ?_
  refine mw_conv (slots' := 144) (sh' := [.inl (6, [.inr (some 1), .inr (some 2), .inr none, .inr none, .inr none, .inl 0, .inr none, .inr none, .inl 0, .inl 0, .inl 0, .inl 0, .inr none, .inr none, .inr none, .inr none, .inr none, .inl 0, .inl 0, .inl 0, .inl 0, .inr none, .inr none, .inl 0, .inl 0, .inl 0, .inr none, .inr none, .inr none, .inl 0]), mh_row 48, mh_row 48, mh_row 48]) (by decide) rfl ?_
  refine mw_putr (fs := [.inr (some 1), .inr (some 2), .inr none, .inr none, .inr none, .inl 0, .inr none, .inr none, .inl 0, .inl 0, .inl 0, .inl 0, .inr none, .inr none, .inr none, .inr none, .inr none, .inl 0, .inl 0, .inl 0, .inl 0, .inr none, .inr none, .inl 0, .inl 0, .inl 0, .inr none, .inr none, .inr none, .inl 0]) pf_X6_16 (fun _ => rfl) rfl dX6_init_25 rfl (Nat.le_of_ble_eq_true rfl) ?_
  refine mw_conv (slots' := 144) (sh' := [.inl (6, [.inr (some 1), .inr (some 2), .inr (some 3), .inr none, .inr none, .inl 0, .inr none, .inr none, .inl 0, .inl 0, .inl 0, .inl 0, .inr none, .inr none, .inr none, .inr none, .inr none, .inl 0, .inl 0, .inl 0, .inl 0, .inr none, .inr none, .inl 0, .inl 0, .inl 0, .inr none, .inr none, .inr none, .inl 0]), mh_row 48, mh_row 48, mh_row 48]) (by decide) rfl ?_
  refine mw_aload_n dX6_init_28 0 rfl ?_
  refine mw_bipush (v := 48) dX6_init_29 (by decide) ?_
  refine mw_newaE (a := 4) (by decide +kernel) (t := 0) (N := 48) (Or.inl ⟨rfl, rfl⟩) wd_56 dX6_init_31 (by decide) (by decide) (by decide) (Nat.le_of_ble_eq_true rfl) ⟨by decide, (show 144 + 48 ≤ 2579 by omega)⟩ ?_
  refine mw_conv (slots' := 192) (sh' := [.inl (6, [.inr (some 1), .inr (some 2), .inr (some 3), .inr none, .inr none, .inl 0, .inr none, .inr none, .inl 0, .inl 0, .inl 0, .inl 0, .inr none, .inr none, .inr none, .inr none, .inr none, .inl 0, .inl 0, .inl 0, .inl 0, .inr none, .inr none, .inl 0, .inl 0, .inl 0, .inr none, .inr none, .inr none, .inl 0]), mh_row 48, mh_row 48, mh_row 48, mh_row 48]) (by decide) rfl ?_
  refine mw_putr (fs := [.inr (some 1), .inr (some 2), .inr (some 3), .inr none, .inr none, .inl 0, .inr none, .inr none, .inl 0, .inl 0, .inl 0, .inl 0, .inr none, .inr none, .inr none, .inr none, .inr none, .inl 0, .inl 0, .inl 0, .inl 0, .inr none, .inr none, .inl 0, .inl 0, .inl 0, .inr none, .inr none, .inr none, .inl 0]) pf_X6_19 (fun _ => rfl) rfl dX6_init_33 rfl (Nat.le_of_ble_eq_true rfl) ?_
  refine mw_conv (slots' := 192) (sh' := [.inl (6, [.inr (some 1), .inr (some 2), .inr (some 3), .inr (some 4), .inr none, .inl 0, .inr none, .inr none, .inl 0, .inl 0, .inl 0, .inl 0, .inr none, .inr none, .inr none, .inr none, .inr none, .inl 0, .inl 0, .inl 0, .inl 0, .inr none, .inr none, .inl 0, .inl 0, .inl 0, .inr none, .inr none, .inr none, .inl 0]), mh_row 48, mh_row 48, mh_row 48, mh_row 48]) (by decide) rfl ?_
  refine mw_aload_n dX6_init_36 0 rfl ?_
  refine mw_sipush (v := 160) dX6_init_37 (by decide) ?_
  refine mw_newaE (a := 5) (by decide +kernel) (t := 0) (N := 160) (Or.inl ⟨rfl, rfl⟩) wd_56 dX6_init_40 (by decide) (by decide) (by decide) (Nat.le_of_ble_eq_true rfl) ⟨by decide, (show 192 + 160 ≤ 2579 by omega)⟩ ?_
  refine mw_conv (slots' := 352) (sh' := [.inl (6, [.inr (some 1), .inr (some 2), .inr (some 3), .inr (some 4), .inr none, .inl 0, .inr none, .inr none, .inl 0, .inl 0, .inl 0, .inl 0, .inr none, .inr none, .inr none, .inr none, .inr none, .inl 0, .inl 0, .inl 0, .inl 0, .inr none, .inr none, .inl 0, .inl 0, .inl 0, .inr none, .inr none, .inr none, .inl 0]), mh_row 48, mh_row 48, mh_row 48, mh_row 48, mh_row 160]) (by decide) rfl ?_
  refine mw_putr (fs := [.inr (some 1), .inr (some 2), .inr (some 3), .inr (some 4), .inr none, .inl 0, .inr none, .inr none, .inl 0, .inl 0, .inl 0, .inl 0, .inr none, .inr none, .inr none, .inr none, .inr none, .inl 0, .inl 0, .inl 0, .inl 0, .inr none, .inr none, .inl 0, .inl 0, .inl 0, .inr none, .inr none, .inr none, .inl 0]) pf_X6_22 (fun _ => rfl) rfl dX6_init_42 rfl (Nat.le_of_ble_eq_true rfl) ?_
  refine mw_conv (slots' := 352) (sh' := [.inl (6, [.inr (some 1), .inr (some 2), .inr (some 3), .inr (some 4), .inr (some 5), .inl 0, .inr none, .inr none, .inl 0, .inl 0, .inl 0, .inl 0, .inr none, .inr none, .inr none, .inr none, .inr none, .inl 0, .inl 0, .inl 0, .inl 0, .inr none, .inr none, .inl 0, .inl 0, .inl 0, .inr none, .inr none, .inr none, .inl 0]), mh_row 48, mh_row 48, mh_row 48, mh_row 48, mh_row 160]) (by decide) rfl ?_
  refine mw_aload_n dX6_init_45 0 rfl ?_
  refine mw_sipush (v := 1200) dX6_init_46 (by decide) ?_
  refine mw_newaE (a := 6) (by decide +kernel) (t := 0) (N := 1200) (Or.inl ⟨rfl, rfl⟩) wd_56 dX6_init_49 (by decide) (by decide) (by decide) (Nat.le_of_ble_eq_true rfl) ⟨by decide, (show 352 + 1200 ≤ 2579 by omega)⟩ ?_
  refine mw_conv (slots' := 1552) (sh' := [.inl (6, [.inr (some 1), .inr (some 2), .inr (some 3), .inr (some 4), .inr (some 5), .inl 0, .inr none, .inr none, .inl 0, .inl 0, .inl 0, .inl 0, .inr none, .inr none, .inr none, .inr none, .inr none, .inl 0, .inl 0, .inl 0, .inl 0, .inr none, .inr none, .inl 0, .inl 0, .inl 0, .inr none, .inr none, .inr none, .inl 0]), mh_row 48, mh_row 48, mh_row 48, mh_row 48, mh_row 160, mh_row 1200]) (by decide) rfl ?_
  refine mw_putr (fs := [.inr (some 1), .inr (some 2), .inr (some 3), .inr (some 4), .inr (some 5), .inl 0, .inr none, .inr none, .inl 0, .inl 0, .inl 0, .inl 0, .inr none, .inr none, .inr none, .inr none, .inr none, .inl 0, .inl 0, .inl 0, .inl 0, .inr none, .inr none, .inl 0, .inl 0, .inl 0, .inr none, .inr none, .inr none, .inl 0]) pf_X6_25 (fun _ => rfl) rfl dX6_init_51 rfl (Nat.le_of_ble_eq_true rfl) ?_
  refine mw_conv (slots' := 1552) (sh' := [.inl (6, [.inr (some 1), .inr (some 2), .inr (some 3), .inr (some 4), .inr (some 5), .inl 0, .inr (some 6), .inr none, .inl 0, .inl 0, .inl 0, .inl 0, .inr none, .inr none, .inr none, .inr none, .inr none, .inl 0, .inl 0, .inl 0, .inl 0, .inr none, .inr none, .inl 0, .inl 0, .inl 0, .inr none, .inr none, .inr none, .inl 0]), mh_row 48, mh_row 48, mh_row 48, mh_row 48, mh_row 160, mh_row 1200]) (by decide) rfl ?_
  refine mw_aload_n dX6_init_54 0 rfl ?_
  refine mw_bipush (v := 24) dX6_init_55 (by decide) ?_
  refine mw_newaE (a := 7) (by decide +kernel) (t := 0) (N := 24) (Or.inl ⟨rfl, rfl⟩) wd_56 dX6_init_57 (by decide) (by decide) (by decide) (Nat.le_of_ble_eq_true rfl) ⟨by decide, (show 1552 + 24 ≤ 2579 by omega)⟩ ?_
  refine mw_conv (slots' := 1576) (sh' := [.inl (6, [.inr (some 1), .inr (some 2), .inr (some 3), .inr (some 4), .inr (some 5), .inl 0, .inr (some 6), .inr none, .inl 0, .inl 0, .inl 0, .inl 0, .inr none, .inr none, .inr none, .inr none, .inr none, .inl 0, .inl 0, .inl 0, .inl 0, .inr none, .inr none, .inl 0, .inl 0, .inl 0, .inr none, .inr none, .inr none, .inl 0]), mh_row 48, mh_row 48, mh_row 48, mh_row 48, mh_row 160, mh_row 1200, mh_row 24]) (by decide) rfl ?_
  refine mw_putr (fs := [.inr (some 1), .inr (some 2), .inr (some 3), .inr (some 4), .inr (some 5), .inl 0, .inr (some 6), .inr none, .inl 0, .inl 0, .inl 0, .inl 0, .inr none, .inr none, .inr none, .inr none, .inr none, .inl 0, .inl 0, .inl 0, .inl 0, .inr none, .inr none, .inl 0, .inl 0, .inl 0, .inr none, .inr none, .inr none, .inl 0]) pf_X6_28 (fun _ => rfl) rfl dX6_init_59 rfl (Nat.le_of_ble_eq_true rfl) ?_
  refine mw_conv (slots' := 1576) (sh' := [.inl (6, [.inr (some 1), .inr (some 2), .inr (some 3), .inr (some 4), .inr (some 5), .inl 0, .inr (some 6), .inr (some 7), .inl 0, .inl 0, .inl 0, .inl 0, .inr none, .inr none, .inr none, .inr none, .inr none, .inl 0, .inl 0, .inl 0, .inl 0, .inr none, .inr none, .inl 0, .inl 0, .inl 0, .inr none, .inr none, .inr none, .inl 0]), mh_row 48, mh_row 48, mh_row 48, mh_row 48, mh_row 160, mh_row 1200, mh_row 24]) (by decide) rfl ?_
  refine mw_aload_n dX6_init_62 0 rfl ?_
  refine mw_sipush (v := 192) dX6_init_63 (by decide) ?_
  refine mw_newaE (a := 8) (by decide +kernel) (t := 0) (N := 192) (Or.inl ⟨rfl, rfl⟩) wd_56 dX6_init_66 (by decide) (by decide) (by decide) (Nat.le_of_ble_eq_true rfl) ⟨by decide, (show 1576 + 192 ≤ 2579 by omega)⟩ ?_
  refine mw_conv (slots' := 1768) (sh' := [.inl (6, [.inr (some 1), .inr (some 2), .inr (some 3), .inr (some 4), .inr (some 5), .inl 0, .inr (some 6), .inr (some 7), .inl 0, .inl 0, .inl 0, .inl 0, .inr none, .inr none, .inr none, .inr none, .inr none, .inl 0, .inl 0, .inl 0, .inl 0, .inr none, .inr none, .inl 0, .inl 0, .inl 0, .inr none, .inr none, .inr none, .inl 0]), mh_row 48, mh_row 48, mh_row 48, mh_row 48, mh_row 160, mh_row 1200, mh_row 24, mh_row 192]) (by decide) rfl ?_
  refine mw_putr (fs := [.inr (some 1), .inr (some 2), .inr (some 3), .inr (some 4), .inr (some 5), .inl 0, .inr (some 6), .inr (some 7), .inl 0, .inl 0, .inl 0, .inl 0, .inr none, .inr none, .inr none, .inr none, .inr none, .inl 0, .inl 0, .inl 0, .inl 0, .inr none, .inr none, .inl 0, .inl 0, .inl 0, .inr none, .inr none, .inr none, .inl 0]) pf_X6_31 (fun _ => rfl) rfl dX6_init_68 rfl (Nat.le_of_ble_eq_true rfl) ?_
  refine mw_conv (slots' := 1768) (sh' := [.inl (6, [.inr (some 1), .inr (some 2), .inr (some 3), .inr (some 4), .inr (some 5), .inl 0, .inr (some 6), .inr (some 7), .inl 0, .inl 0, .inl 0, .inl 0, .inr (some 8), .inr none, .inr none, .inr none, .inr none, .inl 0, .inl 0, .inl 0, .inl 0, .inr none, .inr none, .inl 0, .inl 0, .inl 0, .inr none, .inr none, .inr none, .inl 0]), mh_row 48, mh_row 48, mh_row 48, mh_row 48, mh_row 160, mh_row 1200, mh_row 24, mh_row 192]) (by decide) rfl ?_
  refine mw_aload_n dX6_init_71 0 rfl ?_
  refine mw_iconst (v := 4) dX6_init_72 (by decide) ?_
  refine mw_newaE (a := 9) (by decide +kernel) (t := 0) (N := 4) (Or.inl ⟨rfl, rfl⟩) wd_56 dX6_init_73 (by decide) (by decide) (by decide) (Nat.le_of_ble_eq_true rfl) ⟨by decide, (show 1768 + 4 ≤ 2579 by omega)⟩ ?_
  refine mw_conv (slots' := 1772) (sh' := [.inl (6, [.inr (some 1), .inr (some 2), .inr (some 3), .inr (some 4), .inr (some 5), .inl 0, .inr (some 6), .inr (some 7), .inl 0, .inl 0, .inl 0, .inl 0, .inr (some 8), .inr none, .inr none, .inr none, .inr none, .inl 0, .inl 0, .inl 0, .inl 0, .inr none, .inr none, .inl 0, .inl 0, .inl 0, .inr none, .inr none, .inr none, .inl 0]), mh_row 48, mh_row 48, mh_row 48, mh_row 48, mh_row 160, mh_row 1200, mh_row 24, mh_row 192, mh_row 4]) (by decide) rfl ?_
  refine mw_dup dX6_init_75 rfl ?_
  refine mw_iconst (v := 0) dX6_init_76 (by decide) ?_
  refine mw_iconst (v := -1) dX6_init_77 (by decide) ?_
  refine mw_xiast (kx := 0) dX6_init_78 rfl (by decide) (by decide) ?_
  refine mw_dup dX6_init_79 rfl ?_
  refine mw_iconst (v := 1) dX6_init_80 (by decide) ?_
  refine mw_iconst (v := -1) dX6_init_81 (by decide) ?_
  refine mw_xiast (kx := 1) dX6_init_82 rfl (by decide) (by decide) ?_
  refine mw_dup dX6_init_83 rfl ?_
  refine mw_iconst (v := 2) dX6_init_84 (by decide) ?_
  refine mw_iconst (v := -1) dX6_init_85 (by decide) ?_
  refine mw_xiast (kx := 2) dX6_init_86 rfl (by decide) (by decide) ?_
  refine mw_dup dX6_init_87 rfl ?_
  refine mw_iconst (v := 3) dX6_init_88 (by decide) ?_
  refine mw_iconst (v := -1) dX6_init_89 (by decide) ?_
  refine mw_xiast (kx := 3) dX6_init_90 rfl (by decide) (by decide) ?_
  refine mw_putr (fs := [.inr (some 1), .inr (some 2), .inr (some 3), .inr (some 4), .inr (some 5), .inl 0, .inr (some 6), .inr (some 7), .inl 0, .inl 0, .inl 0, .inl 0, .inr (some 8), .inr none, .inr none, .inr none, .inr none, .inl 0, .inl 0, .inl 0, .inl 0, .inr none, .inr none, .inl 0, .inl 0, .inl 0, .inr none, .inr none, .inr none, .inl 0]) pf_X6_34 (fun _ => rfl) rfl dX6_init_91 rfl (Nat.le_of_ble_eq_true rfl) ?_
  refine mw_conv (slots' := 1772) (sh' := [.inl (6, [.inr (some 1), .inr (some 2), .inr (some 3), .inr (some 4), .inr (some 5), .inl 0, .inr (some 6), .inr (some 7), .inl 0, .inl 0, .inl 0, .inl 0, .inr (some 8), .inr (some 9), .inr none, .inr none, .inr none, .inl 0, .inl 0, .inl 0, .inl 0, .inr none, .inr none, .inl 0, .inl 0, .inl 0, .inr none, .inr none, .inr none, .inl 0]), mh_row 48, mh_row 48, mh_row 48, mh_row 48, mh_row 160, mh_row 1200, mh_row 24, mh_row 192, mh_row 4]) (by decide) rfl ?_
  refine mw_aload_n dX6_init_94 0 rfl ?_
  refine mw_iconst (v := 4) dX6_init_95 (by decide) ?_
  refine mw_newaE (a := 10) (by decide +kernel) (t := 0) (N := 4) (Or.inl ⟨rfl, rfl⟩) wd_56 dX6_init_96 (by decide) (by decide) (by decide) (Nat.le_of_ble_eq_true rfl) ⟨by decide, (show 1772 + 4 ≤ 2579 by omega)⟩ ?_
  refine mw_conv (slots' := 1776) (sh' := [.inl (6, [.inr (some 1), .inr (some 2), .inr (some 3), .inr (some 4), .inr (some 5), .inl 0, .inr (some 6), .inr (some 7), .inl 0, .inl 0, .inl 0, .inl 0, .inr (some 8), .inr (some 9), .inr none, .inr none, .inr none, .inl 0, .inl 0, .inl 0, .inl 0, .inr none, .inr none, .inl 0, .inl 0, .inl 0, .inr none, .inr none, .inr none, .inl 0]), mh_row 48, mh_row 48, mh_row 48, mh_row 48, mh_row 160, mh_row 1200, mh_row 24, mh_row 192, mh_row 4, mh_row 4]) (by decide) rfl ?_
  refine mw_putr (fs := [.inr (some 1), .inr (some 2), .inr (some 3), .inr (some 4), .inr (some 5), .inl 0, .inr (some 6), .inr (some 7), .inl 0, .inl 0, .inl 0, .inl 0, .inr (some 8), .inr (some 9), .inr none, .inr none, .inr none, .inl 0, .inl 0, .inl 0, .inl 0, .inr none, .inr none, .inl 0, .inl 0, .inl 0, .inr none, .inr none, .inr none, .inl 0]) pf_X6_37 (fun _ => rfl) rfl dX6_init_98 rfl (Nat.le_of_ble_eq_true rfl) ?_
  refine mw_conv (slots' := 1776) (sh' := [.inl (6, [.inr (some 1), .inr (some 2), .inr (some 3), .inr (some 4), .inr (some 5), .inl 0, .inr (some 6), .inr (some 7), .inl 0, .inl 0, .inl 0, .inl 0, .inr (some 8), .inr (some 9), .inr (some 10), .inr none, .inr none, .inl 0, .inl 0, .inl 0, .inl 0, .inr none, .inr none, .inl 0, .inl 0, .inl 0, .inr none, .inr none, .inr none, .inl 0]), mh_row 48, mh_row 48, mh_row 48, mh_row 48, mh_row 160, mh_row 1200, mh_row 24, mh_row 192, mh_row 4, mh_row 4]) (by decide) rfl ?_
  refine mw_aload_n dX6_init_101 0 rfl ?_
  refine mw_sipush (v := 192) dX6_init_102 (by decide) ?_
  refine mw_newaE (a := 11) (by decide +kernel) (t := 0) (N := 192) (Or.inl ⟨rfl, rfl⟩) wd_56 dX6_init_105 (by decide) (by decide) (by decide) (Nat.le_of_ble_eq_true rfl) ⟨by decide, (show 1776 + 192 ≤ 2579 by omega)⟩ ?_
  refine mw_conv (slots' := 1968) (sh' := [.inl (6, [.inr (some 1), .inr (some 2), .inr (some 3), .inr (some 4), .inr (some 5), .inl 0, .inr (some 6), .inr (some 7), .inl 0, .inl 0, .inl 0, .inl 0, .inr (some 8), .inr (some 9), .inr (some 10), .inr none, .inr none, .inl 0, .inl 0, .inl 0, .inl 0, .inr none, .inr none, .inl 0, .inl 0, .inl 0, .inr none, .inr none, .inr none, .inl 0]), mh_row 48, mh_row 48, mh_row 48, mh_row 48, mh_row 160, mh_row 1200, mh_row 24, mh_row 192, mh_row 4, mh_row 4, mh_row 192]) (by decide) rfl ?_
  refine mw_putr (fs := [.inr (some 1), .inr (some 2), .inr (some 3), .inr (some 4), .inr (some 5), .inl 0, .inr (some 6), .inr (some 7), .inl 0, .inl 0, .inl 0, .inl 0, .inr (some 8), .inr (some 9), .inr (some 10), .inr none, .inr none, .inl 0, .inl 0, .inl 0, .inl 0, .inr none, .inr none, .inl 0, .inl 0, .inl 0, .inr none, .inr none, .inr none, .inl 0]) pf_X6_40 (fun _ => rfl) rfl dX6_init_107 rfl (Nat.le_of_ble_eq_true rfl) ?_
  refine mw_conv (slots' := 1968) (sh' := [.inl (6, [.inr (some 1), .inr (some 2), .inr (some 3), .inr (some 4), .inr (some 5), .inl 0, .inr (some 6), .inr (some 7), .inl 0, .inl 0, .inl 0, .inl 0, .inr (some 8), .inr (some 9), .inr (some 10), .inr (some 11), .inr none, .inl 0, .inl 0, .inl 0, .inl 0, .inr none, .inr none, .inl 0, .inl 0, .inl 0, .inr none, .inr none, .inr none, .inl 0]), mh_row 48, mh_row 48, mh_row 48, mh_row 48, mh_row 160, mh_row 1200, mh_row 24, mh_row 192, mh_row 4, mh_row 4, mh_row 192]) (by decide) rfl ?_
  refine mw_aload_n dX6_init_110 0 rfl ?_
  refine mw_bipush (v := 61) dX6_init_111 (by decide) ?_
  refine mw_newaE (a := 12) (by decide +kernel) (t := 0) (N := 61) (Or.inl ⟨rfl, rfl⟩) wd_56 dX6_init_113 (by decide) (by decide) (by decide) (Nat.le_of_ble_eq_true rfl) ⟨by decide, (show 1968 + 61 ≤ 2579 by omega)⟩ ?_
  refine mw_conv (slots' := 2029) (sh' := [.inl (6, [.inr (some 1), .inr (some 2), .inr (some 3), .inr (some 4), .inr (some 5), .inl 0, .inr (some 6), .inr (some 7), .inl 0, .inl 0, .inl 0, .inl 0, .inr (some 8), .inr (some 9), .inr (some 10), .inr (some 11), .inr none, .inl 0, .inl 0, .inl 0, .inl 0, .inr none, .inr none, .inl 0, .inl 0, .inl 0, .inr none, .inr none, .inr none, .inl 0]), mh_row 48, mh_row 48, mh_row 48, mh_row 48, mh_row 160, mh_row 1200, mh_row 24, mh_row 192, mh_row 4, mh_row 4, mh_row 192, mh_row 61]) (by decide) rfl ?_
  refine mw_dup dX6_init_115 rfl ?_
  refine mw_iconst (v := 0) dX6_init_116 (by decide) ?_
  refine mw_bipush (v := 114) dX6_init_117 (by decide) ?_
  refine mw_xiast (kx := 0) dX6_init_119 rfl (by decide) (by decide) ?_
  refine mw_dup dX6_init_120 rfl ?_
  refine mw_iconst (v := 1) dX6_init_121 (by decide) ?_
  refine mw_bipush (v := 117) dX6_init_122 (by decide) ?_
  refine mw_xiast (kx := 1) dX6_init_124 rfl (by decide) (by decide) ?_
  refine mw_dup dX6_init_125 rfl ?_
  refine mw_iconst (v := 2) dX6_init_126 (by decide) ?_
  refine mw_bipush (v := 98) dX6_init_127 (by decide) ?_
  refine mw_xiast (kx := 2) dX6_init_129 rfl (by decide) (by decide) ?_
  refine mw_dup dX6_init_130 rfl ?_
  refine mw_iconst (v := 3) dX6_init_131 (by decide) ?_
  refine mw_bipush (v := 32) dX6_init_132 (by decide) ?_
  refine mw_xiast (kx := 3) dX6_init_134 rfl (by decide) (by decide) ?_
  refine mw_dup dX6_init_135 rfl ?_
  refine mw_iconst (v := 4) dX6_init_136 (by decide) ?_
  refine mw_bipush (v := 49) dX6_init_137 (by decide) ?_
  refine mw_xiast (kx := 4) dX6_init_139 rfl (by decide) (by decide) ?_
  refine mw_dup dX6_init_140 rfl ?_
  refine mw_iconst (v := 5) dX6_init_141 (by decide) ?_
  refine mw_bipush (v := 48) dX6_init_142 (by decide) ?_
  refine mw_xiast (kx := 5) dX6_init_144 rfl (by decide) (by decide) ?_
  refine mw_dup dX6_init_145 rfl ?_
  refine mw_bipush (v := 6) dX6_init_146 (by decide) ?_
  refine mw_bipush (v := 32) dX6_init_148 (by decide) ?_
  refine mw_xiast (kx := 6) dX6_init_150 rfl (by decide) (by decide) ?_
  refine mw_dup dX6_init_151 rfl ?_
  refine mw_bipush (v := 7) dX6_init_152 (by decide) ?_
  refine mw_bipush (v := 43) dX6_init_154 (by decide) ?_
  refine mw_xiast (kx := 7) dX6_init_156 rfl (by decide) (by decide) ?_
  refine mw_dup dX6_init_157 rfl ?_
  refine mw_bipush (v := 8) dX6_init_158 (by decide) ?_
  refine mw_bipush (v := 32) dX6_init_160 (by decide) ?_
  refine mw_xiast (kx := 8) dX6_init_162 rfl (by decide) (by decide) ?_
  refine mw_dup dX6_init_163 rfl ?_
  refine mw_bipush (v := 9) dX6_init_164 (by decide) ?_
  refine mw_bipush (v := 109) dX6_init_166 (by decide) ?_
  refine mw_xiast (kx := 9) dX6_init_168 rfl (by decide) (by decide) ?_
  refine mw_dup dX6_init_169 rfl ?_
  refine mw_bipush (v := 10) dX6_init_170 (by decide) ?_
  refine mw_bipush (v := 111) dX6_init_172 (by decide) ?_
  refine mw_xiast (kx := 10) dX6_init_174 rfl (by decide) (by decide) ?_
  refine mw_dup dX6_init_175 rfl ?_
  refine mw_bipush (v := 11) dX6_init_176 (by decide) ?_
  refine mw_bipush (v := 114) dX6_init_178 (by decide) ?_
  refine mw_xiast (kx := 11) dX6_init_180 rfl (by decide) (by decide) ?_
  refine mw_dup dX6_init_181 rfl ?_
  refine mw_bipush (v := 12) dX6_init_182 (by decide) ?_
  refine mw_bipush (v := 101) dX6_init_184 (by decide) ?_
  refine mw_xiast (kx := 12) dX6_init_186 rfl (by decide) (by decide) ?_
  refine mw_dup dX6_init_187 rfl ?_
  refine mw_bipush (v := 13) dX6_init_188 (by decide) ?_
  refine mw_bipush (v := 32) dX6_init_190 (by decide) ?_
  refine mw_xiast (kx := 13) dX6_init_192 rfl (by decide) (by decide) ?_
  refine mw_dup dX6_init_193 rfl ?_
  refine mw_bipush (v := 14) dX6_init_194 (by decide) ?_
  refine mw_bipush (v := 45) dX6_init_196 (by decide) ?_
  refine mw_xiast (kx := 14) dX6_init_198 rfl (by decide) (by decide) ?_
  refine mw_dup dX6_init_199 rfl ?_
  refine mw_bipush (v := 15) dX6_init_200 (by decide) ?_
  refine mw_bipush (v := 32) dX6_init_202 (by decide) ?_
  refine mw_xiast (kx := 15) dX6_init_204 rfl (by decide) (by decide) ?_
  refine mw_dup dX6_init_205 rfl ?_
  refine mw_bipush (v := 16) dX6_init_206 (by decide) ?_
  refine mw_bipush (v := 102) dX6_init_208 (by decide) ?_
  refine mw_xiast (kx := 16) dX6_init_210 rfl (by decide) (by decide) ?_
  refine mw_dup dX6_init_211 rfl ?_
  refine mw_bipush (v := 17) dX6_init_212 (by decide) ?_
  refine mw_bipush (v := 97) dX6_init_214 (by decide) ?_
  refine mw_xiast (kx := 17) dX6_init_216 rfl (by decide) (by decide) ?_
  refine mw_dup dX6_init_217 rfl ?_
  refine mw_bipush (v := 18) dX6_init_218 (by decide) ?_
  refine mw_bipush (v := 99) dX6_init_220 (by decide) ?_
  refine mw_xiast (kx := 18) dX6_init_222 rfl (by decide) (by decide) ?_
  refine mw_dup dX6_init_223 rfl ?_
  refine mw_bipush (v := 19) dX6_init_224 (by decide) ?_
  refine mw_bipush (v := 101) dX6_init_226 (by decide) ?_
  refine mw_xiast (kx := 19) dX6_init_228 rfl (by decide) (by decide) ?_
  refine mw_dup dX6_init_229 rfl ?_
  refine mw_bipush (v := 20) dX6_init_230 (by decide) ?_
  refine mw_bipush (v := 32) dX6_init_232 (by decide) ?_
  refine mw_xiast (kx := 20) dX6_init_234 rfl (by decide) (by decide) ?_
  refine mw_dup dX6_init_235 rfl ?_
  refine mw_bipush (v := 21) dX6_init_236 (by decide) ?_
  refine mw_bipush (v := 42) dX6_init_238 (by decide) ?_
  refine mw_xiast (kx := 21) dX6_init_240 rfl (by decide) (by decide) ?_
  refine mw_dup dX6_init_241 rfl ?_
  refine mw_bipush (v := 22) dX6_init_242 (by decide) ?_
  refine mw_bipush (v := 32) dX6_init_244 (by decide) ?_
  refine mw_xiast (kx := 22) dX6_init_246 rfl (by decide) (by decide) ?_
  refine mw_dup dX6_init_247 rfl ?_
  refine mw_bipush (v := 23) dX6_init_248 (by decide) ?_
  refine mw_bipush (v := 51) dX6_init_250 (by decide) ?_
  refine mw_xiast (kx := 23) dX6_init_252 rfl (by decide) (by decide) ?_
  refine mw_dup dX6_init_253 rfl ?_
  refine mw_bipush (v := 24) dX6_init_254 (by decide) ?_
  refine mw_bipush (v := 32) dX6_init_256 (by decide) ?_
  refine mw_xiast (kx := 24) dX6_init_258 rfl (by decide) (by decide) ?_
  refine mw_dup dX6_init_259 rfl ?_
  refine mw_bipush (v := 25) dX6_init_260 (by decide) ?_
  refine mw_bipush (v := 59) dX6_init_262 (by decide) ?_
  refine mw_xiast (kx := 25) dX6_init_264 rfl (by decide) (by decide) ?_
  refine mw_dup dX6_init_265 rfl ?_
  refine mw_bipush (v := 26) dX6_init_266 (by decide) ?_
  refine mw_bipush (v := 32) dX6_init_268 (by decide) ?_
  refine mw_xiast (kx := 26) dX6_init_270 rfl (by decide) (by decide) ?_
  refine mw_dup dX6_init_271 rfl ?_
  refine mw_bipush (v := 27) dX6_init_272 (by decide) ?_
  refine mw_bipush (v := 109) dX6_init_274 (by decide) ?_
  refine mw_xiast (kx := 27) dX6_init_276 rfl (by decide) (by decide) ?_
  refine mw_dup dX6_init_277 rfl ?_
  refine mw_bipush (v := 28) dX6_init_278 (by decide) ?_
  refine mw_bipush (v := 105) dX6_init_280 (by decide) ?_
  refine mw_xiast (kx := 28) dX6_init_282 rfl (by decide) (by decide) ?_
  refine mw_dup dX6_init_283 rfl ?_
  refine mw_bipush (v := 29) dX6_init_284 (by decide) ?_
  refine mw_bipush (v := 110) dX6_init_286 (by decide) ?_
  refine mw_xiast (kx := 29) dX6_init_288 rfl (by decide) (by decide) ?_
  refine mw_dup dX6_init_289 rfl ?_
  refine mw_bipush (v := 30) dX6_init_290 (by decide) ?_
  refine mw_bipush (v := 117) dX6_init_292 (by decide) ?_
  refine mw_xiast (kx := 30) dX6_init_294 rfl (by decide) (by decide) ?_
  refine mw_dup dX6_init_295 rfl ?_
  refine mw_bipush (v := 31) dX6_init_296 (by decide) ?_
  refine mw_bipush (v := 116) dX6_init_298 (by decide) ?_
  refine mw_xiast (kx := 31) dX6_init_300 rfl (by decide) (by decide) ?_
  refine mw_dup dX6_init_301 rfl ?_
  refine mw_bipush (v := 32) dX6_init_302 (by decide) ?_
  refine mw_bipush (v := 101) dX6_init_304 (by decide) ?_
  refine mw_xiast (kx := 32) dX6_init_306 rfl (by decide) (by decide) ?_
  refine mw_dup dX6_init_307 rfl ?_
  refine mw_bipush (v := 33) dX6_init_308 (by decide) ?_
  refine mw_bipush (v := 115) dX6_init_310 (by decide) ?_
  refine mw_xiast (kx := 33) dX6_init_312 rfl (by decide) (by decide) ?_
  refine mw_dup dX6_init_313 rfl ?_
  refine mw_bipush (v := 34) dX6_init_314 (by decide) ?_
  refine mw_bipush (v := 32) dX6_init_316 (by decide) ?_
  refine mw_xiast (kx := 34) dX6_init_318 rfl (by decide) (by decide) ?_
  refine mw_dup dX6_init_319 rfl ?_
  refine mw_bipush (v := 35) dX6_init_320 (by decide) ?_
  refine mw_bipush (v := 50) dX6_init_322 (by decide) ?_
  refine mw_xiast (kx := 35) dX6_init_324 rfl (by decide) (by decide) ?_
  refine mw_dup dX6_init_325 rfl ?_
  refine mw_bipush (v := 36) dX6_init_326 (by decide) ?_
  refine mw_bipush (v := 32) dX6_init_328 (by decide) ?_
  refine mw_xiast (kx := 36) dX6_init_330 rfl (by decide) (by decide) ?_
  refine mw_dup dX6_init_331 rfl ?_
  refine mw_bipush (v := 37) dX6_init_332 (by decide) ?_
  refine mw_bipush (v := 43) dX6_init_334 (by decide) ?_
  refine mw_xiast (kx := 37) dX6_init_336 rfl (by decide) (by decide) ?_
  refine mw_dup dX6_init_337 rfl ?_
  refine mw_bipush (v := 38) dX6_init_338 (by decide) ?_
  refine mw_bipush (v := 32) dX6_init_340 (by decide) ?_
  refine mw_xiast (kx := 38) dX6_init_342 rfl (by decide) (by decide) ?_
  refine mw_dup dX6_init_343 rfl ?_
  refine mw_bipush (v := 39) dX6_init_344 (by decide) ?_
  refine mw_bipush (v := 109) dX6_init_346 (by decide) ?_
  refine mw_xiast (kx := 39) dX6_init_348 rfl (by decide) (by decide) ?_
  refine mw_dup dX6_init_349 rfl ?_
  refine mw_bipush (v := 40) dX6_init_350 (by decide) ?_
  refine mw_bipush (v := 111) dX6_init_352 (by decide) ?_
  refine mw_xiast (kx := 40) dX6_init_354 rfl (by decide) (by decide) ?_
  refine mw_dup dX6_init_355 rfl ?_
  refine mw_bipush (v := 41) dX6_init_356 (by decide) ?_
  refine mw_bipush (v := 114) dX6_init_358 (by decide) ?_
  refine mw_xiast (kx := 41) dX6_init_360 rfl (by decide) (by decide) ?_
  refine mw_dup dX6_init_361 rfl ?_
  refine mw_bipush (v := 42) dX6_init_362 (by decide) ?_
  refine mw_bipush (v := 101) dX6_init_364 (by decide) ?_
  refine mw_xiast (kx := 42) dX6_init_366 rfl (by decide) (by decide) ?_
  refine mw_dup dX6_init_367 rfl ?_
  refine mw_bipush (v := 43) dX6_init_368 (by decide) ?_
  refine mw_bipush (v := 32) dX6_init_370 (by decide) ?_
  refine mw_xiast (kx := 43) dX6_init_372 rfl (by decide) (by decide) ?_
  refine mw_dup dX6_init_373 rfl ?_
  refine mw_bipush (v := 44) dX6_init_374 (by decide) ?_
  refine mw_bipush (v := 59) dX6_init_376 (by decide) ?_
  refine mw_xiast (kx := 44) dX6_init_378 rfl (by decide) (by decide) ?_
  refine mw_dup dX6_init_379 rfl ?_
  refine mw_bipush (v := 45) dX6_init_380 (by decide) ?_
  refine mw_bipush (v := 32) dX6_init_382 (by decide) ?_
  refine mw_xiast (kx := 45) dX6_init_384 rfl (by decide) (by decide) ?_
  refine mw_dup dX6_init_385 rfl ?_
  refine mw_bipush (v := 46) dX6_init_386 (by decide) ?_
  refine mw_bipush (v := 115) dX6_init_388 (by decide) ?_
  refine mw_xiast (kx := 46) dX6_init_390 rfl (by decide) (by decide) ?_
  refine mw_dup dX6_init_391 rfl ?_
  refine mw_bipush (v := 47) dX6_init_392 (by decide) ?_
  refine mw_bipush (v := 101) dX6_init_394 (by decide) ?_
  refine mw_xiast (kx := 47) dX6_init_396 rfl (by decide) (by decide) ?_
  refine mw_dup dX6_init_397 rfl ?_
  refine mw_bipush (v := 48) dX6_init_398 (by decide) ?_
  refine mw_bipush (v := 101) dX6_init_400 (by decide) ?_
  refine mw_xiast (kx := 48) dX6_init_402 rfl (by decide) (by decide) ?_
  refine mw_dup dX6_init_403 rfl ?_
  refine mw_bipush (v := 49) dX6_init_404 (by decide) ?_
  refine mw_bipush (v := 110) dX6_init_406 (by decide) ?_
  refine mw_xiast (kx := 49) dX6_init_408 rfl (by decide) (by decide) ?_
  refine mw_dup dX6_init_409 rfl ?_
  refine mw_bipush (v := 50) dX6_init_410 (by decide) ?_
  refine mw_bipush (v := 32) dX6_init_412 (by decide) ?_
  refine mw_xiast (kx := 50) dX6_init_414 rfl (by decide) (by decide) ?_
  refine mw_dup dX6_init_415 rfl ?_
  refine mw_bipush (v := 51) dX6_init_416 (by decide) ?_
  refine mw_bipush (v := 49) dX6_init_418 (by decide) ?_
  refine mw_xiast (kx := 51) dX6_init_420 rfl (by decide) (by decide) ?_
  refine mw_dup dX6_init_421 rfl ?_
  refine mw_bipush (v := 52) dX6_init_422 (by decide) ?_
  refine mw_bipush (v := 32) dX6_init_424 (by decide) ?_
  refine mw_xiast (kx := 52) dX6_init_426 rfl (by decide) (by decide) ?_
  refine mw_dup dX6_init_427 rfl ?_
  refine mw_bipush (v := 53) dX6_init_428 (by decide) ?_
  refine mw_bipush (v := 43) dX6_init_430 (by decide) ?_
  refine mw_xiast (kx := 53) dX6_init_432 rfl (by decide) (by decide) ?_
  refine mw_dup dX6_init_433 rfl ?_
  refine mw_bipush (v := 54) dX6_init_434 (by decide) ?_
  refine mw_bipush (v := 32) dX6_init_436 (by decide) ?_
  refine mw_xiast (kx := 54) dX6_init_438 rfl (by decide) (by decide) ?_
  refine mw_dup dX6_init_439 rfl ?_
  refine mw_bipush (v := 55) dX6_init_440 (by decide) ?_
  refine mw_bipush (v := 102) dX6_init_442 (by decide) ?_
  refine mw_xiast (kx := 55) dX6_init_444 rfl (by decide) (by decide) ?_
  refine mw_dup dX6_init_445 rfl ?_
  refine mw_bipush (v := 56) dX6_init_446 (by decide) ?_
  refine mw_bipush (v := 97) dX6_init_448 (by decide) ?_
  refine mw_xiast (kx := 56) dX6_init_450 rfl (by decide) (by decide) ?_
  refine mw_dup dX6_init_451 rfl ?_
  refine mw_bipush (v := 57) dX6_init_452 (by decide) ?_
  refine mw_bipush (v := 99) dX6_init_454 (by decide) ?_
  refine mw_xiast (kx := 57) dX6_init_456 rfl (by decide) (by decide) ?_
  refine mw_dup dX6_init_457 rfl ?_
  refine mw_bipush (v := 58) dX6_init_458 (by decide) ?_
  refine mw_bipush (v := 101) dX6_init_460 (by decide) ?_
  refine mw_xiast (kx := 58) dX6_init_462 rfl (by decide) (by decide) ?_
  refine mw_dup dX6_init_463 rfl ?_
  refine mw_bipush (v := 59) dX6_init_464 (by decide) ?_
  refine mw_bipush (v := 32) dX6_init_466 (by decide) ?_
  refine mw_xiast (kx := 59) dX6_init_468 rfl (by decide) (by decide) ?_
  refine mw_dup dX6_init_469 rfl ?_
  refine mw_bipush (v := 60) dX6_init_470 (by decide) ?_
  refine mw_bipush (v := 59) dX6_init_472 (by decide) ?_
  refine mw_xiast (kx := 60) dX6_init_474 rfl (by decide) (by decide) ?_
  refine mw_putr (fs := [.inr (some 1), .inr (some 2), .inr (some 3), .inr (some 4), .inr (some 5), .inl 0, .inr (some 6), .inr (some 7), .inl 0, .inl 0, .inl 0, .inl 0, .inr (some 8), .inr (some 9), .inr (some 10), .inr (some 11), .inr none, .inl 0, .inl 0, .inl 0, .inl 0, .inr none, .inr none, .inl 0, .inl 0, .inl 0, .inr none, .inr none, .inr none, .inl 0]) pf_X6_43 (fun _ => rfl) rfl dX6_init_475 rfl (Nat.le_of_ble_eq_true rfl) ?_
  refine mw_conv (slots' := 2029) (sh' := [.inl (6, [.inr (some 1), .inr (some 2), .inr (some 3), .inr (some 4), .inr (some 5), .inl 0, .inr (some 6), .inr (some 7), .inl 0, .inl 0, .inl 0, .inl 0, .inr (some 8), .inr (some 9), .inr (some 10), .inr (some 11), .inr (some 12), .inl 0, .inl 0, .inl 0, .inl 0, .inr none, .inr none, .inl 0, .inl 0, .inl 0, .inr none, .inr none, .inr none, .inl 0]), mh_row 48, mh_row 48, mh_row 48, mh_row 48, mh_row 160, mh_row 1200, mh_row 24, mh_row 192, mh_row 4, mh_row 4, mh_row 192, mh_row 61]) (by decide) rfl ?_
  refine mw_aload_n dX6_init_478 0 rfl ?_
  refine mw_bipush (v := 96) dX6_init_479 (by decide) ?_
  refine mw_newaE (a := 13) (by decide +kernel) (t := 0) (N := 96) (Or.inl ⟨rfl, rfl⟩) wd_56 dX6_init_481 (by decide) (by decide) (by decide) (Nat.le_of_ble_eq_true rfl) ⟨by decide, (show 2029 + 96 ≤ 2579 by omega)⟩ ?_
  refine mw_conv (slots' := 2125) (sh' := [.inl (6, [.inr (some 1), .inr (some 2), .inr (some 3), .inr (some 4), .inr (some 5), .inl 0, .inr (some 6), .inr (some 7), .inl 0, .inl 0, .inl 0, .inl 0, .inr (some 8), .inr (some 9), .inr (some 10), .inr (some 11), .inr (some 12), .inl 0, .inl 0, .inl 0, .inl 0, .inr none, .inr none, .inl 0, .inl 0, .inl 0, .inr none, .inr none, .inr none, .inl 0]), mh_row 48, mh_row 48, mh_row 48, mh_row 48, mh_row 160, mh_row 1200, mh_row 24, mh_row 192, mh_row 4, mh_row 4, mh_row 192, mh_row 61, mh_row 96]) (by decide) rfl ?_
  refine mw_dup dX6_init_483 rfl ?_
  refine mw_iconst (v := 0) dX6_init_484 (by decide) ?_
  refine mw_bipush (v := 114) dX6_init_485 (by decide) ?_
  refine mw_xiast (kx := 0) dX6_init_487 rfl (by decide) (by decide) ?_
  refine mw_dup dX6_init_488 rfl ?_
  refine mw_iconst (v := 1) dX6_init_489 (by decide) ?_
  refine mw_bipush (v := 117) dX6_init_490 (by decide) ?_
  refine mw_xiast (kx := 1) dX6_init_492 rfl (by decide) (by decide) ?_
  refine mw_dup dX6_init_493 rfl ?_
  refine mw_iconst (v := 2) dX6_init_494 (by decide) ?_
  refine mw_bipush (v := 98) dX6_init_495 (by decide) ?_
  refine mw_xiast (kx := 2) dX6_init_497 rfl (by decide) (by decide) ?_
  refine mw_dup dX6_init_498 rfl ?_
  refine mw_iconst (v := 3) dX6_init_499 (by decide) ?_
  refine mw_bipush (v := 32) dX6_init_500 (by decide) ?_
  refine mw_xiast (kx := 3) dX6_init_502 rfl (by decide) (by decide) ?_
  refine mw_dup dX6_init_503 rfl ?_
  refine mw_iconst (v := 4) dX6_init_504 (by decide) ?_
  refine mw_bipush (v := 32) dX6_init_505 (by decide) ?_
  refine mw_xiast (kx := 4) dX6_init_507 rfl (by decide) (by decide) ?_
  refine mw_dup dX6_init_508 rfl ?_
  refine mw_iconst (v := 5) dX6_init_509 (by decide) ?_
  refine mw_bipush (v := 32) dX6_init_510 (by decide) ?_
  refine mw_xiast (kx := 5) dX6_init_512 rfl (by decide) (by decide) ?_
  refine mw_dup dX6_init_513 rfl ?_
  refine mw_bipush (v := 6) dX6_init_514 (by decide) ?_
  refine mw_bipush (v := 32) dX6_init_516 (by decide) ?_
  refine mw_xiast (kx := 6) dX6_init_518 rfl (by decide) (by decide) ?_
  refine mw_dup dX6_init_519 rfl ?_
  refine mw_bipush (v := 7) dX6_init_520 (by decide) ?_
  refine mw_bipush (v := 32) dX6_init_522 (by decide) ?_
  refine mw_xiast (kx := 7) dX6_init_524 rfl (by decide) (by decide) ?_
  refine mw_dup dX6_init_525 rfl ?_
  refine mw_bipush (v := 8) dX6_init_526 (by decide) ?_
  refine mw_bipush (v := 109) dX6_init_528 (by decide) ?_
  refine mw_xiast (kx := 8) dX6_init_530 rfl (by decide) (by decide) ?_
  refine mw_dup dX6_init_531 rfl ?_
  refine mw_bipush (v := 9) dX6_init_532 (by decide) ?_
  refine mw_bipush (v := 105) dX6_init_534 (by decide) ?_
  refine mw_xiast (kx := 9) dX6_init_536 rfl (by decide) (by decide) ?_
  refine mw_dup dX6_init_537 rfl ?_
  refine mw_bipush (v := 10) dX6_init_538 (by decide) ?_
  refine mw_bipush (v := 110) dX6_init_540 (by decide) ?_
  refine mw_xiast (kx := 10) dX6_init_542 rfl (by decide) (by decide) ?_
  refine mw_dup dX6_init_543 rfl ?_
  refine mw_bipush (v := 11) dX6_init_544 (by decide) ?_
  refine mw_bipush (v := 117) dX6_init_546 (by decide) ?_
  refine mw_xiast (kx := 11) dX6_init_548 rfl (by decide) (by decide) ?_
  refine mw_dup dX6_init_549 rfl ?_
  refine mw_bipush (v := 12) dX6_init_550 (by decide) ?_
  refine mw_bipush (v := 116) dX6_init_552 (by decide) ?_
  refine mw_xiast (kx := 12) dX6_init_554 rfl (by decide) (by decide) ?_
  refine mw_dup dX6_init_555 rfl ?_
  refine mw_bipush (v := 13) dX6_init_556 (by decide) ?_
  refine mw_bipush (v := 101) dX6_init_558 (by decide) ?_
  refine mw_xiast (kx := 13) dX6_init_560 rfl (by decide) (by decide) ?_
  refine mw_dup dX6_init_561 rfl ?_
  refine mw_bipush (v := 14) dX6_init_562 (by decide) ?_
  refine mw_bipush (v := 115) dX6_init_564 (by decide) ?_
  refine mw_xiast (kx := 14) dX6_init_566 rfl (by decide) (by decide) ?_
  refine mw_dup dX6_init_567 rfl ?_
  refine mw_bipush (v := 15) dX6_init_568 (by decide) ?_
  refine mw_bipush (v := 32) dX6_init_570 (by decide) ?_
  refine mw_xiast (kx := 15) dX6_init_572 rfl (by decide) (by decide) ?_
  refine mw_dup dX6_init_573 rfl ?_
  refine mw_bipush (v := 16) dX6_init_574 (by decide) ?_
  refine mw_bipush (v := 115) dX6_init_576 (by decide) ?_
  refine mw_xiast (kx := 16) dX6_init_578 rfl (by decide) (by decide) ?_
  refine mw_dup dX6_init_579 rfl ?_
  refine mw_bipush (v := 17) dX6_init_580 (by decide) ?_
  refine mw_bipush (v := 101) dX6_init_582 (by decide) ?_
  refine mw_xiast (kx := 17) dX6_init_584 rfl (by decide) (by decide) ?_
  refine mw_dup dX6_init_585 rfl ?_
  refine mw_bipush (v := 18) dX6_init_586 (by decide) ?_
  refine mw_bipush (v := 101) dX6_init_588 (by decide) ?_
  refine mw_xiast (kx := 18) dX6_init_590 rfl (by decide) (by decide) ?_
  refine mw_dup dX6_init_591 rfl ?_
  refine mw_bipush (v := 19) dX6_init_592 (by decide) ?_
  refine mw_bipush (v := 110) dX6_init_594 (by decide) ?_
  refine mw_xiast (kx := 19) dX6_init_596 rfl (by decide) (by decide) ?_
  refine mw_dup dX6_init_597 rfl ?_
  refine mw_bipush (v := 20) dX6_init_598 (by decide) ?_
  refine mw_bipush (v := 32) dX6_init_600 (by decide) ?_
  refine mw_xiast (kx := 20) dX6_init_602 rfl (by decide) (by decide) ?_
  refine mw_dup dX6_init_603 rfl ?_
  refine mw_bipush (v := 21) dX6_init_604 (by decide) ?_
  refine mw_bipush (v := 32) dX6_init_606 (by decide) ?_
  refine mw_xiast (kx := 21) dX6_init_608 rfl (by decide) (by decide) ?_
  refine mw_dup dX6_init_609 rfl ?_
  refine mw_bipush (v := 22) dX6_init_610 (by decide) ?_
  refine mw_bipush (v := 32) dX6_init_612 (by decide) ?_
  refine mw_xiast (kx := 22) dX6_init_614 rfl (by decide) (by decide) ?_
  refine mw_dup dX6_init_615 rfl ?_
  refine mw_bipush (v := 23) dX6_init_616 (by decide) ?_
  refine mw_bipush (v := 32) dX6_init_618 (by decide) ?_
  refine mw_xiast (kx := 23) dX6_init_620 rfl (by decide) (by decide) ?_
  refine mw_dup dX6_init_621 rfl ?_
  refine mw_bipush (v := 24) dX6_init_622 (by decide) ?_
  refine mw_bipush (v := 114) dX6_init_624 (by decide) ?_
  refine mw_xiast (kx := 24) dX6_init_626 rfl (by decide) (by decide) ?_
  refine mw_dup dX6_init_627 rfl ?_
  refine mw_bipush (v := 25) dX6_init_628 (by decide) ?_
  refine mw_bipush (v := 111) dX6_init_630 (by decide) ?_
  refine mw_xiast (kx := 25) dX6_init_632 rfl (by decide) (by decide) ?_
  refine mw_dup dX6_init_633 rfl ?_
  refine mw_bipush (v := 26) dX6_init_634 (by decide) ?_
  refine mw_bipush (v := 119) dX6_init_636 (by decide) ?_
  refine mw_xiast (kx := 26) dX6_init_638 rfl (by decide) (by decide) ?_
  refine mw_dup dX6_init_639 rfl ?_
  refine mw_bipush (v := 27) dX6_init_640 (by decide) ?_
  refine mw_bipush (v := 32) dX6_init_642 (by decide) ?_
  refine mw_xiast (kx := 27) dX6_init_644 rfl (by decide) (by decide) ?_
  refine mw_dup dX6_init_645 rfl ?_
  refine mw_bipush (v := 28) dX6_init_646 (by decide) ?_
  refine mw_bipush (v := 32) dX6_init_648 (by decide) ?_
  refine mw_xiast (kx := 28) dX6_init_650 rfl (by decide) (by decide) ?_
  refine mw_dup dX6_init_651 rfl ?_
  refine mw_bipush (v := 29) dX6_init_652 (by decide) ?_
  refine mw_bipush (v := 32) dX6_init_654 (by decide) ?_
  refine mw_xiast (kx := 29) dX6_init_656 rfl (by decide) (by decide) ?_
  refine mw_dup dX6_init_657 rfl ?_
  refine mw_bipush (v := 30) dX6_init_658 (by decide) ?_
  refine mw_bipush (v := 32) dX6_init_660 (by decide) ?_
  refine mw_xiast (kx := 30) dX6_init_662 rfl (by decide) (by decide) ?_
  refine mw_dup dX6_init_663 rfl ?_
  refine mw_bipush (v := 31) dX6_init_664 (by decide) ?_
  refine mw_bipush (v := 32) dX6_init_666 (by decide) ?_
  refine mw_xiast (kx := 31) dX6_init_668 rfl (by decide) (by decide) ?_
  refine mw_dup dX6_init_669 rfl ?_
  refine mw_bipush (v := 32) dX6_init_670 (by decide) ?_
  refine mw_bipush (v := 112) dX6_init_672 (by decide) ?_
  refine mw_xiast (kx := 32) dX6_init_674 rfl (by decide) (by decide) ?_
  refine mw_dup dX6_init_675 rfl ?_
  refine mw_bipush (v := 33) dX6_init_676 (by decide) ?_
  refine mw_bipush (v := 108) dX6_init_678 (by decide) ?_
  refine mw_xiast (kx := 33) dX6_init_680 rfl (by decide) (by decide) ?_
  refine mw_dup dX6_init_681 rfl ?_
  refine mw_bipush (v := 34) dX6_init_682 (by decide) ?_
  refine mw_bipush (v := 97) dX6_init_684 (by decide) ?_
  refine mw_xiast (kx := 34) dX6_init_686 rfl (by decide) (by decide) ?_
  refine mw_dup dX6_init_687 rfl ?_
  refine mw_bipush (v := 35) dX6_init_688 (by decide) ?_
  refine mw_bipush (v := 99) dX6_init_690 (by decide) ?_
  refine mw_xiast (kx := 35) dX6_init_692 rfl (by decide) (by decide) ?_
  refine mw_dup dX6_init_693 rfl ?_
  refine mw_bipush (v := 36) dX6_init_694 (by decide) ?_
  refine mw_bipush (v := 101) dX6_init_696 (by decide) ?_
  refine mw_xiast (kx := 36) dX6_init_698 rfl (by decide) (by decide) ?_
  refine mw_dup dX6_init_699 rfl ?_
  refine mw_bipush (v := 37) dX6_init_700 (by decide) ?_
  refine mw_bipush (v := 32) dX6_init_702 (by decide) ?_
  refine mw_xiast (kx := 37) dX6_init_704 rfl (by decide) (by decide) ?_
  refine mw_dup dX6_init_705 rfl ?_
  refine mw_bipush (v := 38) dX6_init_706 (by decide) ?_
  refine mw_bipush (v := 32) dX6_init_708 (by decide) ?_
  refine mw_xiast (kx := 38) dX6_init_710 rfl (by decide) (by decide) ?_
  refine mw_dup dX6_init_711 rfl ?_
  refine mw_bipush (v := 39) dX6_init_712 (by decide) ?_
  refine mw_bipush (v := 32) dX6_init_714 (by decide) ?_
  refine mw_xiast (kx := 39) dX6_init_716 rfl (by decide) (by decide) ?_
  refine mw_dup dX6_init_717 rfl ?_
  refine mw_bipush (v := 40) dX6_init_718 (by decide) ?_
  refine mw_bipush (v := 109) dX6_init_720 (by decide) ?_
  refine mw_xiast (kx := 40) dX6_init_722 rfl (by decide) (by decide) ?_
  refine mw_dup dX6_init_723 rfl ?_
  refine mw_bipush (v := 41) dX6_init_724 (by decide) ?_
  refine mw_bipush (v := 111) dX6_init_726 (by decide) ?_
  refine mw_xiast (kx := 41) dX6_init_728 rfl (by decide) (by decide) ?_
  refine mw_dup dX6_init_729 rfl ?_
  refine mw_bipush (v := 42) dX6_init_730 (by decide) ?_
  refine mw_bipush (v := 114) dX6_init_732 (by decide) ?_
  refine mw_xiast (kx := 42) dX6_init_734 rfl (by decide) (by decide) ?_
  refine mw_dup dX6_init_735 rfl ?_
  refine mw_bipush (v := 43) dX6_init_736 (by decide) ?_
  refine mw_bipush (v := 101) dX6_init_738 (by decide) ?_
  refine mw_xiast (kx := 43) dX6_init_740 rfl (by decide) (by decide) ?_
  refine mw_dup dX6_init_741 rfl ?_
  refine mw_bipush (v := 44) dX6_init_742 (by decide) ?_
  refine mw_bipush (v := 32) dX6_init_744 (by decide) ?_
  refine mw_xiast (kx := 44) dX6_init_746 rfl (by decide) (by decide) ?_
  refine mw_dup dX6_init_747 rfl ?_
  refine mw_bipush (v := 45) dX6_init_748 (by decide) ?_
  refine mw_bipush (v := 32) dX6_init_750 (by decide) ?_
  refine mw_xiast (kx := 45) dX6_init_752 rfl (by decide) (by decide) ?_
  refine mw_dup dX6_init_753 rfl ?_
  refine mw_bipush (v := 46) dX6_init_754 (by decide) ?_
  refine mw_bipush (v := 32) dX6_init_756 (by decide) ?_
  refine mw_xiast (kx := 46) dX6_init_758 rfl (by decide) (by decide) ?_
  refine mw_dup dX6_init_759 rfl ?_
  refine mw_bipush (v := 47) dX6_init_760 (by decide) ?_
  refine mw_bipush (v := 32) dX6_init_762 (by decide) ?_
  refine mw_xiast (kx := 47) dX6_init_764 rfl (by decide) (by decide) ?_
  refine mw_dup dX6_init_765 rfl ?_
  refine mw_bipush (v := 48) dX6_init_766 (by decide) ?_
  refine mw_bipush (v := 112) dX6_init_768 (by decide) ?_
  refine mw_xiast (kx := 48) dX6_init_770 rfl (by decide) (by decide) ?_
  refine mw_dup dX6_init_771 rfl ?_
  refine mw_bipush (v := 49) dX6_init_772 (by decide) ?_
  refine mw_bipush (v := 117) dX6_init_774 (by decide) ?_
  refine mw_xiast (kx := 49) dX6_init_776 rfl (by decide) (by decide) ?_
  refine mw_dup dX6_init_777 rfl ?_
  refine mw_bipush (v := 50) dX6_init_778 (by decide) ?_
  refine mw_bipush (v := 108) dX6_init_780 (by decide) ?_
  refine mw_xiast (kx := 50) dX6_init_782 rfl (by decide) (by decide) ?_
  refine mw_dup dX6_init_783 rfl ?_
  refine mw_bipush (v := 51) dX6_init_784 (by decide) ?_
  refine mw_bipush (v := 108) dX6_init_786 (by decide) ?_
  refine mw_xiast (kx := 51) dX6_init_788 rfl (by decide) (by decide) ?_
  refine mw_dup dX6_init_789 rfl ?_
  refine mw_bipush (v := 52) dX6_init_790 (by decide) ?_
  refine mw_bipush (v := 32) dX6_init_792 (by decide) ?_
  refine mw_xiast (kx := 52) dX6_init_794 rfl (by decide) (by decide) ?_
  refine mw_dup dX6_init_795 rfl ?_
  refine mw_bipush (v := 53) dX6_init_796 (by decide) ?_
  refine mw_bipush (v := 32) dX6_init_798 (by decide) ?_
  refine mw_xiast (kx := 53) dX6_init_800 rfl (by decide) (by decide) ?_
  refine mw_dup dX6_init_801 rfl ?_
  refine mw_bipush (v := 54) dX6_init_802 (by decide) ?_
  refine mw_bipush (v := 32) dX6_init_804 (by decide) ?_
  refine mw_xiast (kx := 54) dX6_init_806 rfl (by decide) (by decide) ?_
  refine mw_dup dX6_init_807 rfl ?_
  refine mw_bipush (v := 55) dX6_init_808 (by decide) ?_
  refine mw_bipush (v := 32) dX6_init_810 (by decide) ?_
  refine mw_xiast (kx := 55) dX6_init_812 rfl (by decide) (by decide) ?_
  refine mw_dup dX6_init_813 rfl ?_
  refine mw_bipush (v := 56) dX6_init_814 (by decide) ?_
  refine mw_bipush (v := 102) dX6_init_816 (by decide) ?_
  refine mw_xiast (kx := 56) dX6_init_818 rfl (by decide) (by decide) ?_
  refine mw_dup dX6_init_819 rfl ?_
  refine mw_bipush (v := 57) dX6_init_820 (by decide) ?_
  refine mw_bipush (v := 97) dX6_init_822 (by decide) ?_
  refine mw_xiast (kx := 57) dX6_init_824 rfl (by decide) (by decide) ?_
  refine mw_dup dX6_init_825 rfl ?_
  refine mw_bipush (v := 58) dX6_init_826 (by decide) ?_
  refine mw_bipush (v := 99) dX6_init_828 (by decide) ?_
  refine mw_xiast (kx := 58) dX6_init_830 rfl (by decide) (by decide) ?_
  refine mw_dup dX6_init_831 rfl ?_
  refine mw_bipush (v := 59) dX6_init_832 (by decide) ?_
  refine mw_bipush (v := 101) dX6_init_834 (by decide) ?_
  refine mw_xiast (kx := 59) dX6_init_836 rfl (by decide) (by decide) ?_
  refine mw_dup dX6_init_837 rfl ?_
  refine mw_bipush (v := 60) dX6_init_838 (by decide) ?_
  refine mw_bipush (v := 32) dX6_init_840 (by decide) ?_
  refine mw_xiast (kx := 60) dX6_init_842 rfl (by decide) (by decide) ?_
  refine mw_dup dX6_init_843 rfl ?_
  refine mw_bipush (v := 61) dX6_init_844 (by decide) ?_
  refine mw_bipush (v := 32) dX6_init_846 (by decide) ?_
  refine mw_xiast (kx := 61) dX6_init_848 rfl (by decide) (by decide) ?_
  refine mw_dup dX6_init_849 rfl ?_
  refine mw_bipush (v := 62) dX6_init_850 (by decide) ?_
  refine mw_bipush (v := 32) dX6_init_852 (by decide) ?_
  refine mw_xiast (kx := 62) dX6_init_854 rfl (by decide) (by decide) ?_
  refine mw_dup dX6_init_855 rfl ?_
  refine mw_bipush (v := 63) dX6_init_856 (by decide) ?_
  refine mw_bipush (v := 32) dX6_init_858 (by decide) ?_
  refine mw_xiast (kx := 63) dX6_init_860 rfl (by decide) (by decide) ?_
  refine mw_dup dX6_init_861 rfl ?_
  refine mw_bipush (v := 64) dX6_init_862 (by decide) ?_
  refine mw_bipush (v := 109) dX6_init_864 (by decide) ?_
  refine mw_xiast (kx := 64) dX6_init_866 rfl (by decide) (by decide) ?_
  refine mw_dup dX6_init_867 rfl ?_
  refine mw_bipush (v := 65) dX6_init_868 (by decide) ?_
  refine mw_bipush (v := 101) dX6_init_870 (by decide) ?_
  refine mw_xiast (kx := 65) dX6_init_872 rfl (by decide) (by decide) ?_
  refine mw_dup dX6_init_873 rfl ?_
  refine mw_bipush (v := 66) dX6_init_874 (by decide) ?_
  refine mw_bipush (v := 110) dX6_init_876 (by decide) ?_
  refine mw_xiast (kx := 66) dX6_init_878 rfl (by decide) (by decide) ?_
  refine mw_dup dX6_init_879 rfl ?_
  refine mw_bipush (v := 67) dX6_init_880 (by decide) ?_
  refine mw_bipush (v := 100) dX6_init_882 (by decide) ?_
  refine mw_xiast (kx := 67) dX6_init_884 rfl (by decide) (by decide) ?_
  refine mw_dup dX6_init_885 rfl ?_
  refine mw_bipush (v := 68) dX6_init_886 (by decide) ?_
  refine mw_bipush (v := 101) dX6_init_888 (by decide) ?_
  refine mw_xiast (kx := 68) dX6_init_890 rfl (by decide) (by decide) ?_
  refine mw_dup dX6_init_891 rfl ?_
  refine mw_bipush (v := 69) dX6_init_892 (by decide) ?_
  refine mw_bipush (v := 100) dX6_init_894 (by decide) ?_
  refine mw_xiast (kx := 69) dX6_init_896 rfl (by decide) (by decide) ?_
  refine mw_dup dX6_init_897 rfl ?_
  refine mw_bipush (v := 70) dX6_init_898 (by decide) ?_
  refine mw_bipush (v := 32) dX6_init_900 (by decide) ?_
  refine mw_xiast (kx := 70) dX6_init_902 rfl (by decide) (by decide) ?_
  refine mw_dup dX6_init_903 rfl ?_
  refine mw_bipush (v := 71) dX6_init_904 (by decide) ?_
  refine mw_bipush (v := 32) dX6_init_906 (by decide) ?_
  refine mw_xiast (kx := 71) dX6_init_908 rfl (by decide) (by decide) ?_
  refine mw_dup dX6_init_909 rfl ?_
  refine mw_bipush (v := 72) dX6_init_910 (by decide) ?_
  refine mw_bipush (v := 111) dX6_init_912 (by decide) ?_
  refine mw_xiast (kx := 72) dX6_init_914 rfl (by decide) (by decide) ?_
  refine mw_dup dX6_init_915 rfl ?_
  refine mw_bipush (v := 73) dX6_init_916 (by decide) ?_
  refine mw_bipush (v := 114) dX6_init_918 (by decide) ?_
  refine mw_xiast (kx := 73) dX6_init_920 rfl (by decide) (by decide) ?_
  refine mw_dup dX6_init_921 rfl ?_
  refine mw_bipush (v := 74) dX6_init_922 (by decide) ?_
  refine mw_bipush (v := 32) dX6_init_924 (by decide) ?_
  refine mw_xiast (kx := 74) dX6_init_926 rfl (by decide) (by decide) ?_
  refine mw_dup dX6_init_927 rfl ?_
  refine mw_bipush (v := 75) dX6_init_928 (by decide) ?_
  refine mw_bipush (v := 32) dX6_init_930 (by decide) ?_
  refine mw_xiast (kx := 75) dX6_init_932 rfl (by decide) (by decide) ?_
  refine mw_dup dX6_init_933 rfl ?_
  refine mw_bipush (v := 76) dX6_init_934 (by decide) ?_
  refine mw_bipush (v := 32) dX6_init_936 (by decide) ?_
  refine mw_xiast (kx := 76) dX6_init_938 rfl (by decide) (by decide) ?_
  refine mw_dup dX6_init_939 rfl ?_
  refine mw_bipush (v := 77) dX6_init_940 (by decide) ?_
  refine mw_bipush (v := 32) dX6_init_942 (by decide) ?_
  refine mw_xiast (kx := 77) dX6_init_944 rfl (by decide) (by decide) ?_
  refine mw_dup dX6_init_945 rfl ?_
  refine mw_bipush (v := 78) dX6_init_946 (by decide) ?_
  refine mw_bipush (v := 32) dX6_init_948 (by decide) ?_
  refine mw_xiast (kx := 78) dX6_init_950 rfl (by decide) (by decide) ?_
  refine mw_dup dX6_init_951 rfl ?_
  refine mw_bipush (v := 79) dX6_init_952 (by decide) ?_
  refine mw_bipush (v := 32) dX6_init_954 (by decide) ?_
  refine mw_xiast (kx := 79) dX6_init_956 rfl (by decide) (by decide) ?_
  refine mw_dup dX6_init_957 rfl ?_
  refine mw_bipush (v := 80) dX6_init_958 (by decide) ?_
  refine mw_bipush (v := 97) dX6_init_960 (by decide) ?_
  refine mw_xiast (kx := 80) dX6_init_962 rfl (by decide) (by decide) ?_
  refine mw_dup dX6_init_963 rfl ?_
  refine mw_bipush (v := 81) dX6_init_964 (by decide) ?_
  refine mw_bipush (v := 110) dX6_init_966 (by decide) ?_
  refine mw_xiast (kx := 81) dX6_init_968 rfl (by decide) (by decide) ?_
  refine mw_dup dX6_init_969 rfl ?_
  refine mw_bipush (v := 82) dX6_init_970 (by decide) ?_
  refine mw_bipush (v := 100) dX6_init_972 (by decide) ?_
  refine mw_xiast (kx := 82) dX6_init_974 rfl (by decide) (by decide) ?_
  refine mw_dup dX6_init_975 rfl ?_
  refine mw_bipush (v := 83) dX6_init_976 (by decide) ?_
  refine mw_bipush (v := 32) dX6_init_978 (by decide) ?_
  refine mw_xiast (kx := 83) dX6_init_980 rfl (by decide) (by decide) ?_
  refine mw_dup dX6_init_981 rfl ?_
  refine mw_bipush (v := 84) dX6_init_982 (by decide) ?_
  refine mw_bipush (v := 32) dX6_init_984 (by decide) ?_
  refine mw_xiast (kx := 84) dX6_init_986 rfl (by decide) (by decide) ?_
  refine mw_dup dX6_init_987 rfl ?_
  refine mw_bipush (v := 85) dX6_init_988 (by decide) ?_
  refine mw_bipush (v := 32) dX6_init_990 (by decide) ?_
  refine mw_xiast (kx := 85) dX6_init_992 rfl (by decide) (by decide) ?_
  refine mw_dup dX6_init_993 rfl ?_
  refine mw_bipush (v := 86) dX6_init_994 (by decide) ?_
  refine mw_bipush (v := 32) dX6_init_996 (by decide) ?_
  refine mw_xiast (kx := 86) dX6_init_998 rfl (by decide) (by decide) ?_
  refine mw_dup dX6_init_999 rfl ?_
  refine mw_bipush (v := 87) dX6_init_1000 (by decide) ?_
  refine mw_bipush (v := 32) dX6_init_1002 (by decide) ?_
  refine mw_xiast (kx := 87) dX6_init_1004 rfl (by decide) (by decide) ?_
  refine mw_dup dX6_init_1005 rfl ?_
  refine mw_bipush (v := 88) dX6_init_1006 (by decide) ?_
  refine mw_bipush (v := 110) dX6_init_1008 (by decide) ?_
  refine mw_xiast (kx := 88) dX6_init_1010 rfl (by decide) (by decide) ?_
  refine mw_dup dX6_init_1011 rfl ?_
  refine mw_bipush (v := 89) dX6_init_1012 (by decide) ?_
  refine mw_bipush (v := 111) dX6_init_1014 (by decide) ?_
  refine mw_xiast (kx := 89) dX6_init_1016 rfl (by decide) (by decide) ?_
  refine mw_dup dX6_init_1017 rfl ?_
  refine mw_bipush (v := 90) dX6_init_1018 (by decide) ?_
  refine mw_bipush (v := 116) dX6_init_1020 (by decide) ?_
  refine mw_xiast (kx := 90) dX6_init_1022 rfl (by decide) (by decide) ?_
  refine mw_dup dX6_init_1023 rfl ?_
  refine mw_bipush (v := 91) dX6_init_1024 (by decide) ?_
  refine mw_bipush (v := 32) dX6_init_1026 (by decide) ?_
  refine mw_xiast (kx := 91) dX6_init_1028 rfl (by decide) (by decide) ?_
  refine mw_dup dX6_init_1029 rfl ?_
  refine mw_bipush (v := 92) dX6_init_1030 (by decide) ?_
  refine mw_bipush (v := 32) dX6_init_1032 (by decide) ?_
  refine mw_xiast (kx := 92) dX6_init_1034 rfl (by decide) (by decide) ?_
  refine mw_dup dX6_init_1035 rfl ?_
  refine mw_bipush (v := 93) dX6_init_1036 (by decide) ?_
  refine mw_bipush (v := 32) dX6_init_1038 (by decide) ?_
  refine mw_xiast (kx := 93) dX6_init_1040 rfl (by decide) (by decide) ?_
  refine mw_dup dX6_init_1041 rfl ?_
  refine mw_bipush (v := 94) dX6_init_1042 (by decide) ?_
  refine mw_bipush (v := 32) dX6_init_1044 (by decide) ?_
  refine mw_xiast (kx := 94) dX6_init_1046 rfl (by decide) (by decide) ?_
  refine mw_dup dX6_init_1047 rfl ?_
  refine mw_bipush (v := 95) dX6_init_1048 (by decide) ?_
  refine mw_bipush (v := 32) dX6_init_1050 (by decide) ?_
  refine mw_xiast (kx := 95) dX6_init_1052 rfl (by decide) (by decide) ?_
  refine mw_putr (fs := [.inr (some 1), .inr (some 2), .inr (some 3), .inr (some 4), .inr (some 5), .inl 0, .inr (some 6), .inr (some 7), .inl 0, .inl 0, .inl 0, .inl 0, .inr (some 8), .inr (some 9), .inr (some 10), .inr (some 11), .inr (some 12), .inl 0, .inl 0, .inl 0, .inl 0, .inr none, .inr none, .inl 0, .inl 0, .inl 0, .inr none, .inr none, .inr none, .inl 0]) pf_X6_46 (fun _ => rfl) rfl dX6_init_1053 rfl (Nat.le_of_ble_eq_true rfl) ?_
  refine mw_conv (slots' := 2125) (sh' := [.inl (6, [.inr (some 1), .inr (some 2), .inr (some 3), .inr (some 4), .inr (some 5), .inl 0, .inr (some 6), .inr (some 7), .inl 0, .inl 0, .inl 0, .inl 0, .inr (some 8), .inr (some 9), .inr (some 10), .inr (some 11), .inr (some 12), .inl 0, .inl 0, .inl 0, .inl 0, .inr (some 13), .inr none, .inl 0, .inl 0, .inl 0, .inr none, .inr none, .inr none, .inl 0]), mh_row 48, mh_row 48, mh_row 48, mh_row 48, mh_row 160, mh_row 1200, mh_row 24, mh_row 192, mh_row 4, mh_row 4, mh_row 192, mh_row 61, mh_row 96]) (by decide) rfl ?_
  refine mw_aload_n dX6_init_1056 0 rfl ?_
  refine mw_sipush (v := 200) dX6_init_1057 (by decide) ?_
  refine mw_newaE (a := 14) (by decide +kernel) (t := 0) (N := 200) (Or.inl ⟨rfl, rfl⟩) wd_56 dX6_init_1060 (by decide) (by decide) (by decide) (Nat.le_of_ble_eq_true rfl) ⟨by decide, (show 2125 + 200 ≤ 2579 by omega)⟩ ?_
  refine mw_conv (slots' := 2325) (sh' := [.inl (6, [.inr (some 1), .inr (some 2), .inr (some 3), .inr (some 4), .inr (some 5), .inl 0, .inr (some 6), .inr (some 7), .inl 0, .inl 0, .inl 0, .inl 0, .inr (some 8), .inr (some 9), .inr (some 10), .inr (some 11), .inr (some 12), .inl 0, .inl 0, .inl 0, .inl 0, .inr (some 13), .inr none, .inl 0, .inl 0, .inl 0, .inr none, .inr none, .inr none, .inl 0]), mh_row 48, mh_row 48, mh_row 48, mh_row 48, mh_row 160, mh_row 1200, mh_row 24, mh_row 192, mh_row 4, mh_row 4, mh_row 192, mh_row 61, mh_row 96, mh_row 200]) (by decide) rfl ?_
  refine mw_putr (fs := [.inr (some 1), .inr (some 2), .inr (some 3), .inr (some 4), .inr (some 5), .inl 0, .inr (some 6), .inr (some 7), .inl 0, .inl 0, .inl 0, .inl 0, .inr (some 8), .inr (some 9), .inr (some 10), .inr (some 11), .inr (some 12), .inl 0, .inl 0, .inl 0, .inl 0, .inr (some 13), .inr none, .inl 0, .inl 0, .inl 0, .inr none, .inr none, .inr none, .inl 0]) pf_X6_49 (fun _ => rfl) rfl dX6_init_1062 rfl (Nat.le_of_ble_eq_true rfl) ?_
  refine mw_conv (slots' := 2325) (sh' := [.inl (6, [.inr (some 1), .inr (some 2), .inr (some 3), .inr (some 4), .inr (some 5), .inl 0, .inr (some 6), .inr (some 7), .inl 0, .inl 0, .inl 0, .inl 0, .inr (some 8), .inr (some 9), .inr (some 10), .inr (some 11), .inr (some 12), .inl 0, .inl 0, .inl 0, .inl 0, .inr (some 13), .inr (some 14), .inl 0, .inl 0, .inl 0, .inr none, .inr none, .inr none, .inl 0]), mh_row 48, mh_row 48, mh_row 48, mh_row 48, mh_row 160, mh_row 1200, mh_row 24, mh_row 192, mh_row 4, mh_row 4, mh_row 192, mh_row 61, mh_row 96, mh_row 200]) (by decide) rfl ?_
  refine mw_aload_n dX6_init_1065 0 rfl ?_
  refine mw_sipush (v := 200) dX6_init_1066 (by decide) ?_
  refine mw_newaE (a := 15) (by decide +kernel) (t := 0) (N := 200) (Or.inl ⟨rfl, rfl⟩) wd_56 dX6_init_1069 (by decide) (by decide) (by decide) (Nat.le_of_ble_eq_true rfl) ⟨by decide, (show 2325 + 200 ≤ 2579 by omega)⟩ ?_
  refine mw_conv (slots' := 2525) (sh' := [.inl (6, [.inr (some 1), .inr (some 2), .inr (some 3), .inr (some 4), .inr (some 5), .inl 0, .inr (some 6), .inr (some 7), .inl 0, .inl 0, .inl 0, .inl 0, .inr (some 8), .inr (some 9), .inr (some 10), .inr (some 11), .inr (some 12), .inl 0, .inl 0, .inl 0, .inl 0, .inr (some 13), .inr (some 14), .inl 0, .inl 0, .inl 0, .inr none, .inr none, .inr none, .inl 0]), mh_row 48, mh_row 48, mh_row 48, mh_row 48, mh_row 160, mh_row 1200, mh_row 24, mh_row 192, mh_row 4, mh_row 4, mh_row 192, mh_row 61, mh_row 96, mh_row 200, mh_row 200]) (by decide) rfl ?_
  refine mw_putr (fs := [.inr (some 1), .inr (some 2), .inr (some 3), .inr (some 4), .inr (some 5), .inl 0, .inr (some 6), .inr (some 7), .inl 0, .inl 0, .inl 0, .inl 0, .inr (some 8), .inr (some 9), .inr (some 10), .inr (some 11), .inr (some 12), .inl 0, .inl 0, .inl 0, .inl 0, .inr (some 13), .inr (some 14), .inl 0, .inl 0, .inl 0, .inr none, .inr none, .inr none, .inl 0]) pf_X6_52 (fun _ => rfl) rfl dX6_init_1071 rfl (Nat.le_of_ble_eq_true rfl) ?_
  refine mw_conv (slots' := 2525) (sh' := [.inl (6, [.inr (some 1), .inr (some 2), .inr (some 3), .inr (some 4), .inr (some 5), .inl 0, .inr (some 6), .inr (some 7), .inl 0, .inl 0, .inl 0, .inl 0, .inr (some 8), .inr (some 9), .inr (some 10), .inr (some 11), .inr (some 12), .inl 0, .inl 0, .inl 0, .inl 0, .inr (some 13), .inr (some 14), .inl 0, .inl 0, .inl 0, .inr (some 15), .inr none, .inr none, .inl 0]), mh_row 48, mh_row 48, mh_row 48, mh_row 48, mh_row 160, mh_row 1200, mh_row 24, mh_row 192, mh_row 4, mh_row 4, mh_row 192, mh_row 61, mh_row 96, mh_row 200, mh_row 200]) (by decide) rfl ?_
  refine mw_aload_n dX6_init_1074 0 rfl ?_
  refine mw_bipush (v := 6) dX6_init_1075 (by decide) ?_
  refine mw_newaE (a := 16) (by decide +kernel) (t := 0) (N := 6) (Or.inl ⟨rfl, rfl⟩) wd_56 dX6_init_1077 (by decide) (by decide) (by decide) (Nat.le_of_ble_eq_true rfl) ⟨by decide, (show 2525 + 6 ≤ 2579 by omega)⟩ ?_
  refine mw_conv (slots' := 2531) (sh' := [.inl (6, [.inr (some 1), .inr (some 2), .inr (some 3), .inr (some 4), .inr (some 5), .inl 0, .inr (some 6), .inr (some 7), .inl 0, .inl 0, .inl 0, .inl 0, .inr (some 8), .inr (some 9), .inr (some 10), .inr (some 11), .inr (some 12), .inl 0, .inl 0, .inl 0, .inl 0, .inr (some 13), .inr (some 14), .inl 0, .inl 0, .inl 0, .inr (some 15), .inr none, .inr none, .inl 0]), mh_row 48, mh_row 48, mh_row 48, mh_row 48, mh_row 160, mh_row 1200, mh_row 24, mh_row 192, mh_row 4, mh_row 4, mh_row 192, mh_row 61, mh_row 96, mh_row 200, mh_row 200, mh_row 6]) (by decide) rfl ?_
  refine mw_putr (fs := [.inr (some 1), .inr (some 2), .inr (some 3), .inr (some 4), .inr (some 5), .inl 0, .inr (some 6), .inr (some 7), .inl 0, .inl 0, .inl 0, .inl 0, .inr (some 8), .inr (some 9), .inr (some 10), .inr (some 11), .inr (some 12), .inl 0, .inl 0, .inl 0, .inl 0, .inr (some 13), .inr (some 14), .inl 0, .inl 0, .inl 0, .inr (some 15), .inr none, .inr none, .inl 0]) pf_X6_55 (fun _ => rfl) rfl dX6_init_1079 rfl (Nat.le_of_ble_eq_true rfl) ?_
  refine mw_conv (slots' := 2531) (sh' := [.inl (6, [.inr (some 1), .inr (some 2), .inr (some 3), .inr (some 4), .inr (some 5), .inl 0, .inr (some 6), .inr (some 7), .inl 0, .inl 0, .inl 0, .inl 0, .inr (some 8), .inr (some 9), .inr (some 10), .inr (some 11), .inr (some 12), .inl 0, .inl 0, .inl 0, .inl 0, .inr (some 13), .inr (some 14), .inl 0, .inl 0, .inl 0, .inr (some 15), .inr (some 16), .inr none, .inl 0]), mh_row 48, mh_row 48, mh_row 48, mh_row 48, mh_row 160, mh_row 1200, mh_row 24, mh_row 192, mh_row 4, mh_row 4, mh_row 192, mh_row 61, mh_row 96, mh_row 200, mh_row 200, mh_row 6]) (by decide) rfl ?_
  refine mw_aload_n dX6_init_1082 0 rfl ?_
  refine mw_bipush (v := 48) dX6_init_1083 (by decide) ?_
  refine mw_newaE (a := 17) (by decide +kernel) (t := 0) (N := 48) (Or.inl ⟨rfl, rfl⟩) wd_56 dX6_init_1085 (by decide) (by decide) (by decide) (Nat.le_of_ble_eq_true rfl) ⟨by decide, (show 2531 + 48 ≤ 2579 by omega)⟩ ?_
  refine mw_conv (slots' := 2579) (sh' := [.inl (6, [.inr (some 1), .inr (some 2), .inr (some 3), .inr (some 4), .inr (some 5), .inl 0, .inr (some 6), .inr (some 7), .inl 0, .inl 0, .inl 0, .inl 0, .inr (some 8), .inr (some 9), .inr (some 10), .inr (some 11), .inr (some 12), .inl 0, .inl 0, .inl 0, .inl 0, .inr (some 13), .inr (some 14), .inl 0, .inl 0, .inl 0, .inr (some 15), .inr (some 16), .inr none, .inl 0]), mh_row 48, mh_row 48, mh_row 48, mh_row 48, mh_row 160, mh_row 1200, mh_row 24, mh_row 192, mh_row 4, mh_row 4, mh_row 192, mh_row 61, mh_row 96, mh_row 200, mh_row 200, mh_row 6, mh_row 48]) (by decide) rfl ?_
  refine mw_putr (fs := [.inr (some 1), .inr (some 2), .inr (some 3), .inr (some 4), .inr (some 5), .inl 0, .inr (some 6), .inr (some 7), .inl 0, .inl 0, .inl 0, .inl 0, .inr (some 8), .inr (some 9), .inr (some 10), .inr (some 11), .inr (some 12), .inl 0, .inl 0, .inl 0, .inl 0, .inr (some 13), .inr (some 14), .inl 0, .inl 0, .inl 0, .inr (some 15), .inr (some 16), .inr none, .inl 0]) pf_X6_58 (fun _ => rfl) rfl dX6_init_1087 rfl (Nat.le_of_ble_eq_true rfl) ?_
  refine mw_conv (slots' := 2579) (sh' := [.inl (6, [.inr (some 1), .inr (some 2), .inr (some 3), .inr (some 4), .inr (some 5), .inl 0, .inr (some 6), .inr (some 7), .inl 0, .inl 0, .inl 0, .inl 0, .inr (some 8), .inr (some 9), .inr (some 10), .inr (some 11), .inr (some 12), .inl 0, .inl 0, .inl 0, .inl 0, .inr (some 13), .inr (some 14), .inl 0, .inl 0, .inl 0, .inr (some 15), .inr (some 16), .inr (some 17), .inl 0]), mh_row 48, mh_row 48, mh_row 48, mh_row 48, mh_row 160, mh_row 1200, mh_row 24, mh_row 192, mh_row 4, mh_row 4, mh_row 192, mh_row 61, mh_row 96, mh_row 200, mh_row 200, mh_row 6, mh_row 48]) (by decide) rfl ?_
  refine mw_iconst (v := 0) dX6_init_1090 (by decide) ?_
  refine mw_istore_n dX6_init_1091 (by decide) rfl ?_
  rw [cs_shape6]
  obtain ⟨I1, h1, h⟩ := mh_bind (show (X6_init_l1092 mh_fuel 0 (cI_X6 I)).bind (fun I1 => (X6_text (mh_u I1 0 5 (61 : Int32))).bind (fun q => some q.2)) = some res from h)
  obtain ⟨q, hq, h⟩ := mh_bind h
  obtain rfl := Option.some.inj h
  refine t_X6_init_l1092 _ _ _ h1 ?_
  refine mw_aload_n dX6_init_1116 0 rfl ?_
  refine mw_bipush (v := 61) dX6_init_1117 (by decide) ?_
  refine mw_puti (fs := fsX6) pf_X6_61 (fun h => by cases h) rfl rfl dX6_init_1119 rfl rfl ?_
  refine mw_aload_n dX6_init_1122 0 rfl ?_
  refine mwc_vr (dc := 4) (ci := 6) (fs := fsX6) (T := TX6) (N := 30) cv_X6_65 wd_715 dX6_init_1123 [] [.ref 0] rfl rfl rfl rfl (t_X6_text hq) ⟨by decide, by decide⟩ (Nat.le_of_ble_eq_true rfl) ⟨Nat.le_of_ble_eq_true rfl, Nat.le_of_ble_eq_true rfl⟩ rfl ?_
  refine mw_pop dX6_init_1126 rfl ?_
  rw [← hφ]
  exact mw_vret dX6_init_1127 rfl (Nat.le_of_ble_eq_true rfl) (Nat.le_refl _) mh_ret_rfl
