abbrev w_X3_readInto (sh : List mh_C) (Φ : mh_P) (I : mh_I) (L : mh_L) (pc : Nat) (lv : List (Nat × Value)) (st : List Value) : Prop := mh_W RX3 cX3_readInto 3 (some .int) false (mh_rm 101) 46 0 0 mh_noX Φ 0 sh I L pc lv st
def X3_readInto_l23 (tx : Nat) (k90 : (mh_I → Option (Int32 × mh_I × (Option Nat)))) : Nat → Int32 → mh_I → Option (Int32 × mh_I × (Option Nat))
  | 0, _, _ => none
  | n + 1, u2, I => if (3 : Int32) ≤ u2 then (k90 I) else if (I 7 4) = ((300 : Int32) + u2) then (X3_advance I).bind (fun q4 => (X3_grp tx 80 0 (0 : Int32) (0 : Int32) q4).bind (fun q5 => if q5.1 = 0 then some ((q5.2 7 3), q5.2, (some tx)) else if (q5.2 7 4) = (59 : Int32) then (X4_endPart tx u2 q5.2).bind (fun q6 => (X3_advance q6).bind (fun q7 => mh_b (u2 + (1 : Int32)) (fun b8 => (X3_readInto_l23 tx k90 n b8 q7)))) else some ((q5.2 7 3), q5.2, (some tx)))) else some ((I 7 3), I, (some tx))
set_option maxHeartbeats 4000000 in
set_option maxRecDepth 100000 in
theorem t_X3_readInto_l23 {tx : Nat} (hI : hs_X4 (SHX (some tx)) tx) {k90 : (mh_I → Option (Int32 × mh_I × (Option Nat)))} {L : mh_L} {res : Int32 × mh_I × (Option Nat)} (n : Nat) (u2 : Int32) (I : mh_I) (h : X3_readInto_l23 tx k90 n u2 I = some res) (hk90 : ∀ (I : mh_I), k90 I = some res → w_X3_readInto (SHX (some tx)) (mh_ret (some (.int res.1)) (SHX res.2.2) res.2.1 L) I L 90 [(0, .ref 7)] []) : w_X3_readInto (SHX (some tx)) (mh_ret (some (.int res.1)) (SHX res.2.2) res.2.1 L) I L 23 [(0, .ref 7), (2, .int u2)] [] := by
  induction n generalizing u2 I with
  | zero => rw [X3_readInto_l23] at h; cases h
  | succ n ih =>
    rw [X3_readInto_l23] at h
    refine mw_iload_n dX3_readInto_23 1 rfl ?_
    refine mw_iconst (v := 3) dX3_readInto_24 (by decide) ?_
    refine mw_icmp_ge (tgt := 90) dX3_readInto_25 (by decide) (fun hc12 => ?_) (fun hc12 => ?_)
    · replace h := mh_ifp hc12 h
      refine mw_loc [0] rfl ?_
      exact hk90 _ h
    · replace h := mh_ifn hc12 h
      refine mw_aload_n dX3_readInto_28 0 rfl ?_
      refine mw_geti (fs := (fsX3 7 (some tx))) gf_X3_34 dX3_readInto_29 rfl rfl ?_
      refine mw_sipush (v := 300) dX3_readInto_32 (by decide) ?_
      refine mw_iload_n dX3_readInto_35 1 rfl ?_
      refine mw_iadd dX3_readInto_36 ?_
      refine mw_icmp_eq (tgt := 45) dX3_readInto_37 (by decide) (fun hc11 => ?_) (fun hc11 => ?_)
      · replace h := mh_ifp hc11 h
        refine mw_aload_n dX3_readInto_45 0 rfl ?_
        obtain ⟨q4, hq4, h⟩ := mh_bind h
        refine mw_vv (dc := 7) (ci := 3) (fs := (fsX3 7 (some tx))) (T := TX3) (N := 7) cv_X3_31 wd_217 dX3_readInto_46 [] [.ref 7] rfl rfl rfl rfl (t_X3_advance hq4) ⟨by decide, by decide⟩ (Nat.le_of_ble_eq_true rfl) ⟨rfl, rfl⟩ ?_
        refine mw_aload_n dX3_readInto_49 0 rfl ?_
        refine mw_iconst (v := 0) dX3_readInto_50 (by decide) ?_
        refine mw_iconst (v := 0) dX3_readInto_51 (by decide) ?_
        obtain ⟨q5, hq5, h⟩ := mh_bind h
        refine mw_vz (dc := 100) (ci := 3) (fs := (fsX3 7 (some tx))) (T := TX3) (N := 7) cv_X3_40 wd_244 dX3_readInto_52 [.int (0 : Int32), .int (0 : Int32)] [.int (0 : Int32), .int (0 : Int32), .ref 7] rfl rfl rfl rfl (t_X3_grp0 hI hq5) ⟨by decide, by decide⟩ (Nat.le_of_ble_eq_true rfl) ⟨rfl, rfl⟩ (fun zq5 => ?_)
        refine mw_if_eq (tgt := 67) dX3_readInto_55 (by decide) (fun hc10 => ?_) (fun hc10 => ?_)
        · replace h := mh_ifp hc10 h
          refine mw_aload_n dX3_readInto_67 0 rfl ?_
          refine mw_geti (fs := (fsX3 7 (some tx))) gf_X3_37 dX3_readInto_68 rfl rfl ?_
          obtain rfl := Option.some.inj h
          exact mw_iret dX3_readInto_71 rfl rfl (Nat.le_of_ble_eq_true rfl) (Nat.le_refl 0) mh_ret_rfl
        · replace h := mh_ifn hc10 h
          refine mw_aload_n dX3_readInto_58 0 rfl ?_
          refine mw_geti (fs := (fsX3 7 (some tx))) gf_X3_34 dX3_readInto_59 rfl rfl ?_
          refine mw_bipush (v := 59) dX3_readInto_62 (by decide) ?_
          refine mw_icmp_eq (tgt := 72) dX3_readInto_64 (by decide) (fun hc9 => ?_) (fun hc9 => ?_)
          · replace h := mh_ifp hc9 h
            refine mw_aload_n dX3_readInto_72 0 rfl ?_
            refine mw_getr (b := tx) (fs := (fsX3 7 (some tx))) gf_X3_19 dX3_readInto_73 rfl rfl ?_
            refine mw_iload_n dX3_readInto_76 1 rfl ?_
            obtain ⟨q6, hq6, h⟩ := mh_bind h
            refine mw_vv (dc := 0) (ci := 4) (fs := (fsX4 tx)) (T := TX4) (N := 5) cv_X3_44 wd_267 dX3_readInto_77 [.int u2] [.int u2, .ref tx] rfl rfl hI.1 rfl (t_X4_endPart hI hq6) ⟨by decide, by decide⟩ (Nat.le_of_ble_eq_true rfl) ⟨rfl, rfl⟩ ?_
            refine mw_aload_n dX3_readInto_80 0 rfl ?_
            obtain ⟨q7, hq7, h⟩ := mh_bind h
            refine mw_vv (dc := 7) (ci := 3) (fs := (fsX3 7 (some tx))) (T := TX3) (N := 7) cv_X3_31 wd_217 dX3_readInto_81 [] [.ref 7] rfl rfl rfl rfl (t_X3_advance hq7) ⟨by decide, by decide⟩ (Nat.le_of_ble_eq_true rfl) ⟨rfl, rfl⟩ ?_
            obtain ⟨b8, eb8, h⟩ := mh_b_some h
            refine mw_iinc (v := b8) dX3_readInto_84 1 rfl (by rw [← eb8]; rfl) (by decide) rfl ?_
            refine mw_goto (tgt := 23) dX3_readInto_87 (by decide) ?_
            refine mw_loc [1, 0] rfl ?_
            exact ih _ _ h
          · replace h := mh_ifn hc9 h
            refine mw_aload_n dX3_readInto_67 0 rfl ?_
            refine mw_geti (fs := (fsX3 7 (some tx))) gf_X3_37 dX3_readInto_68 rfl rfl ?_
            obtain rfl := Option.some.inj h
            exact mw_iret dX3_readInto_71 rfl rfl (Nat.le_of_ble_eq_true rfl) (Nat.le_refl 0) mh_ret_rfl
      · replace h := mh_ifn hc11 h
        refine mw_aload_n dX3_readInto_40 0 rfl ?_
        refine mw_geti (fs := (fsX3 7 (some tx))) gf_X3_37 dX3_readInto_41 rfl rfl ?_
        obtain rfl := Option.some.inj h
        exact mw_iret dX3_readInto_44 rfl rfl (Nat.le_of_ble_eq_true rfl) (Nat.le_refl 0) mh_ret_rfl
def X3_readInto (p1 : Nat) (I : mh_I) (into : Option Nat) : Option (Int32 × mh_I × (Option Nat)) := (X4_clear p1 I).bind (fun q2 => (X3_advance (mh_u q2 7 2 (0 : Int32))).bind (fun q3 => X3_readInto_l23 p1 (fun (I13 : mh_I) => if (I13 7 4) = 0 then some ((-1 : Int32), I13, (some p1)) else some ((I13 7 3), I13, (some p1))) mh_fuel (0 : Int32) q3))
set_option maxHeartbeats 4000000 in
set_option maxRecDepth 100000 in
theorem t_X3_readInto {into : Option Nat} {L : mh_L} {I : mh_I} {p1 : Nat} (hf1 : hs_X4 (SHX into) p1) {res : Int32 × mh_I × (Option Nat)} (h : X3_readInto p1 I into = some res) : mh_CT yX3_readInto cX3_readInto 3 (some .int) (mh_rm 101) (SHX into) I L [.ref 7, .ref p1] (mh_ret (some (.int res.1)) (SHX res.2.2) res.2.1 L) := by
  refine mh_ofW (ini := false) RX3 rfl (by decide) (fun h => by cases h) (Nat.le_of_ble_eq_true rfl) ?_
  show w_X3_readInto (SHX into) (mh_ret (some (.int res.1)) (SHX res.2.2) res.2.1 L) I L 0 [(0, .ref 7), (1, .ref p1)] []
  unfold X3_readInto at h
  refine mw_aload_n dX3_readInto_0 0 rfl ?_
  refine mw_aload_n dX3_readInto_1 1 rfl ?_
  refine mw_putr (fs := (fsX3 7 into)) pf_X3_19 (fun h => by cases h) rfl dX3_readInto_2 rfl (Nat.le_of_ble_eq_true rfl) ?_
  have hI1 := sx_T4 (T2 := (some p1)) hf1
  show w_X3_readInto (SHX (some p1)) (mh_ret (some (.int res.1)) (SHX res.2.2) res.2.1 L) I L 5 [(0, .ref 7), (1, .ref p1)] []
  refine mw_aload_n dX3_readInto_5 0 rfl ?_
  refine mw_getr (b := p1) (fs := (fsX3 7 (some p1))) gf_X3_19 dX3_readInto_6 rfl rfl ?_
  obtain ⟨q2, hq2, h⟩ := mh_bind h
  refine mw_vv (dc := 0) (ci := 4) (fs := (fsX4 p1)) (T := TX4) (N := 5) cv_X3_23 wd_213 dX3_readInto_9 [] [.ref p1] rfl rfl hI1.1 rfl (t_X4_clear hI1 hq2) ⟨by decide, by decide⟩ (Nat.le_of_ble_eq_true rfl) ⟨rfl, rfl⟩ ?_
  refine mw_aload_n dX3_readInto_12 0 rfl ?_
  refine mw_iconst (v := 0) dX3_readInto_13 (by decide) ?_
  refine mw_puti (fs := (fsX3 7 (some p1))) pf_X3_28 (fun h => by cases h) rfl rfl dX3_readInto_14 rfl rfl ?_
  refine mw_aload_n dX3_readInto_17 0 rfl ?_
  obtain ⟨q3, hq3, h⟩ := mh_bind h
  refine mw_vv (dc := 7) (ci := 3) (fs := (fsX3 7 (some p1))) (T := TX3) (N := 7) cv_X3_31 wd_217 dX3_readInto_18 [] [.ref 7] rfl rfl rfl rfl (t_X3_advance hq3) ⟨by decide, by decide⟩ (Nat.le_of_ble_eq_true rfl) ⟨rfl, rfl⟩ ?_
  refine mw_iconst (v := 0) dX3_readInto_21 (by decide) ?_
  refine mw_istore_n dX3_readInto_22 (by decide) rfl ?_
  refine mw_loc [1, 0] rfl ?_
  refine t_X3_readInto_l23 hI1 _ _ _ h (fun I13 h => ?_)
  refine mw_aload_n dX3_readInto_90 0 rfl ?_
  refine mw_geti (fs := (fsX3 7 (some p1))) gf_X3_34 dX3_readInto_91 rfl rfl ?_
  refine mw_if_ne (tgt := 101) dX3_readInto_94 (by decide) (fun hc14 => ?_) (fun hc14 => ?_)
  · replace h := mh_ifn hc14 h
    refine mw_aload_n dX3_readInto_101 0 rfl ?_
    refine mw_geti (fs := (fsX3 7 (some p1))) gf_X3_37 dX3_readInto_102 rfl rfl ?_
    obtain rfl := Option.some.inj h
    exact mw_iret dX3_readInto_105 rfl rfl (Nat.le_of_ble_eq_true rfl) (Nat.le_refl 0) mh_ret_rfl
  · replace h := mh_ifp hc14 h
    refine mw_iconst (v := -1) dX3_readInto_97 (by decide) ?_
    refine mw_goto (tgt := 105) dX3_readInto_98 (by decide) ?_
    obtain rfl := Option.some.inj h
    exact mw_iret dX3_readInto_105 rfl rfl (Nat.le_of_ble_eq_true rfl) (Nat.le_refl 0) mh_ret_rfl
abbrev w_X5_count (sh : List mh_C) (Φ : mh_P) (I : mh_I) (L : mh_L) (pc : Nat) (lv : List (Nat × Value)) (st : List Value) : Prop := mh_W RX5 cX5_count 2 (some .int) false (mh_rm 1) 46 0 0 mh_noX Φ 0 sh I L pc lv st
def X5_count (p1 : Int32) (I : mh_I) (L : mh_L) : Option (Int32) := if p1 = 0 then (J13_bitCount_95d88 (L 1 2)).bind (fun q2 => some q2) else if p1 = 1 then (J13_bitCount_95d88 (L 1 3)).bind (fun q4 => some q4) else if p1 = 2 then some (I 0 5) else if p1 = 3 then some (I 1 4) else if p1 = 4 then some (I 7 1) else some (-2 : Int32)
set_option maxHeartbeats 4000000 in
set_option maxRecDepth 100000 in
theorem t_X5_count {into : Option Nat} {L : mh_L} {I : mh_I} {p1 : Int32} {res : Int32} (h : X5_count p1 I L = some res) : mh_CT yX5_count cX5_count 2 (some .int) (mh_rm 1) (SHX into) I L [.ref 0, .int p1] (mh_ret (some (.int res)) (SHX into) I L) := by
  refine mh_ofW (ini := false) RX5 rfl (by decide) (fun h => by cases h) (Nat.le_of_ble_eq_true rfl) ?_
  show w_X5_count (SHX into) (mh_ret (some (.int res)) (SHX into) I L) I L 0 [(0, .ref 0), (1, .int p1)] []
  unfold X5_count at h
  refine mw_iload_n dX5_count_0 1 rfl ?_
  by_cases hc1 : p1 = 0
  · replace h := mh_ifp hc1 h
    refine mw_tableIn (off := 35) (tgt := 36) dX5_count_1 (by rw [hc1]; decide) (by rw [hc1]; decide) (by rw [hc1]; rfl) (by decide) ?_
    refine mw_aload_n dX5_count_36 0 rfl ?_
    refine mw_getr (b := 1) (fs := fsX5) gf_X5_10 dX5_count_37 rfl rfl ?_
    refine mw_getl (fs := (fsX1 1)) gf_X5_70 dX5_count_40 (sx_piece into).1 rfl ?_
    obtain ⟨q2, hq2, h⟩ := mh_bind h
    refine mw_sr (dc := 0) cs_X5_74 wd_303 dX5_count_43 [.long (L 1 2)] [.long (L 1 2)] rfl rfl (t_J13_bitCount_95d88 hq2) ⟨by decide, by decide⟩ (Nat.le_of_ble_eq_true rfl) ⟨rfl, rfl⟩ ?_
    obtain rfl := Option.some.inj h
    exact mw_iret dX5_count_46 rfl rfl (Nat.le_of_ble_eq_true rfl) (Nat.le_refl 0) mh_ret_rfl
  · replace h := mh_ifn hc1 h
    by_cases hc3 : p1 = 1
    · replace h := mh_ifp hc3 h
      refine mw_tableIn (off := 46) (tgt := 47) dX5_count_1 (by rw [hc3]; decide) (by rw [hc3]; decide) (by rw [hc3]; rfl) (by decide) ?_
      refine mw_aload_n dX5_count_47 0 rfl ?_
      refine mw_getr (b := 1) (fs := fsX5) gf_X5_10 dX5_count_48 rfl rfl ?_
      refine mw_getl (fs := (fsX1 1)) gf_X5_80 dX5_count_51 (sx_piece into).1 rfl ?_
      obtain ⟨q4, hq4, h⟩ := mh_bind h
      refine mw_sr (dc := 0) cs_X5_74 wd_303 dX5_count_54 [.long (L 1 3)] [.long (L 1 3)] rfl rfl (t_J13_bitCount_95d88 hq4) ⟨by decide, by decide⟩ (Nat.le_of_ble_eq_true rfl) ⟨rfl, rfl⟩ ?_
      obtain rfl := Option.some.inj h
      exact mw_iret dX5_count_57 rfl rfl (Nat.le_of_ble_eq_true rfl) (Nat.le_refl 0) mh_ret_rfl
    · replace h := mh_ifn hc3 h
      by_cases hc5 : p1 = 2
      · replace h := mh_ifp hc5 h
        refine mw_tableIn (off := 57) (tgt := 58) dX5_count_1 (by rw [hc5]; decide) (by rw [hc5]; decide) (by rw [hc5]; rfl) (by decide) ?_
        refine mw_aload_n dX5_count_58 0 rfl ?_
        refine mw_geti (fs := fsX5) gf_X5_83 dX5_count_59 rfl rfl ?_
        obtain rfl := Option.some.inj h
        exact mw_iret dX5_count_62 rfl rfl (Nat.le_of_ble_eq_true rfl) (Nat.le_refl 0) mh_ret_rfl
      · replace h := mh_ifn hc5 h
        by_cases hc6 : p1 = 3
        · replace h := mh_ifp hc6 h
          refine mw_tableIn (off := 62) (tgt := 63) dX5_count_1 (by rw [hc6]; decide) (by rw [hc6]; decide) (by rw [hc6]; rfl) (by decide) ?_
          refine mw_aload_n dX5_count_63 0 rfl ?_
          refine mw_getr (b := 1) (fs := fsX5) gf_X5_10 dX5_count_64 rfl rfl ?_
          refine mw_geti (fs := (fsX1 1)) gf_X5_87 dX5_count_67 (sx_piece into).1 rfl ?_
          obtain rfl := Option.some.inj h
          exact mw_iret dX5_count_70 rfl rfl (Nat.le_of_ble_eq_true rfl) (Nat.le_refl 0) mh_ret_rfl
        · replace h := mh_ifn hc6 h
          by_cases hc7 : p1 = 4
          · replace h := mh_ifp hc7 h
            refine mw_tableIn (off := 70) (tgt := 71) dX5_count_1 (by rw [hc7]; decide) (by rw [hc7]; decide) (by rw [hc7]; rfl) (by decide) ?_
            refine mw_aload_n dX5_count_71 0 rfl ?_
            refine mw_getr (b := 7) (fs := fsX5) gf_X5_22 dX5_count_72 rfl rfl ?_
            refine mw_geti (fs := (fsX3 7 into)) gf_X5_90 dX5_count_75 rfl rfl ?_
            obtain rfl := Option.some.inj h
            exact mw_iret dX5_count_78 rfl rfl (Nat.le_of_ble_eq_true rfl) (Nat.le_refl 0) mh_ret_rfl
          · replace h := mh_ifn hc7 h
            refine mw_tableOut (tgt := 79) dX5_count_1 (by have e0 := mh_ne (n := 0) hc1 (by decide); have e1 := mh_ne (n := 1) hc3 (by decide); have e2 := mh_ne (n := 2) hc5 (by decide); have e3 := mh_ne (n := 3) hc6 (by decide); have e4 := mh_ne (n := 4) hc7 (by decide); omega) (by decide) ?_
            refine mw_bipush (v := -2) dX5_count_79 (by decide) ?_
            obtain rfl := Option.some.inj h
            exact mw_iret dX5_count_81 rfl rfl (Nat.le_of_ble_eq_true rfl) (Nat.le_refl 0) mh_ret_rfl
abbrev w_X5_feed (sh : List mh_C) (Φ : mh_P) (I : mh_I) (L : mh_L) (pc : Nat) (lv : List (Nat × Value)) (st : List Value) : Prop := mh_W RX5 cX5_feed 8 (some .int) false (mh_rm 2) 46 0 0 mh_noX Φ 0 sh I L pc lv st
def X5_feed (p1 : Int32) (p2 : Int32) (p3 : Int32) (p4 : Int32) (p5 : Int32) (p6 : Int32) (I : mh_I) : Option (Int32 × mh_I) := (X5_isByte p2).bind (fun q1 => mh_j (fun (s2 : Int32) => (X5_within p1 (1 : Int32) (5 : Int32)).bind (fun q14 => if q14 = 0 then some ((-2 : Int32), I) else if s2 = 0 then some ((-2 : Int32), I) else if ((I 7 1) + p1) ≤ (160 : Int32) then (X3_add p2 I).bind (fun q15 => mh_j (fun (I16 : mh_I) => mh_j (fun (I20 : mh_I) => mh_j (fun (I24 : mh_I) => if p1 ≤ (4 : Int32) then some ((I24 7 1), I24) else (X3_add p6 I24).bind (fun q28 => some ((q28 7 1), q28))) (fun J25 => if p1 ≤ (3 : Int32) then (J25 I20) else (X3_add p5 I20).bind (fun q26 => (J25 q26)))) (fun J21 => if p1 ≤ (2 : Int32) then (J21 I16) else (X3_add p4 I16).bind (fun q22 => (J21 q22)))) (fun J17 => if p1 ≤ (1 : Int32) then (J17 q15) else (X3_add p3 q15).bind (fun q18 => (J17 q18)))) else some ((-4 : Int32), I))) (fun J3 => mh_j ((J3 (0 : Int32))) (fun J4 => if q1 = 0 then J4 else (X5_isByte p3).bind (fun q5 => if q5 = 0 then J4 else (X5_isByte p4).bind (fun q6 => if q6 = 0 then J4 else (X5_isByte p5).bind (fun q7 => if q7 = 0 then J4 else (X5_isByte p6).bind (fun q8 => if q8 = 0 then J4 else (J3 (1 : Int32)))))))))
set_option maxHeartbeats 4000000 in
set_option maxRecDepth 100000 in
theorem t_X5_feed {into : Option Nat} {L : mh_L} {I : mh_I} {p1 : Int32} {p2 : Int32} {p3 : Int32} {p4 : Int32} {p5 : Int32} {p6 : Int32} {res : Int32 × mh_I} (h : X5_feed p1 p2 p3 p4 p5 p6 I = some res) : mh_CT yX5_feed cX5_feed 8 (some .int) (mh_rm 2) (SHX into) I L [.ref 0, .int p1, .int p2, .int p3, .int p4, .int p5, .int p6] (mh_ret (some (.int res.1)) (SHX into) res.2 L) := by
  refine mh_ofW (ini := false) RX5 rfl (by decide) (fun h => by cases h) (Nat.le_of_ble_eq_true rfl) ?_
  show w_X5_feed (SHX into) (mh_ret (some (.int res.1)) (SHX into) res.2 L) I L 0 [(0, .ref 0), (1, .int p1), (2, .int p2), (3, .int p3), (4, .int p4), (5, .int p5), (6, .int p6)] []
  unfold X5_feed at h
  refine mw_iload_n dX5_feed_0 2 rfl ?_
  obtain ⟨q1, hq1, h⟩ := mh_bind h
  refine mw_sz (dc := 1) cs_X5_93 wd_313 dX5_feed_1 [.int p2] [.int p2] rfl rfl (t_X5_isByte hq1) ⟨by decide, by decide⟩ (Nat.le_of_ble_eq_true rfl) ⟨rfl, rfl⟩ (fun zq1 => ?_)
  refine mh_jw (fun J3 => ∀ (s2 : Int32), J3 s2 = some res → w_X5_feed (SHX into) (mh_ret (some (.int res.1)) (SHX into) res.2 L) I L 43 [(0, .ref 0), (1, .int p1), (2, .int p2), (3, .int p3), (4, .int p4), (5, .int p5), (6, .int p6)] [.int s2]) h (fun s2 h => ?_) (fun J3 hJ3 h => ?_)
  · refine mw_istore dX5_feed_43 (by decide) rfl ?_
    refine mw_iload_n dX5_feed_45 2 rfl ?_
    refine mw_iconst (v := 1) dX5_feed_46 (by decide) ?_
    refine mw_iconst (v := 5) dX5_feed_47 (by decide) ?_
    obtain ⟨q14, hq14, h⟩ := mh_bind h
    refine mw_sz (dc := 0) cs_X5_97 wd_223 dX5_feed_48 [.int p1, .int (1 : Int32), .int (5 : Int32)] [.int (5 : Int32), .int (1 : Int32), .int p1] rfl rfl (t_X5_within hq14) ⟨by decide, by decide⟩ (Nat.le_of_ble_eq_true rfl) ⟨rfl, rfl⟩ (fun zq14 => ?_)
    refine mw_if_eq (tgt := 59) dX5_feed_51 (by decide) (fun hc32 => ?_) (fun hc32 => ?_)
    · replace h := mh_ifp hc32 h
      refine mw_bipush (v := -2) dX5_feed_59 (by decide) ?_
      obtain rfl := Option.some.inj h
      exact mw_iret dX5_feed_61 rfl rfl (Nat.le_of_ble_eq_true rfl) (Nat.le_refl 0) mh_ret_rfl
    · replace h := mh_ifn hc32 h
      refine mw_iload dX5_feed_54 0 rfl ?_
      refine mw_if_ne (tgt := 62) dX5_feed_56 (by decide) (fun hc31 => ?_) (fun hc31 => ?_)
      · replace h := mh_ifn hc31 h
        refine mw_aload_n dX5_feed_62 1 rfl ?_
        refine mw_getr (b := 7) (fs := fsX5) gf_X5_22 dX5_feed_63 rfl rfl ?_
        refine mw_geti (fs := (fsX3 7 into)) gf_X5_90 dX5_feed_66 rfl rfl ?_
        refine mw_iload_n dX5_feed_69 2 rfl ?_
        refine mw_iadd dX5_feed_70 ?_
        refine mw_sipush (v := 160) dX5_feed_71 (by decide) ?_
        refine mw_icmp_le (tgt := 80) dX5_feed_74 (by decide) (fun hc30 => ?_) (fun hc30 => ?_)
        · replace h := mh_ifp hc30 h
          refine mw_aload_n dX5_feed_80 1 rfl ?_
          refine mw_getr (b := 7) (fs := fsX5) gf_X5_22 dX5_feed_81 rfl rfl ?_
          refine mw_iload_n dX5_feed_84 3 rfl ?_
          obtain ⟨q15, hq15, h⟩ := mh_bind h
          refine mw_vv (dc := 0) (ci := 3) (fs := (fsX3 7 into)) (T := TX3) (N := 7) cv_X5_63 wd_201 dX5_feed_85 [.int p2] [.int p2, .ref 7] rfl rfl rfl rfl (t_X3_add hq15) ⟨by decide, by decide⟩ (Nat.le_of_ble_eq_true rfl) ⟨rfl, rfl⟩ ?_
          refine mw_iload_n dX5_feed_88 2 rfl ?_
          refine mw_iconst (v := 1) dX5_feed_89 (by decide) ?_
          refine mh_jw (fun J17 => ∀ (I16 : mh_I), J17 I16 = some res → w_X5_feed (SHX into) (mh_ret (some (.int res.1)) (SHX into) res.2 L) I16 L 101 [(0, .ref 0), (1, .int p1), (4, .int p4), (5, .int p5), (6, .int p6)] []) h (fun I16 h => ?_) (fun J17 hJ17 h => ?_)
          · refine mw_iload_n dX5_feed_101 1 rfl ?_
            refine mw_iconst (v := 2) dX5_feed_102 (by decide) ?_
            refine mh_jw (fun J21 => ∀ (I20 : mh_I), J21 I20 = some res → w_X5_feed (SHX into) (mh_ret (some (.int res.1)) (SHX into) res.2 L) I20 L 115 [(0, .ref 0), (1, .int p1), (5, .int p5), (6, .int p6)] []) h (fun I20 h => ?_) (fun J21 hJ21 h => ?_)
            · refine mw_iload_n dX5_feed_115 1 rfl ?_
              refine mw_iconst (v := 3) dX5_feed_116 (by decide) ?_
              refine mh_jw (fun J25 => ∀ (I24 : mh_I), J25 I24 = some res → w_X5_feed (SHX into) (mh_ret (some (.int res.1)) (SHX into) res.2 L) I24 L 129 [(0, .ref 0), (1, .int p1), (6, .int p6)] []) h (fun I24 h => ?_) (fun J25 hJ25 h => ?_)
              · refine mw_iload_n dX5_feed_129 1 rfl ?_
                refine mw_iconst (v := 4) dX5_feed_130 (by decide) ?_
                refine mw_icmp_le (tgt := 143) dX5_feed_131 (by decide) (fun hc29 => ?_) (fun hc29 => ?_)
                · replace h := mh_ifp hc29 h
                  refine mw_aload_n dX5_feed_143 0 rfl ?_
                  refine mw_getr (b := 7) (fs := fsX5) gf_X5_22 dX5_feed_144 rfl rfl ?_
                  refine mw_geti (fs := (fsX3 7 into)) gf_X5_90 dX5_feed_147 rfl rfl ?_
                  obtain rfl := Option.some.inj h
                  exact mw_iret dX5_feed_150 rfl rfl (Nat.le_of_ble_eq_true rfl) (Nat.le_refl 0) mh_ret_rfl
                · replace h := mh_ifn hc29 h
                  refine mw_aload_n dX5_feed_134 0 rfl ?_
                  refine mw_getr (b := 7) (fs := fsX5) gf_X5_22 dX5_feed_135 rfl rfl ?_
                  refine mw_iload dX5_feed_138 2 rfl ?_
                  obtain ⟨q28, hq28, h⟩ := mh_bind h
                  refine mw_vv (dc := 0) (ci := 3) (fs := (fsX3 7 into)) (T := TX3) (N := 7) cv_X5_63 wd_201 dX5_feed_140 [.int p6] [.int p6, .ref 7] rfl rfl rfl rfl (t_X3_add hq28) ⟨by decide, by decide⟩ (Nat.le_of_ble_eq_true rfl) ⟨rfl, rfl⟩ ?_
                  refine mw_aload_n dX5_feed_143 0 rfl ?_
                  refine mw_getr (b := 7) (fs := fsX5) gf_X5_22 dX5_feed_144 rfl rfl ?_
                  refine mw_geti (fs := (fsX3 7 into)) gf_X5_90 dX5_feed_147 rfl rfl ?_
                  obtain rfl := Option.some.inj h
                  exact mw_iret dX5_feed_150 rfl rfl (Nat.le_of_ble_eq_true rfl) (Nat.le_refl 0) mh_ret_rfl
              · refine mw_icmp_le (tgt := 129) dX5_feed_117 (by decide) (fun hc27 => ?_) (fun hc27 => ?_)
                · replace h := mh_ifp hc27 h
                  refine mw_loc [0, 1, 3] rfl ?_
                  exact hJ25 _ h
                · replace h := mh_ifn hc27 h
                  refine mw_aload_n dX5_feed_120 0 rfl ?_
                  refine mw_getr (b := 7) (fs := fsX5) gf_X5_22 dX5_feed_121 rfl rfl ?_
                  refine mw_iload dX5_feed_124 2 rfl ?_
                  obtain ⟨q26, hq26, h⟩ := mh_bind h
                  refine mw_vv (dc := 0) (ci := 3) (fs := (fsX3 7 into)) (T := TX3) (N := 7) cv_X5_63 wd_201 dX5_feed_126 [.int p5] [.int p5, .ref 7] rfl rfl rfl rfl (t_X3_add hq26) ⟨by decide, by decide⟩ (Nat.le_of_ble_eq_true rfl) ⟨rfl, rfl⟩ ?_
                  refine mw_loc [0, 1, 3] rfl ?_
                  exact hJ25 _ h
            · refine mw_icmp_le (tgt := 115) dX5_feed_103 (by decide) (fun hc23 => ?_) (fun hc23 => ?_)
              · replace h := mh_ifp hc23 h
                refine mw_loc [0, 1, 3, 4] rfl ?_
                exact hJ21 _ h
              · replace h := mh_ifn hc23 h
                refine mw_aload_n dX5_feed_106 0 rfl ?_
                refine mw_getr (b := 7) (fs := fsX5) gf_X5_22 dX5_feed_107 rfl rfl ?_
                refine mw_iload dX5_feed_110 2 rfl ?_
                obtain ⟨q22, hq22, h⟩ := mh_bind h
                refine mw_vv (dc := 0) (ci := 3) (fs := (fsX3 7 into)) (T := TX3) (N := 7) cv_X5_63 wd_201 dX5_feed_112 [.int p4] [.int p4, .ref 7] rfl rfl rfl rfl (t_X3_add hq22) ⟨by decide, by decide⟩ (Nat.le_of_ble_eq_true rfl) ⟨rfl, rfl⟩ ?_
                refine mw_loc [0, 1, 3, 4] rfl ?_
                exact hJ21 _ h
          · refine mw_icmp_le (tgt := 101) dX5_feed_90 (by decide) (fun hc19 => ?_) (fun hc19 => ?_)
            · replace h := mh_ifp hc19 h
              refine mw_loc [1, 2, 5, 6, 7] rfl ?_
              exact hJ17 _ h
            · replace h := mh_ifn hc19 h
              refine mw_aload_n dX5_feed_93 1 rfl ?_
              refine mw_getr (b := 7) (fs := fsX5) gf_X5_22 dX5_feed_94 rfl rfl ?_
              refine mw_iload_n dX5_feed_97 4 rfl ?_
              obtain ⟨q18, hq18, h⟩ := mh_bind h
              refine mw_vv (dc := 0) (ci := 3) (fs := (fsX3 7 into)) (T := TX3) (N := 7) cv_X5_63 wd_201 dX5_feed_98 [.int p3] [.int p3, .ref 7] rfl rfl rfl rfl (t_X3_add hq18) ⟨by decide, by decide⟩ (Nat.le_of_ble_eq_true rfl) ⟨rfl, rfl⟩ ?_
              refine mw_loc [1, 2, 5, 6, 7] rfl ?_
              exact hJ17 _ h
        · replace h := mh_ifn hc30 h
          refine mw_bipush (v := -4) dX5_feed_77 (by decide) ?_
          obtain rfl := Option.some.inj h
          exact mw_iret dX5_feed_79 rfl rfl (Nat.le_of_ble_eq_true rfl) (Nat.le_refl 0) mh_ret_rfl
      · replace h := mh_ifp hc31 h
        refine mw_bipush (v := -2) dX5_feed_59 (by decide) ?_
        obtain rfl := Option.some.inj h
        exact mw_iret dX5_feed_61 rfl rfl (Nat.le_of_ble_eq_true rfl) (Nat.le_refl 0) mh_ret_rfl
  · refine mh_jw (fun J4 => J4 = some res → w_X5_feed (SHX into) (mh_ret (some (.int res.1)) (SHX into) res.2 L) I L 42 [(0, .ref 0), (1, .int p1), (2, .int p2), (3, .int p3), (4, .int p4), (5, .int p5), (6, .int p6)] []) h (fun h => ?_) (fun J4 hJ4 h => ?_)
    · refine mw_iconst (v := 0) dX5_feed_42 (by decide) ?_
      refine mw_loc [0, 1, 2, 3, 4, 5, 6] rfl ?_
      exact hJ3 _ h
    · refine mw_if_eq (tgt := 42) dX5_feed_4 (by decide) (fun hc13 => ?_) (fun hc13 => ?_)
      · replace h := mh_ifp hc13 h
        refine mw_loc [0, 1, 2, 3, 4, 5, 6] rfl ?_
        exact hJ4  h
      · replace h := mh_ifn hc13 h
        refine mw_iload_n dX5_feed_7 3 rfl ?_
        obtain ⟨q5, hq5, h⟩ := mh_bind h
        refine mw_sz (dc := 1) cs_X5_93 wd_313 dX5_feed_8 [.int p3] [.int p3] rfl rfl (t_X5_isByte hq5) ⟨by decide, by decide⟩ (Nat.le_of_ble_eq_true rfl) ⟨rfl, rfl⟩ (fun zq5 => ?_)
        refine mw_if_eq (tgt := 42) dX5_feed_11 (by decide) (fun hc12 => ?_) (fun hc12 => ?_)
        · replace h := mh_ifp hc12 h
          refine mw_loc [0, 1, 2, 3, 4, 5, 6] rfl ?_
          exact hJ4  h
        · replace h := mh_ifn hc12 h
          refine mw_iload dX5_feed_14 4 rfl ?_
          obtain ⟨q6, hq6, h⟩ := mh_bind h
          refine mw_sz (dc := 1) cs_X5_93 wd_313 dX5_feed_16 [.int p4] [.int p4] rfl rfl (t_X5_isByte hq6) ⟨by decide, by decide⟩ (Nat.le_of_ble_eq_true rfl) ⟨rfl, rfl⟩ (fun zq6 => ?_)
          refine mw_if_eq (tgt := 42) dX5_feed_19 (by decide) (fun hc11 => ?_) (fun hc11 => ?_)
          · replace h := mh_ifp hc11 h
            refine mw_loc [0, 1, 2, 3, 4, 5, 6] rfl ?_
            exact hJ4  h
          · replace h := mh_ifn hc11 h
            refine mw_iload dX5_feed_22 5 rfl ?_
            obtain ⟨q7, hq7, h⟩ := mh_bind h
            refine mw_sz (dc := 1) cs_X5_93 wd_313 dX5_feed_24 [.int p5] [.int p5] rfl rfl (t_X5_isByte hq7) ⟨by decide, by decide⟩ (Nat.le_of_ble_eq_true rfl) ⟨rfl, rfl⟩ (fun zq7 => ?_)
            refine mw_if_eq (tgt := 42) dX5_feed_27 (by decide) (fun hc10 => ?_) (fun hc10 => ?_)
            · replace h := mh_ifp hc10 h
              refine mw_loc [0, 1, 2, 3, 4, 5, 6] rfl ?_
              exact hJ4  h
            · replace h := mh_ifn hc10 h
              refine mw_iload dX5_feed_30 6 rfl ?_
              obtain ⟨q8, hq8, h⟩ := mh_bind h
              refine mw_sz (dc := 1) cs_X5_93 wd_313 dX5_feed_32 [.int p6] [.int p6] rfl rfl (t_X5_isByte hq8) ⟨by decide, by decide⟩ (Nat.le_of_ble_eq_true rfl) ⟨rfl, rfl⟩ (fun zq8 => ?_)
              refine mw_if_eq (tgt := 42) dX5_feed_35 (by decide) (fun hc9 => ?_) (fun hc9 => ?_)
              · replace h := mh_ifp hc9 h
                refine mw_loc [0, 1, 2, 3, 4, 5, 6] rfl ?_
                exact hJ4  h
              · replace h := mh_ifn hc9 h
                refine mw_iconst (v := 1) dX5_feed_38 (by decide) ?_
                refine mw_goto (tgt := 43) dX5_feed_39 (by decide) ?_
                refine mw_loc [0, 1, 2, 3, 4, 5, 6] rfl ?_
                exact hJ3 _ h
abbrev w_X5_readTape (sh : List mh_C) (Φ : mh_P) (I : mh_I) (L : mh_L) (pc : Nat) (lv : List (Nat × Value)) (st : List Value) : Prop := mh_W RX5 cX5_readTape 2 (some .int) false (mh_rm 102) 46 0 0 mh_noX Φ 0 sh I L pc lv st
def X5_readTape (I : mh_I) (into : Option Nat) : Option (Int32 × mh_I × (Option Nat)) := if (I 0 5) < (6 : Int32) then mh_ix (I 0 5) 6 (fun k1 => (X3_readInto (14 + 4 * k1) I into).bind (fun q3 => mh_b q3.1 (fun b4 => if b4 < 0 then some (((mh_u q3.2.1 7 1 (0 : Int32)) 0 5), (mh_u (mh_u q3.2.1 7 1 (0 : Int32)) 0 5 (((mh_u q3.2.1 7 1 (0 : Int32)) 0 5) + (1 : Int32))), q3.2.2) else some (((-100 : Int32) - b4), (mh_u q3.2.1 7 1 (0 : Int32)), q3.2.2)))) else some ((-4 : Int32), I, into)
set_option maxHeartbeats 4000000 in
set_option maxRecDepth 100000 in
theorem t_X5_readTape {into : Option Nat} {L : mh_L} {I : mh_I} {res : Int32 × mh_I × (Option Nat)} (h : X5_readTape I into = some res) : mh_CT yX5_readTape cX5_readTape 2 (some .int) (mh_rm 102) (SHX into) I L [.ref 0] (mh_ret (some (.int res.1)) (SHX res.2.2) res.2.1 L) := by
  refine mh_ofW (ini := false) RX5 rfl (by decide) (fun h => by cases h) (Nat.le_of_ble_eq_true rfl) ?_
  show w_X5_readTape (SHX into) (mh_ret (some (.int res.1)) (SHX res.2.2) res.2.1 L) I L 0 [(0, .ref 0)] []
  unfold X5_readTape at h
  refine mw_aload_n dX5_readTape_0 0 rfl ?_
  refine mw_geti (fs := fsX5) gf_X5_83 dX5_readTape_1 rfl rfl ?_
  refine mw_bipush (v := 6) dX5_readTape_4 (by decide) ?_
  refine mw_icmp_lt (tgt := 12) dX5_readTape_6 (by decide) (fun hc6 => ?_) (fun hc6 => ?_)
  · replace h := mh_ifp hc6 h
    refine mw_aload_n dX5_readTape_12 0 rfl ?_
    refine mw_getr (b := 7) (fs := fsX5) gf_X5_22 dX5_readTape_13 rfl rfl ?_
    refine mw_aload_n dX5_readTape_16 0 rfl ?_
    refine mw_getr (b := 9) (fs := fsX5) gf_X5_28 dX5_readTape_17 rfl rfl ?_
    refine mw_aload_n dX5_readTape_20 0 rfl ?_
    refine mw_geti (fs := fsX5) gf_X5_83 dX5_readTape_21 rfl rfl ?_
    obtain ⟨k1, hk2, hk2n, hk2l, h⟩ := mh_ix_some h
    refine mw_xaald (t := 1) dX5_readTape_24 rfl hk2 hk2n (sx_rT hk2l) ?_
    obtain ⟨q3, hq3, h⟩ := mh_bind h
    refine mw_vr (dc := 101) (ci := 3) (fs := (fsX3 7 into)) (T := TX3) (N := 7) cv_X5_280 wd_209 dX5_readTape_25 [.ref (14 + 4 * k1)] [.ref (14 + 4 * k1), .ref 7] rfl rfl rfl rfl (t_X3_readInto (sx_text into hk2l) hq3) ⟨by decide, by decide⟩ (Nat.le_of_ble_eq_true rfl) ⟨rfl, rfl⟩ ?_
    obtain ⟨b4, eb4, h⟩ := mh_b_some h
    refine mw_nmi eb4 ?_
    refine mw_istore_n dX5_readTape_28 (by decide) rfl ?_
    refine mw_aload_n dX5_readTape_29 1 rfl ?_
    refine mw_getr (b := 7) (fs := fsX5) gf_X5_22 dX5_readTape_30 rfl rfl ?_
    refine mw_iconst (v := 0) dX5_readTape_33 (by decide) ?_
    refine mw_puti (fs := (fsX3 7 q3.2.2)) pf_X5_90 (fun h => by cases h) rfl rfl dX5_readTape_34 rfl rfl ?_
    refine mw_iload_n dX5_readTape_37 0 rfl ?_
    refine mw_if_lt (tgt := 46) dX5_readTape_38 (by decide) (fun hc5 => ?_) (fun hc5 => ?_)
    · replace h := mh_ifp hc5 h
      refine mw_aload_n dX5_readTape_46 1 rfl ?_
      refine mw_dup dX5_readTape_47 rfl ?_
      refine mw_geti (fs := fsX5) gf_X5_83 dX5_readTape_48 rfl rfl ?_
      refine mw_dup_x1 dX5_readTape_51 rfl rfl ?_
      refine mw_iconst (v := 1) dX5_readTape_52 (by decide) ?_
      refine mw_iadd dX5_readTape_53 ?_
      refine mw_puti (fs := fsX5) pf_X5_83 (fun h => by cases h) rfl rfl dX5_readTape_54 rfl rfl ?_
      obtain rfl := Option.some.inj h
      exact mw_iret dX5_readTape_57 rfl rfl (Nat.le_of_ble_eq_true rfl) (Nat.le_refl 0) mh_ret_rfl
    · replace h := mh_ifn hc5 h
      refine mw_bipush (v := -100) dX5_readTape_41 (by decide) ?_
      refine mw_iload_n dX5_readTape_43 0 rfl ?_
      refine mw_isub dX5_readTape_44 ?_
      obtain rfl := Option.some.inj h
      exact mw_iret dX5_readTape_45 rfl rfl (Nat.le_of_ble_eq_true rfl) (Nat.le_refl 0) mh_ret_rfl
  · replace h := mh_ifn hc6 h
    refine mw_bipush (v := -4) dX5_readTape_9 (by decide) ?_
    obtain rfl := Option.some.inj h
    exact mw_iret dX5_readTape_11 rfl rfl (Nat.le_of_ble_eq_true rfl) (Nat.le_refl 0) mh_ret_rfl
abbrev w_X5_text (sh : List mh_C) (Φ : mh_P) (I : mh_I) (L : mh_L) (pc : Nat) (lv : List (Nat × Value)) (st : List Value) : Prop := mh_W RX5 cX5_text 1 (some .int) false (mh_rm 103) 46 0 0 mh_noX Φ 0 sh I L pc lv st
def X5_text (I : mh_I) (into : Option Nat) : Option (Int32 × mh_I × (Option Nat)) := (X5_readTape I into).bind (fun q1 => some (q1.1, q1.2.1, q1.2.2))
set_option maxHeartbeats 4000000 in
set_option maxRecDepth 100000 in
theorem t_X5_text {into : Option Nat} {L : mh_L} {I : mh_I} {res : Int32 × mh_I × (Option Nat)} (h : X5_text I into = some res) : mh_CT yX5_text cX5_text 1 (some .int) (mh_rm 103) (SHX into) I L [.ref 0] (mh_ret (some (.int res.1)) (SHX res.2.2) res.2.1 L) := by
  refine mh_ofW (ini := false) RX5 rfl (by decide) (fun h => by cases h) (Nat.le_of_ble_eq_true rfl) ?_
  show w_X5_text (SHX into) (mh_ret (some (.int res.1)) (SHX res.2.2) res.2.1 L) I L 0 [(0, .ref 0)] []
  unfold X5_text at h
  refine mw_aload_n dX5_text_0 0 rfl ?_
  obtain ⟨q1, hq1, h⟩ := mh_bind h
  refine mw_vr (dc := 102) (ci := 5) (fs := fsX5) (T := TX5) (N := 9) cv_X5_67 wd_205 dX5_text_1 [] [.ref 0] rfl rfl rfl rfl (t_X5_readTape hq1) ⟨by decide, by decide⟩ (Nat.le_of_ble_eq_true rfl) ⟨rfl, rfl⟩ ?_
  obtain rfl := Option.some.inj h
  exact mw_iret dX5_text_4 rfl rfl (Nat.le_of_ble_eq_true rfl) (Nat.le_refl 0) mh_ret_rfl
abbrev w_X5_force (sh : List mh_C) (Φ : mh_P) (I : mh_I) (L : mh_L) (pc : Nat) (lv : List (Nat × Value)) (st : List Value) : Prop := mh_W RX5 cX5_force 3 (some .int) false (mh_rm 1) 46 0 0 mh_noX Φ 0 sh I L pc lv st
def X5_force (p1 : Int32) (I : mh_I) : Option (Int32 × mh_I) := (X5_within p1 (0 : Int32) ((I 0 5) - (1 : Int32))).bind (fun q1 => if q1 = 0 then some ((-2 : Int32), I) else mh_b (I 1 4) (fun b2 => some (b2, (mh_u I 1 4 p1))))
set_option maxHeartbeats 4000000 in
set_option maxRecDepth 100000 in
theorem t_X5_force {into : Option Nat} {L : mh_L} {I : mh_I} {p1 : Int32} {res : Int32 × mh_I} (h : X5_force p1 I = some res) : mh_CT yX5_force cX5_force 3 (some .int) (mh_rm 1) (SHX into) I L [.ref 0, .int p1] (mh_ret (some (.int res.1)) (SHX into) res.2 L) := by
  refine mh_ofW (ini := false) RX5 rfl (by decide) (fun h => by cases h) (Nat.le_of_ble_eq_true rfl) ?_
  show w_X5_force (SHX into) (mh_ret (some (.int res.1)) (SHX into) res.2 L) I L 0 [(0, .ref 0), (1, .int p1)] []
  unfold X5_force at h
  refine mw_iload_n dX5_force_0 1 rfl ?_
  refine mw_iconst (v := 0) dX5_force_1 (by decide) ?_
  refine mw_aload_n dX5_force_2 0 rfl ?_
  refine mw_geti (fs := fsX5) gf_X5_83 dX5_force_3 rfl rfl ?_
  refine mw_iconst (v := 1) dX5_force_6 (by decide) ?_
  refine mw_isub dX5_force_7 ?_
  obtain ⟨q1, hq1, h⟩ := mh_bind h
  refine mw_sz (dc := 0) cs_X5_97 wd_223 dX5_force_8 [.int p1, .int (0 : Int32), .int ((I 0 5) - (1 : Int32))] [.int ((I 0 5) - (1 : Int32)), .int (0 : Int32), .int p1] rfl rfl (t_X5_within hq1) ⟨by decide, by decide⟩ (Nat.le_of_ble_eq_true rfl) ⟨rfl, rfl⟩ (fun zq1 => ?_)
  refine mw_if_ne (tgt := 17) dX5_force_11 (by decide) (fun hc3 => ?_) (fun hc3 => ?_)
  · replace h := mh_ifn hc3 h
    refine mw_aload_n dX5_force_17 0 rfl ?_
    refine mw_getr (b := 1) (fs := fsX5) gf_X5_10 dX5_force_18 rfl rfl ?_
    refine mw_geti (fs := (fsX1 1)) gf_X5_87 dX5_force_21 (sx_piece into).1 rfl ?_
    obtain ⟨b2, eb2, h⟩ := mh_b_some h
    refine mw_nmi eb2 ?_
    refine mw_istore_n dX5_force_24 (by decide) rfl ?_
    refine mw_aload_n dX5_force_25 1 rfl ?_
    refine mw_getr (b := 1) (fs := fsX5) gf_X5_10 dX5_force_26 rfl rfl ?_
    refine mw_iload_n dX5_force_29 2 rfl ?_
    refine mw_puti (fs := (fsX1 1)) pf_X5_87 (fun h => by cases h) rfl rfl dX5_force_30 (sx_piece into).1 rfl ?_
    refine mw_iload_n dX5_force_33 0 rfl ?_
    obtain rfl := Option.some.inj h
    exact mw_iret dX5_force_34 rfl rfl (Nat.le_of_ble_eq_true rfl) (Nat.le_refl 0) mh_ret_rfl
  · replace h := mh_ifp hc3 h
    refine mw_bipush (v := -2) dX5_force_14 (by decide) ?_
    obtain rfl := Option.some.inj h
    exact mw_iret dX5_force_16 rfl rfl (Nat.le_of_ble_eq_true rfl) (Nat.le_refl 0) mh_ret_rfl
abbrev w_X5_law (sh : List mh_C) (Φ : mh_P) (I : mh_I) (L : mh_L) (pc : Nat) (lv : List (Nat × Value)) (st : List Value) : Prop := mh_W RX5 cX5_law 1 (some (.object RX4)) false (mh_rm 0) 46 0 0 mh_noX Φ 0 sh I L pc lv st
def X5_law (I : mh_I) : Option (Nat) := mh_ix (I 1 4) 6 (fun k1 => some (14 + 4 * k1))
set_option maxHeartbeats 4000000 in
set_option maxRecDepth 100000 in
theorem t_X5_law {into : Option Nat} {L : mh_L} {I : mh_I} {res : Nat} (h : X5_law I = some res) : mh_CT yX5_law cX5_law 1 (some (.object RX4)) (mh_rm 0) (SHX into) I L [.ref 0] (mh_ret (some (.ref res)) (SHX into) I L) := by
  refine mh_ofW (ini := false) RX5 rfl (by decide) (fun h => by cases h) (Nat.le_of_ble_eq_true rfl) ?_
  show w_X5_law (SHX into) (mh_ret (some (.ref res)) (SHX into) I L) I L 0 [(0, .ref 0)] []
  unfold X5_law at h
  refine mw_aload_n dX5_law_0 0 rfl ?_
  refine mw_getr (b := 9) (fs := fsX5) gf_X5_28 dX5_law_1 rfl rfl ?_
  refine mw_aload_n dX5_law_4 0 rfl ?_
  refine mw_getr (b := 1) (fs := fsX5) gf_X5_10 dX5_law_5 rfl rfl ?_
  refine mw_geti (fs := (fsX1 1)) gf_X5_87 dX5_law_8 (sx_piece into).1 rfl ?_
  obtain ⟨k1, hk2, hk2n, hk2l, h⟩ := mh_ix_some h
  refine mw_xaald (t := 1) dX5_law_11 rfl hk2 hk2n (sx_rT hk2l) ?_
  obtain rfl := Option.some.inj h
  exact mw_aret dX5_law_12 rfl (Or.inl ⟨_, rfl⟩) (Nat.le_of_ble_eq_true rfl) (Nat.le_refl 0) mh_ret_rfl
theorem t_X5_law_fact {T : Option Nat} {I : mh_I} {q : Nat} (h : X5_law I = some q) : hs_X4 (SHX T) q := by
  unfold X5_law at h
  obtain ⟨k, hk, hkn, hkl, h⟩ := mh_ix_some h
  cases h
  exact sx_text T hkl
abbrev w_X5_asks (sh : List mh_C) (Φ : mh_P) (I : mh_I) (L : mh_L) (pc : Nat) (lv : List (Nat × Value)) (st : List Value) : Prop := mh_W RX5 cX5_asks 4 (some .int) false (mh_rm 3) 46 0 0 mh_noX Φ 0 sh I L pc lv st
def X5_asks (p1 : Int32) (p2 : Int32) (p3 : Int32) (I : mh_I) (L : mh_L) : Option (Int32 × mh_I) := (X5_isLoop p2).bind (fun q1 => if q1 = 0 then some ((-5 : Int32), I) else (X5_within p1 (0 : Int32) (2 : Int32)).bind (fun q2 => if q2 = 0 then some ((-7 : Int32), I) else (X5_isPull p3).bind (fun q3 => if q3 = 0 then some ((-7 : Int32), I) else (X5_law I).bind (fun q4 => (X4_says q4 p1 1 p2 p3 I L).bind (fun q5 => some (q5.1, q5.2))))))
set_option maxHeartbeats 4000000 in
set_option maxRecDepth 100000 in
theorem t_X5_asks {into : Option Nat} {L : mh_L} {I : mh_I} {p1 : Int32} {p2 : Int32} {p3 : Int32} {res : Int32 × mh_I} (h : X5_asks p1 p2 p3 I L = some res) : mh_CT yX5_asks cX5_asks 4 (some .int) (mh_rm 3) (SHX into) I L [.ref 0, .int p1, .int p2, .int p3] (mh_ret (some (.int res.1)) (SHX into) res.2 L) := by
  refine mh_ofW (ini := false) RX5 rfl (by decide) (fun h => by cases h) (Nat.le_of_ble_eq_true rfl) ?_
  show w_X5_asks (SHX into) (mh_ret (some (.int res.1)) (SHX into) res.2 L) I L 0 [(0, .ref 0), (1, .int p1), (2, .int p2), (3, .int p3)] []
  unfold X5_asks at h
  refine mw_iload_n dX5_asks_0 2 rfl ?_
  obtain ⟨q1, hq1, h⟩ := mh_bind h
  refine mw_sz (dc := 1) cs_X5_101 wd_329 dX5_asks_1 [.int p2] [.int p2] rfl rfl (t_X5_isLoop hq1) ⟨by decide, by decide⟩ (Nat.le_of_ble_eq_true rfl) ⟨rfl, rfl⟩ (fun zq1 => ?_)
  refine mw_if_ne (tgt := 10) dX5_asks_4 (by decide) (fun hc8 => ?_) (fun hc8 => ?_)
  · replace h := mh_ifn hc8 h
    refine mw_iload_n dX5_asks_10 1 rfl ?_
    refine mw_iconst (v := 0) dX5_asks_11 (by decide) ?_
    refine mw_iconst (v := 2) dX5_asks_12 (by decide) ?_
    obtain ⟨q2, hq2, h⟩ := mh_bind h
    refine mw_sz (dc := 0) cs_X5_97 wd_223 dX5_asks_13 [.int p1, .int (0 : Int32), .int (2 : Int32)] [.int (2 : Int32), .int (0 : Int32), .int p1] rfl rfl (t_X5_within hq2) ⟨by decide, by decide⟩ (Nat.le_of_ble_eq_true rfl) ⟨rfl, rfl⟩ (fun zq2 => ?_)
    refine mw_if_eq (tgt := 26) dX5_asks_16 (by decide) (fun hc7 => ?_) (fun hc7 => ?_)
    · replace h := mh_ifp hc7 h
      refine mw_bipush (v := -7) dX5_asks_26 (by decide) ?_
      obtain rfl := Option.some.inj h
      exact mw_iret dX5_asks_28 rfl rfl (Nat.le_of_ble_eq_true rfl) (Nat.le_refl 0) mh_ret_rfl
    · replace h := mh_ifn hc7 h
      refine mw_iload_n dX5_asks_19 3 rfl ?_
      obtain ⟨q3, hq3, h⟩ := mh_bind h
      refine mw_sz (dc := 1) cs_X5_104 wd_332 dX5_asks_20 [.int p3] [.int p3] rfl rfl (t_X5_isPull hq3) ⟨by decide, by decide⟩ (Nat.le_of_ble_eq_true rfl) ⟨rfl, rfl⟩ (fun zq3 => ?_)
      refine mw_if_ne (tgt := 29) dX5_asks_23 (by decide) (fun hc6 => ?_) (fun hc6 => ?_)
      · replace h := mh_ifn hc6 h
        refine mw_aload_n dX5_asks_29 0 rfl ?_
        obtain ⟨q4, hq4, h⟩ := mh_bind h
        refine mw_vr (dc := 0) (ci := 5) (fs := fsX5) (T := TX5) (N := 9) cv_X5_107 wd_336 dX5_asks_30 [] [.ref 0] rfl rfl rfl rfl (t_X5_law hq4) ⟨by decide, by decide⟩ (Nat.le_of_ble_eq_true rfl) ⟨rfl, rfl⟩ ?_
        refine mw_iload_n dX5_asks_33 1 rfl ?_
        refine mw_aload_n dX5_asks_34 0 rfl ?_
        refine mw_getr (b := 1) (fs := fsX5) gf_X5_10 dX5_asks_35 rfl rfl ?_
        refine mw_iload_n dX5_asks_38 2 rfl ?_
        refine mw_iload_n dX5_asks_39 3 rfl ?_
        obtain ⟨q5, hq5, h⟩ := mh_bind h
        refine mw_vr (dc := 2) (ci := 4) (fs := (fsX4 q4)) (T := TX4) (N := 5) cv_X5_110 wd_340 dX5_asks_40 [.int p1, .ref 1, .int p2, .int p3] [.int p3, .int p2, .ref 1, .int p1, .ref q4] rfl rfl (t_X5_law_fact hq4).1 rfl (t_X4_says (t_X5_law_fact hq4) (sx_piece into) hq5) ⟨by decide, by decide⟩ (Nat.le_of_ble_eq_true rfl) ⟨rfl, rfl⟩ ?_
        obtain rfl := Option.some.inj h
        exact mw_iret dX5_asks_43 rfl rfl (Nat.le_of_ble_eq_true rfl) (Nat.le_refl 0) mh_ret_rfl
      · replace h := mh_ifp hc6 h
        refine mw_bipush (v := -7) dX5_asks_26 (by decide) ?_
        obtain rfl := Option.some.inj h
        exact mw_iret dX5_asks_28 rfl rfl (Nat.le_of_ble_eq_true rfl) (Nat.le_refl 0) mh_ret_rfl
  · replace h := mh_ifp hc8 h
    refine mw_bipush (v := -5) dX5_asks_7 (by decide) ?_
    obtain rfl := Option.some.inj h
    exact mw_iret dX5_asks_9 rfl rfl (Nat.le_of_ble_eq_true rfl) (Nat.le_refl 0) mh_ret_rfl
abbrev w_X5_knit (sh : List mh_C) (Φ : mh_P) (I : mh_I) (L : mh_L) (pc : Nat) (lv : List (Nat × Value)) (st : List Value) : Prop := mh_W RX5 cX5_knit 5 (some .int) false (mh_rm 2) 46 0 0 mh_noX Φ 0 sh I L pc lv st
def X5_knit (p1 : Int32) (p2 : Int32) (p3 : Int32) (I : mh_I) : Option (Int32 × mh_I) := (X5_isLoop p1).bind (fun q1 => if q1 = 0 then some ((-5 : Int32), I) else (X5_isKnit p2 p3).bind (fun q2 => if q2 = 0 then some ((-7 : Int32), I) else mh_ix p1 48 (fun k3 => mh_b (I 2 k3) (fun b5 => (X1_become 1 p1 p2 p3 I).bind (fun q6 => some (b5, q6))))))
set_option maxHeartbeats 4000000 in
set_option maxRecDepth 100000 in
theorem t_X5_knit {into : Option Nat} {L : mh_L} {I : mh_I} {p1 : Int32} {p2 : Int32} {p3 : Int32} {res : Int32 × mh_I} (h : X5_knit p1 p2 p3 I = some res) : mh_CT yX5_knit cX5_knit 5 (some .int) (mh_rm 2) (SHX into) I L [.ref 0, .int p1, .int p2, .int p3] (mh_ret (some (.int res.1)) (SHX into) res.2 L) := by
  refine mh_ofW (ini := false) RX5 rfl (by decide) (fun h => by cases h) (Nat.le_of_ble_eq_true rfl) ?_
  show w_X5_knit (SHX into) (mh_ret (some (.int res.1)) (SHX into) res.2 L) I L 0 [(0, .ref 0), (1, .int p1), (2, .int p2), (3, .int p3)] []
  unfold X5_knit at h
  refine mw_iload_n dX5_knit_0 1 rfl ?_
  obtain ⟨q1, hq1, h⟩ := mh_bind h
  refine mw_sz (dc := 1) cs_X5_101 wd_329 dX5_knit_1 [.int p1] [.int p1] rfl rfl (t_X5_isLoop hq1) ⟨by decide, by decide⟩ (Nat.le_of_ble_eq_true rfl) ⟨rfl, rfl⟩ (fun zq1 => ?_)
  refine mw_if_ne (tgt := 10) dX5_knit_4 (by decide) (fun hc8 => ?_) (fun hc8 => ?_)
  · replace h := mh_ifn hc8 h
    refine mw_iload_n dX5_knit_10 2 rfl ?_
    refine mw_iload_n dX5_knit_11 3 rfl ?_
    obtain ⟨q2, hq2, h⟩ := mh_bind h
    refine mw_sz (dc := 1) cs_X5_114 wd_378 dX5_knit_12 [.int p2, .int p3] [.int p3, .int p2] rfl rfl (t_X5_isKnit hq2) ⟨by decide, by decide⟩ (Nat.le_of_ble_eq_true rfl) ⟨rfl, rfl⟩ (fun zq2 => ?_)
    refine mw_if_ne (tgt := 21) dX5_knit_15 (by decide) (fun hc7 => ?_) (fun hc7 => ?_)
    · replace h := mh_ifn hc7 h
      refine mw_aload_n dX5_knit_21 0 rfl ?_
      refine mw_getr (b := 1) (fs := fsX5) gf_X5_10 dX5_knit_22 rfl rfl ?_
      refine mw_getr (b := 2) (fs := (fsX1 1)) gf_X5_118 dX5_knit_25 (sx_piece into).1 rfl ?_
      refine mw_iload_n dX5_knit_28 1 rfl ?_
      obtain ⟨k3, hk4, hk4n, hk4l, h⟩ := mh_ix_some h
      refine mw_xiald dX5_knit_29 (sx_piece into).2.1 hk4 hk4n ?_
      obtain ⟨b5, eb5, h⟩ := mh_b_some h
      refine mw_nmi eb5 ?_
      refine mw_istore dX5_knit_30 (by decide) rfl ?_
      refine mw_aload_n dX5_knit_32 1 rfl ?_
      refine mw_getr (b := 1) (fs := fsX5) gf_X5_10 dX5_knit_33 rfl rfl ?_
      refine mw_iload_n dX5_knit_36 2 rfl ?_
      refine mw_iload_n dX5_knit_37 3 rfl ?_
      refine mw_iload_n dX5_knit_38 4 rfl ?_
      obtain ⟨q6, hq6, h⟩ := mh_bind h
      refine mw_vv (dc := 0) (ci := 1) (fs := (fsX1 1)) (T := TX1) (N := 5) cv_X5_122 wd_382 dX5_knit_39 [.int p1, .int p2, .int p3] [.int p3, .int p2, .int p1, .ref 1] rfl rfl (sx_piece into).1 rfl (t_X1_become (sx_piece into) hq6) ⟨by decide, by decide⟩ (Nat.le_of_ble_eq_true rfl) ⟨rfl, rfl⟩ ?_
      refine mw_iload dX5_knit_42 0 rfl ?_
      obtain rfl := Option.some.inj h
      exact mw_iret dX5_knit_44 rfl rfl (Nat.le_of_ble_eq_true rfl) (Nat.le_refl 0) mh_ret_rfl
    · replace h := mh_ifp hc7 h
      refine mw_bipush (v := -7) dX5_knit_18 (by decide) ?_
      obtain rfl := Option.some.inj h
      exact mw_iret dX5_knit_20 rfl rfl (Nat.le_of_ble_eq_true rfl) (Nat.le_refl 0) mh_ret_rfl
  · replace h := mh_ifp hc8 h
    refine mw_bipush (v := -5) dX5_knit_7 (by decide) ?_
    obtain rfl := Option.some.inj h
    exact mw_iret dX5_knit_9 rfl rfl (Nat.le_of_ble_eq_true rfl) (Nat.le_refl 0) mh_ret_rfl
abbrev w_X5_row (sh : List mh_C) (Φ : mh_P) (I : mh_I) (L : mh_L) (pc : Nat) (lv : List (Nat × Value)) (st : List Value) : Prop := mh_W RX5 cX5_row 7 (some .int) false (mh_rm 2) 46 0 0 mh_noX Φ 0 sh I L pc lv st
def X5_row_l27 (u1 : Int32) (u2 : Int32) (u3 : Int32) : Nat → Int32 → Int32 → mh_I → Option (Int32 × mh_I)
  | 0, _, _, _ => none
  | n + 1, u4, u5, I => if (6 : Int32) ≤ u5 then some (u4, I) else mh_b ((u1 * (6 : Int32)) + u5) (fun b3 => mh_ix b3 48 (fun k4 => mh_j (fun (v6 : Int32) => (X1_become 1 b3 u2 u3 I).bind (fun q10 => mh_b (u5 + (1 : Int32)) (fun b11 => (X5_row_l27 u1 u2 u3 n v6 b11 q10)))) (fun J7 => if (I 2 k4) = u2 then (J7 u4) else mh_b (u4 + (1 : Int32)) (fun b8 => (J7 b8)))))
set_option maxHeartbeats 4000000 in
set_option maxRecDepth 100000 in
theorem t_X5_row_l27 {into : Option Nat} {u1 : Int32} {u2 : Int32} {u3 : Int32} {L : mh_L} {res : Int32 × mh_I} (n : Nat) (u4 : Int32) (u5 : Int32) (I : mh_I) (h : X5_row_l27 u1 u2 u3 n u4 u5 I = some res)  : w_X5_row (SHX into) (mh_ret (some (.int res.1)) (SHX into) res.2 L) I L 27 [(0, .ref 0), (1, .int u1), (2, .int u2), (3, .int u3), (4, .int u4), (5, .int u5)] [] := by
  induction n generalizing u4 u5 I with
  | zero => rw [X5_row_l27] at h; cases h
  | succ n ih =>
    rw [X5_row_l27] at h
    refine mw_iload dX5_row_27 5 rfl ?_
    refine mw_bipush (v := 6) dX5_row_29 (by decide) ?_
    refine mw_icmp_ge (tgt := 77) dX5_row_31 (by decide) (fun hc12 => ?_) (fun hc12 => ?_)
    · replace h := mh_ifp hc12 h
      refine mw_iload dX5_row_77 4 rfl ?_
      obtain rfl := Option.some.inj h
      exact mw_iret dX5_row_79 rfl rfl (Nat.le_of_ble_eq_true rfl) (Nat.le_refl 0) mh_ret_rfl
    · replace h := mh_ifn hc12 h
      refine mw_iload_n dX5_row_34 1 rfl ?_
      refine mw_bipush (v := 6) dX5_row_35 (by decide) ?_
      refine mw_imul dX5_row_37 ?_
      refine mw_iload dX5_row_38 5 rfl ?_
      refine mw_iadd dX5_row_40 ?_
      obtain ⟨b3, eb3, h⟩ := mh_b_some h
      refine mw_nmi eb3 ?_
      refine mw_istore dX5_row_41 (by decide) rfl ?_
      refine mw_aload_n dX5_row_43 1 rfl ?_
      refine mw_getr (b := 1) (fs := fsX5) gf_X5_10 dX5_row_44 rfl rfl ?_
      refine mw_getr (b := 2) (fs := (fsX1 1)) gf_X5_118 dX5_row_47 (sx_piece into).1 rfl ?_
      refine mw_iload dX5_row_50 0 rfl ?_
      obtain ⟨k4, hk5, hk5n, hk5l, h⟩ := mh_ix_some h
      refine mw_xiald dX5_row_52 (sx_piece into).2.1 hk5 hk5n ?_
      refine mw_iload_n dX5_row_53 3 rfl ?_
      refine mh_jw (fun J7 => ∀ (v6 : Int32), J7 v6 = some res → w_X5_row (SHX into) (mh_ret (some (.int res.1)) (SHX into) res.2 L) I L 60 [(0, .ref 0), (1, .int u1), (2, .int u2), (3, .int u3), (4, .int v6), (5, .int u5), (6, .int b3)] []) h (fun v6 h => ?_) (fun J7 hJ7 h => ?_)
      · refine mw_aload_n dX5_row_60 0 rfl ?_
        refine mw_getr (b := 1) (fs := fsX5) gf_X5_10 dX5_row_61 rfl rfl ?_
        refine mw_iload dX5_row_64 6 rfl ?_
        refine mw_iload_n dX5_row_66 2 rfl ?_
        refine mw_iload_n dX5_row_67 3 rfl ?_
        obtain ⟨q10, hq10, h⟩ := mh_bind h
        refine mw_vv (dc := 0) (ci := 1) (fs := (fsX1 1)) (T := TX1) (N := 5) cv_X5_122 wd_382 dX5_row_68 [.int b3, .int u2, .int u3] [.int u3, .int u2, .int b3, .ref 1] rfl rfl (sx_piece into).1 rfl (t_X1_become (sx_piece into) hq10) ⟨by decide, by decide⟩ (Nat.le_of_ble_eq_true rfl) ⟨rfl, rfl⟩ ?_
        obtain ⟨b11, eb11, h⟩ := mh_b_some h
        refine mw_iinc (v := b11) dX5_row_71 5 rfl (by rw [← eb11]; rfl) (by decide) rfl ?_
        refine mw_goto (tgt := 27) dX5_row_74 (by decide) ?_
        refine mw_loc [1, 2, 3, 4, 5, 0] rfl ?_
        exact ih _ _ _ h
      · refine mw_icmp_eq (tgt := 60) dX5_row_54 (by decide) (fun hc9 => ?_) (fun hc9 => ?_)
        · replace h := mh_ifp hc9 h
          refine mw_loc [1, 2, 3, 4, 5, 6, 0] rfl ?_
          exact hJ7 _ h
        · replace h := mh_ifn hc9 h
          obtain ⟨b8, eb8, h⟩ := mh_b_some h
          refine mw_iinc (v := b8) dX5_row_57 5 rfl (by rw [← eb8]; rfl) (by decide) rfl ?_
          refine mw_loc [2, 3, 4, 5, 0, 6, 1] rfl ?_
          exact hJ7 _ h
def X5_row (p1 : Int32) (p2 : Int32) (p3 : Int32) (I : mh_I) : Option (Int32 × mh_I) := (X5_isRow p1).bind (fun q1 => if q1 = 0 then some ((-5 : Int32), I) else (X5_isKnit p2 p3).bind (fun q2 => if q2 = 0 then some ((-7 : Int32), I) else X5_row_l27 p1 p2 p3 mh_fuel (0 : Int32) (0 : Int32) I))
set_option maxHeartbeats 4000000 in
set_option maxRecDepth 100000 in
theorem t_X5_row {into : Option Nat} {L : mh_L} {I : mh_I} {p1 : Int32} {p2 : Int32} {p3 : Int32} {res : Int32 × mh_I} (h : X5_row p1 p2 p3 I = some res) : mh_CT yX5_row cX5_row 7 (some .int) (mh_rm 2) (SHX into) I L [.ref 0, .int p1, .int p2, .int p3] (mh_ret (some (.int res.1)) (SHX into) res.2 L) := by
  refine mh_ofW (ini := false) RX5 rfl (by decide) (fun h => by cases h) (Nat.le_of_ble_eq_true rfl) ?_
  show w_X5_row (SHX into) (mh_ret (some (.int res.1)) (SHX into) res.2 L) I L 0 [(0, .ref 0), (1, .int p1), (2, .int p2), (3, .int p3)] []
  unfold X5_row at h
  refine mw_iload_n dX5_row_0 1 rfl ?_
  obtain ⟨q1, hq1, h⟩ := mh_bind h
  refine mw_sz (dc := 1) cs_X5_126 wd_389 dX5_row_1 [.int p1] [.int p1] rfl rfl (t_X5_isRow hq1) ⟨by decide, by decide⟩ (Nat.le_of_ble_eq_true rfl) ⟨rfl, rfl⟩ (fun zq1 => ?_)
  refine mw_if_ne (tgt := 10) dX5_row_4 (by decide) (fun hc14 => ?_) (fun hc14 => ?_)
  · replace h := mh_ifn hc14 h
    refine mw_iload_n dX5_row_10 2 rfl ?_
    refine mw_iload_n dX5_row_11 3 rfl ?_
    obtain ⟨q2, hq2, h⟩ := mh_bind h
    refine mw_sz (dc := 1) cs_X5_114 wd_378 dX5_row_12 [.int p2, .int p3] [.int p3, .int p2] rfl rfl (t_X5_isKnit hq2) ⟨by decide, by decide⟩ (Nat.le_of_ble_eq_true rfl) ⟨rfl, rfl⟩ (fun zq2 => ?_)
    refine mw_if_ne (tgt := 21) dX5_row_15 (by decide) (fun hc13 => ?_) (fun hc13 => ?_)
    · replace h := mh_ifn hc13 h
      refine mw_iconst (v := 0) dX5_row_21 (by decide) ?_
      refine mw_istore dX5_row_22 (by decide) rfl ?_
      refine mw_iconst (v := 0) dX5_row_24 (by decide) ?_
      refine mw_istore dX5_row_25 (by decide) rfl ?_
      refine mw_loc [2, 3, 4, 5, 1, 0] rfl ?_
      exact t_X5_row_l27  _ _ _ _ h 
    · replace h := mh_ifp hc13 h
      refine mw_bipush (v := -7) dX5_row_18 (by decide) ?_
      obtain rfl := Option.some.inj h
      exact mw_iret dX5_row_20 rfl rfl (Nat.le_of_ble_eq_true rfl) (Nat.le_refl 0) mh_ret_rfl
  · replace h := mh_ifp hc14 h
    refine mw_bipush (v := -5) dX5_row_7 (by decide) ?_
    obtain rfl := Option.some.inj h
    exact mw_iret dX5_row_9 rfl rfl (Nat.le_of_ble_eq_true rfl) (Nat.le_refl 0) mh_ret_rfl
abbrev w_X5_told (sh : List mh_C) (Φ : mh_P) (I : mh_I) (L : mh_L) (pc : Nat) (lv : List (Nat × Value)) (st : List Value) : Prop := mh_W RX5 cX5_told 3 (some .int) false (mh_rm 2) 46 0 0 mh_noX Φ 0 sh I L pc lv st
def X5_told (p1 : Int32) (p2 : Int32) (I : mh_I) (L : mh_L) : Option (Int32) := (X5_isLoop p1).bind (fun q1 => if q1 = 0 then some (-5 : Int32) else if p2 = 0 then mh_ix p1 48 (fun k3 => some (I 2 k3)) else if p2 = 1 then mh_ix p1 48 (fun k6 => some (I 3 k6)) else if p2 = 2 then (X1_placesBelow 1 p1 I).bind (fun q9 => some q9) else if p2 = 3 then mh_ix p1 48 (fun k11 => (X5_faceOf (I 2 k11)).bind (fun q13 => some q13)) else if p2 = 4 then (X5_hasBit (L 1 2) p1).bind (fun q15 => if q15 = 0 then some (0 : Int32) else some (1 : Int32)) else if p2 = 5 then (X5_hasBit (L 1 3) p1).bind (fun q18 => if q18 = 0 then some (0 : Int32) else some (1 : Int32)) else some (-7 : Int32))
set_option maxHeartbeats 4000000 in
set_option maxRecDepth 100000 in
theorem t_X5_told {into : Option Nat} {L : mh_L} {I : mh_I} {p1 : Int32} {p2 : Int32} {res : Int32} (h : X5_told p1 p2 I L = some res) : mh_CT yX5_told cX5_told 3 (some .int) (mh_rm 2) (SHX into) I L [.ref 0, .int p1, .int p2] (mh_ret (some (.int res)) (SHX into) I L) := by
  refine mh_ofW (ini := false) RX5 rfl (by decide) (fun h => by cases h) (Nat.le_of_ble_eq_true rfl) ?_
  show w_X5_told (SHX into) (mh_ret (some (.int res)) (SHX into) I L) I L 0 [(0, .ref 0), (1, .int p1), (2, .int p2)] []
  unfold X5_told at h
  refine mw_iload_n dX5_told_0 1 rfl ?_
  obtain ⟨q1, hq1, h⟩ := mh_bind h
  refine mw_sz (dc := 1) cs_X5_101 wd_329 dX5_told_1 [.int p1] [.int p1] rfl rfl (t_X5_isLoop hq1) ⟨by decide, by decide⟩ (Nat.le_of_ble_eq_true rfl) ⟨rfl, rfl⟩ (fun zq1 => ?_)
  refine mw_if_ne (tgt := 10) dX5_told_4 (by decide) (fun hc20 => ?_) (fun hc20 => ?_)
  · replace h := mh_ifn hc20 h
    refine mw_iload_n dX5_told_10 2 rfl ?_
    by_cases hc2 : p2 = 0
    · replace h := mh_ifp hc2 h
      refine mw_tableIn (off := 37) (tgt := 48) dX5_told_11 (by rw [hc2]; decide) (by rw [hc2]; decide) (by rw [hc2]; rfl) (by decide) ?_
      refine mw_aload_n dX5_told_48 0 rfl ?_
      refine mw_getr (b := 1) (fs := fsX5) gf_X5_10 dX5_told_49 rfl rfl ?_
      refine mw_getr (b := 2) (fs := (fsX1 1)) gf_X5_118 dX5_told_52 (sx_piece into).1 rfl ?_
      refine mw_iload_n dX5_told_55 1 rfl ?_
      obtain ⟨k3, hk4, hk4n, hk4l, h⟩ := mh_ix_some h
      refine mw_xiald dX5_told_56 (sx_piece into).2.1 hk4 hk4n ?_
      obtain rfl := Option.some.inj h
      exact mw_iret dX5_told_57 rfl rfl (Nat.le_of_ble_eq_true rfl) (Nat.le_refl 0) mh_ret_rfl
    · replace h := mh_ifn hc2 h
      by_cases hc5 : p2 = 1
      · replace h := mh_ifp hc5 h
        refine mw_tableIn (off := 47) (tgt := 58) dX5_told_11 (by rw [hc5]; decide) (by rw [hc5]; decide) (by rw [hc5]; rfl) (by decide) ?_
        refine mw_aload_n dX5_told_58 0 rfl ?_
        refine mw_getr (b := 1) (fs := fsX5) gf_X5_10 dX5_told_59 rfl rfl ?_
        refine mw_getr (b := 3) (fs := (fsX1 1)) gf_X5_129 dX5_told_62 (sx_piece into).1 rfl ?_
        refine mw_iload_n dX5_told_65 1 rfl ?_
        obtain ⟨k6, hk7, hk7n, hk7l, h⟩ := mh_ix_some h
        refine mw_xiald dX5_told_66 (sx_piece into).2.2 hk7 hk7n ?_
        obtain rfl := Option.some.inj h
        exact mw_iret dX5_told_67 rfl rfl (Nat.le_of_ble_eq_true rfl) (Nat.le_refl 0) mh_ret_rfl
      · replace h := mh_ifn hc5 h
        by_cases hc8 : p2 = 2
        · replace h := mh_ifp hc8 h
          refine mw_tableIn (off := 57) (tgt := 68) dX5_told_11 (by rw [hc8]; decide) (by rw [hc8]; decide) (by rw [hc8]; rfl) (by decide) ?_
          refine mw_aload_n dX5_told_68 0 rfl ?_
          refine mw_getr (b := 1) (fs := fsX5) gf_X5_10 dX5_told_69 rfl rfl ?_
          refine mw_iload_n dX5_told_72 1 rfl ?_
          obtain ⟨q9, hq9, h⟩ := mh_bind h
          refine mw_vr (dc := 1) (ci := 1) (fs := (fsX1 1)) (T := TX1) (N := 5) cv_X5_132 wd_397 dX5_told_73 [.int p1] [.int p1, .ref 1] rfl rfl (sx_piece into).1 rfl (t_X1_placesBelow (sx_piece into) hq9) ⟨by decide, by decide⟩ (Nat.le_of_ble_eq_true rfl) ⟨rfl, rfl⟩ ?_
          obtain rfl := Option.some.inj h
          exact mw_iret dX5_told_76 rfl rfl (Nat.le_of_ble_eq_true rfl) (Nat.le_refl 0) mh_ret_rfl
        · replace h := mh_ifn hc8 h
          by_cases hc10 : p2 = 3
          · replace h := mh_ifp hc10 h
            refine mw_tableIn (off := 66) (tgt := 77) dX5_told_11 (by rw [hc10]; decide) (by rw [hc10]; decide) (by rw [hc10]; rfl) (by decide) ?_
            refine mw_aload_n dX5_told_77 0 rfl ?_
            refine mw_getr (b := 1) (fs := fsX5) gf_X5_10 dX5_told_78 rfl rfl ?_
            refine mw_getr (b := 2) (fs := (fsX1 1)) gf_X5_118 dX5_told_81 (sx_piece into).1 rfl ?_
            refine mw_iload_n dX5_told_84 1 rfl ?_
            obtain ⟨k11, hk12, hk12n, hk12l, h⟩ := mh_ix_some h
            refine mw_xiald dX5_told_85 (sx_piece into).2.1 hk12 hk12n ?_
            obtain ⟨q13, hq13, h⟩ := mh_bind h
            refine mw_sr (dc := 0) cs_X5_136 wd_354 dX5_told_86 [.int (I 2 k11)] [.int (I 2 k11)] rfl rfl (t_X5_faceOf hq13) ⟨by decide, by decide⟩ (Nat.le_of_ble_eq_true rfl) ⟨rfl, rfl⟩ ?_
            obtain rfl := Option.some.inj h
            exact mw_iret dX5_told_89 rfl rfl (Nat.le_of_ble_eq_true rfl) (Nat.le_refl 0) mh_ret_rfl
          · replace h := mh_ifn hc10 h
            by_cases hc14 : p2 = 4
            · replace h := mh_ifp hc14 h
              refine mw_tableIn (off := 79) (tgt := 90) dX5_told_11 (by rw [hc14]; decide) (by rw [hc14]; decide) (by rw [hc14]; rfl) (by decide) ?_
              refine mw_aload_n dX5_told_90 0 rfl ?_
              refine mw_getr (b := 1) (fs := fsX5) gf_X5_10 dX5_told_91 rfl rfl ?_
              refine mw_getl (fs := (fsX1 1)) gf_X5_70 dX5_told_94 (sx_piece into).1 rfl ?_
              refine mw_iload_n dX5_told_97 1 rfl ?_
              obtain ⟨q15, hq15, h⟩ := mh_bind h
              refine mw_sz (dc := 0) cs_X5_139 wd_357 dX5_told_98 [.long (L 1 2), .int p1] [.int p1, .long (L 1 2)] rfl rfl (t_X5_hasBit hq15) ⟨by decide, by decide⟩ (Nat.le_of_ble_eq_true rfl) ⟨rfl, rfl⟩ (fun zq15 => ?_)
              refine mw_if_eq (tgt := 108) dX5_told_101 (by decide) (fun hc16 => ?_) (fun hc16 => ?_)
              · replace h := mh_ifp hc16 h
                refine mw_iconst (v := 0) dX5_told_108 (by decide) ?_
                obtain rfl := Option.some.inj h
                exact mw_iret dX5_told_109 rfl rfl (Nat.le_of_ble_eq_true rfl) (Nat.le_refl 0) mh_ret_rfl
              · replace h := mh_ifn hc16 h
                refine mw_iconst (v := 1) dX5_told_104 (by decide) ?_
                refine mw_goto (tgt := 109) dX5_told_105 (by decide) ?_
                obtain rfl := Option.some.inj h
                exact mw_iret dX5_told_109 rfl rfl (Nat.le_of_ble_eq_true rfl) (Nat.le_refl 0) mh_ret_rfl
            · replace h := mh_ifn hc14 h
              by_cases hc17 : p2 = 5
              · replace h := mh_ifp hc17 h
                refine mw_tableIn (off := 99) (tgt := 110) dX5_told_11 (by rw [hc17]; decide) (by rw [hc17]; decide) (by rw [hc17]; rfl) (by decide) ?_
                refine mw_aload_n dX5_told_110 0 rfl ?_
                refine mw_getr (b := 1) (fs := fsX5) gf_X5_10 dX5_told_111 rfl rfl ?_
                refine mw_getl (fs := (fsX1 1)) gf_X5_80 dX5_told_114 (sx_piece into).1 rfl ?_
                refine mw_iload_n dX5_told_117 1 rfl ?_
                obtain ⟨q18, hq18, h⟩ := mh_bind h
                refine mw_sz (dc := 0) cs_X5_139 wd_357 dX5_told_118 [.long (L 1 3), .int p1] [.int p1, .long (L 1 3)] rfl rfl (t_X5_hasBit hq18) ⟨by decide, by decide⟩ (Nat.le_of_ble_eq_true rfl) ⟨rfl, rfl⟩ (fun zq18 => ?_)
                refine mw_if_eq (tgt := 128) dX5_told_121 (by decide) (fun hc19 => ?_) (fun hc19 => ?_)
                · replace h := mh_ifp hc19 h
                  refine mw_iconst (v := 0) dX5_told_128 (by decide) ?_
                  obtain rfl := Option.some.inj h
                  exact mw_iret dX5_told_129 rfl rfl (Nat.le_of_ble_eq_true rfl) (Nat.le_refl 0) mh_ret_rfl
                · replace h := mh_ifn hc19 h
                  refine mw_iconst (v := 1) dX5_told_124 (by decide) ?_
                  refine mw_goto (tgt := 129) dX5_told_125 (by decide) ?_
                  obtain rfl := Option.some.inj h
                  exact mw_iret dX5_told_129 rfl rfl (Nat.le_of_ble_eq_true rfl) (Nat.le_refl 0) mh_ret_rfl
              · replace h := mh_ifn hc17 h
                refine mw_tableOut (tgt := 130) dX5_told_11 (by have e0 := mh_ne (n := 0) hc2 (by decide); have e1 := mh_ne (n := 1) hc5 (by decide); have e2 := mh_ne (n := 2) hc8 (by decide); have e3 := mh_ne (n := 3) hc10 (by decide); have e4 := mh_ne (n := 4) hc14 (by decide); have e5 := mh_ne (n := 5) hc17 (by decide); omega) (by decide) ?_
                refine mw_bipush (v := -7) dX5_told_130 (by decide) ?_
                obtain rfl := Option.some.inj h
                exact mw_iret dX5_told_132 rfl rfl (Nat.le_of_ble_eq_true rfl) (Nat.le_refl 0) mh_ret_rfl
  · replace h := mh_ifp hc20 h
    refine mw_bipush (v := -5) dX5_told_7 (by decide) ?_
    obtain rfl := Option.some.inj h
    exact mw_iret dX5_told_9 rfl rfl (Nat.le_of_ble_eq_true rfl) (Nat.le_refl 0) mh_ret_rfl
abbrev w_X5_pin (sh : List mh_C) (Φ : mh_P) (I : mh_I) (L : mh_L) (pc : Nat) (lv : List (Nat × Value)) (st : List Value) : Prop := mh_W RX5 cX5_pin 4 (some .int) false (mh_rm 2) 46 0 0 mh_noX Φ 0 sh I L pc lv st
def X5_pin (p1 : Int32) (p2 : Int32) (L : mh_L) : Option (Int32 × mh_L) := (X5_isLoop p1).bind (fun q1 => if q1 = 0 then some ((-5 : Int32), L) else (X5_within p2 (0 : Int32) (1 : Int32)).bind (fun q2 => if q2 = 0 then some ((-7 : Int32), L) else (X5_hasBit (L 1 2) p1).bind (fun q3 => mh_j (fun (s4 : Int32) => mh_j (fun (s7 : Int64) => some (s4, (mh_ul L 1 2 s7))) (fun J8 => if p2 = (1 : Int32) then (X5_bit p1).bind (fun q10 => (J8 ((L 1 2) ||| q10))) else (X5_bit p1).bind (fun q9 => (J8 ((L 1 2) &&& (q9 ^^^ (-1 : Int64))))))) (fun J5 => if q3 = 0 then (J5 (0 : Int32)) else (J5 (1 : Int32))))))
set_option maxHeartbeats 4000000 in
set_option maxRecDepth 100000 in
theorem t_X5_pin {into : Option Nat} {L : mh_L} {I : mh_I} {p1 : Int32} {p2 : Int32} {res : Int32 × mh_L} (h : X5_pin p1 p2 L = some res) : mh_CT yX5_pin cX5_pin 4 (some .int) (mh_rm 2) (SHX into) I L [.ref 0, .int p1, .int p2] (mh_ret (some (.int res.1)) (SHX into) I res.2) := by
  refine mh_ofW (ini := false) RX5 rfl (by decide) (fun h => by cases h) (Nat.le_of_ble_eq_true rfl) ?_
  show w_X5_pin (SHX into) (mh_ret (some (.int res.1)) (SHX into) I res.2) I L 0 [(0, .ref 0), (1, .int p1), (2, .int p2)] []
  unfold X5_pin at h
  refine mw_iload_n dX5_pin_0 1 rfl ?_
  obtain ⟨q1, hq1, h⟩ := mh_bind h
  refine mw_sz (dc := 1) cs_X5_101 wd_329 dX5_pin_1 [.int p1] [.int p1] rfl rfl (t_X5_isLoop hq1) ⟨by decide, by decide⟩ (Nat.le_of_ble_eq_true rfl) ⟨rfl, rfl⟩ (fun zq1 => ?_)
  refine mw_if_ne (tgt := 10) dX5_pin_4 (by decide) (fun hc13 => ?_) (fun hc13 => ?_)
  · replace h := mh_ifn hc13 h
    refine mw_iload_n dX5_pin_10 2 rfl ?_
    refine mw_iconst (v := 0) dX5_pin_11 (by decide) ?_
    refine mw_iconst (v := 1) dX5_pin_12 (by decide) ?_
    obtain ⟨q2, hq2, h⟩ := mh_bind h
    refine mw_sz (dc := 0) cs_X5_97 wd_223 dX5_pin_13 [.int p2, .int (0 : Int32), .int (1 : Int32)] [.int (1 : Int32), .int (0 : Int32), .int p2] rfl rfl (t_X5_within hq2) ⟨by decide, by decide⟩ (Nat.le_of_ble_eq_true rfl) ⟨rfl, rfl⟩ (fun zq2 => ?_)
    refine mw_if_ne (tgt := 22) dX5_pin_16 (by decide) (fun hc12 => ?_) (fun hc12 => ?_)
    · replace h := mh_ifn hc12 h
      refine mw_aload_n dX5_pin_22 0 rfl ?_
      refine mw_getr (b := 1) (fs := fsX5) gf_X5_10 dX5_pin_23 rfl rfl ?_
      refine mw_getl (fs := (fsX1 1)) gf_X5_70 dX5_pin_26 (sx_piece into).1 rfl ?_
      refine mw_iload_n dX5_pin_29 1 rfl ?_
      obtain ⟨q3, hq3, h⟩ := mh_bind h
      refine mw_sz (dc := 0) cs_X5_139 wd_357 dX5_pin_30 [.long (L 1 2), .int p1] [.int p1, .long (L 1 2)] rfl rfl (t_X5_hasBit hq3) ⟨by decide, by decide⟩ (Nat.le_of_ble_eq_true rfl) ⟨rfl, rfl⟩ (fun zq3 => ?_)
      refine mh_jw (fun J5 => ∀ (s4 : Int32), J5 s4 = some res → w_X5_pin (SHX into) (mh_ret (some (.int res.1)) (SHX into) I res.2) I L 41 [(0, .ref 0), (1, .int p1), (2, .int p2)] [.int s4]) h (fun s4 h => ?_) (fun J5 hJ5 h => ?_)
      · refine mw_istore_n dX5_pin_41 (by decide) rfl ?_
        refine mw_aload_n dX5_pin_42 1 rfl ?_
        refine mw_getr (b := 1) (fs := fsX5) gf_X5_10 dX5_pin_43 rfl rfl ?_
        refine mw_iload_n dX5_pin_46 3 rfl ?_
        refine mw_iconst (v := 1) dX5_pin_47 (by decide) ?_
        refine mh_jw (fun J8 => ∀ (s7 : Int64), J8 s7 = some res → w_X5_pin (SHX into) (mh_ret (some (.int res.1)) (SHX into) I res.2) I L 82 [(3, .int s4)] [.long s7, .ref 1]) h (fun s7 h => ?_) (fun J8 hJ8 h => ?_)
        · refine mw_putl (fs := (fsX1 1)) pf_X5_70 (fun h => by cases h) dX5_pin_82 (sx_piece into).1 rfl ?_
          refine mw_iload_n dX5_pin_85 0 rfl ?_
          obtain rfl := Option.some.inj h
          exact mw_iret dX5_pin_86 rfl rfl (Nat.le_of_ble_eq_true rfl) (Nat.le_refl 0) mh_ret_rfl
        · refine mw_icmp_ne (tgt := 66) dX5_pin_48 (by decide) (fun hc11 => ?_) (fun hc11 => ?_)
          · replace h := mh_ifn hc11 h
            refine mw_aload_n dX5_pin_66 1 rfl ?_
            refine mw_getr (b := 1) (fs := fsX5) gf_X5_10 dX5_pin_67 rfl rfl ?_
            refine mw_getl (fs := (fsX1 1)) gf_X5_70 dX5_pin_70 (sx_piece into).1 rfl ?_
            refine mw_iload_n dX5_pin_73 2 rfl ?_
            obtain ⟨q9, hq9, h⟩ := mh_bind h
            refine mw_sr (dc := 0) cs_X5_143 wd_412 dX5_pin_74 [.int p1] [.int p1, .long (L 1 2), .ref 1] rfl rfl (t_X5_bit hq9) ⟨by decide, by decide⟩ (Nat.le_of_ble_eq_true rfl) ⟨rfl, rfl⟩ ?_
            refine mw_ldc2 dX5_pin_77 wd_413 ?_
            refine mw_lxor dX5_pin_80 ?_
            refine mw_land dX5_pin_81 ?_
            refine mw_loc [0] rfl ?_
            exact hJ8 _ h
          · replace h := mh_ifp hc11 h
            refine mw_aload_n dX5_pin_51 1 rfl ?_
            refine mw_getr (b := 1) (fs := fsX5) gf_X5_10 dX5_pin_52 rfl rfl ?_
            refine mw_getl (fs := (fsX1 1)) gf_X5_70 dX5_pin_55 (sx_piece into).1 rfl ?_
            refine mw_iload_n dX5_pin_58 2 rfl ?_
            obtain ⟨q10, hq10, h⟩ := mh_bind h
            refine mw_sr (dc := 0) cs_X5_143 wd_412 dX5_pin_59 [.int p1] [.int p1, .long (L 1 2), .ref 1] rfl rfl (t_X5_bit hq10) ⟨by decide, by decide⟩ (Nat.le_of_ble_eq_true rfl) ⟨rfl, rfl⟩ ?_
            refine mw_lor dX5_pin_62 ?_
            refine mw_goto (tgt := 82) dX5_pin_63 (by decide) ?_
            refine mw_loc [0] rfl ?_
            exact hJ8 _ h
      · refine mw_if_eq (tgt := 40) dX5_pin_33 (by decide) (fun hc6 => ?_) (fun hc6 => ?_)
        · replace h := mh_ifp hc6 h
          refine mw_iconst (v := 0) dX5_pin_40 (by decide) ?_
          refine mw_loc [0, 1, 2] rfl ?_
          exact hJ5 _ h
        · replace h := mh_ifn hc6 h
          refine mw_iconst (v := 1) dX5_pin_36 (by decide) ?_
          refine mw_goto (tgt := 41) dX5_pin_37 (by decide) ?_
          refine mw_loc [0, 1, 2] rfl ?_
          exact hJ5 _ h
    · replace h := mh_ifp hc12 h
      refine mw_bipush (v := -7) dX5_pin_19 (by decide) ?_
      obtain rfl := Option.some.inj h
      exact mw_iret dX5_pin_21 rfl rfl (Nat.le_of_ble_eq_true rfl) (Nat.le_refl 0) mh_ret_rfl
  · replace h := mh_ifp hc13 h
    refine mw_bipush (v := -5) dX5_pin_7 (by decide) ?_
    obtain rfl := Option.some.inj h
    exact mw_iret dX5_pin_9 rfl rfl (Nat.le_of_ble_eq_true rfl) (Nat.le_refl 0) mh_ret_rfl
abbrev w_X5_hangingOn (sh : List mh_C) (Φ : mh_P) (I : mh_I) (L : mh_L) (pc : Nat) (lv : List (Nat × Value)) (st : List Value) : Prop := mh_W RX5 cX5_hangingOn 5 (some .long) false (mh_rm 3) 46 0 0 mh_noX Φ 0 sh I L pc lv st
def X5_hangingOn_l7 (u1 : Int32) (I : mh_I) : Nat → Int64 → Int32 → Option (Int64)
  | 0, _, _ => none
  | n + 1, u2, u4 => if (48 : Int32) ≤ u4 then some u2 else (X1_under 1 u4 I).bind (fun q2 => (X5_bit u1).bind (fun q3 => mh_j (fun (v4 : Int64) => mh_b (u4 + (1 : Int32)) (fun b9 => (X5_hangingOn_l7 u1 I n v4 b9))) (fun J5 => if (lg_cmp (q2 &&& (u2 ||| q3)) (0 : Int64)) = 0 then (J5 u2) else (X5_bit u4).bind (fun q6 => mh_b (u2 ||| q6) (fun b7 => (J5 b7))))))
set_option maxHeartbeats 4000000 in
set_option maxRecDepth 100000 in
theorem t_X5_hangingOn_l7 {into : Option Nat} {u1 : Int32} {I : mh_I} {L : mh_L} {res : Int64} (n : Nat) (u2 : Int64) (u4 : Int32) (h : X5_hangingOn_l7 u1 I n u2 u4 = some res)  : w_X5_hangingOn (SHX into) (mh_ret (some (.long res)) (SHX into) I L) I L 7 [(0, .ref 0), (1, .int u1), (2, .long u2), (4, .int u4)] [] := by
  induction n generalizing u2 u4 with
  | zero => rw [X5_hangingOn_l7] at h; cases h
  | succ n ih =>
    rw [X5_hangingOn_l7] at h
    refine mw_iload dX5_hangingOn_7 3 rfl ?_
    refine mw_bipush (v := 48) dX5_hangingOn_9 (by decide) ?_
    refine mw_icmp_ge (tgt := 49) dX5_hangingOn_11 (by decide) (fun hc10 => ?_) (fun hc10 => ?_)
    · replace h := mh_ifp hc10 h
      refine mw_lload_n dX5_hangingOn_49 2 rfl ?_
      obtain rfl := Option.some.inj h
      exact mw_lret dX5_hangingOn_50 rfl (Nat.le_of_ble_eq_true rfl) (Nat.le_refl 0) mh_ret_rfl
    · replace h := mh_ifn hc10 h
      refine mw_aload_n dX5_hangingOn_14 0 rfl ?_
      refine mw_getr (b := 1) (fs := fsX5) gf_X5_10 dX5_hangingOn_15 rfl rfl ?_
      refine mw_iload dX5_hangingOn_18 3 rfl ?_
      obtain ⟨q2, hq2, h⟩ := mh_bind h
      refine mw_vr (dc := 2) (ci := 1) (fs := (fsX1 1)) (T := TX1) (N := 5) cv_X5_287 wd_431 dX5_hangingOn_20 [.int u4] [.int u4, .ref 1] rfl rfl (sx_piece into).1 rfl (t_X1_under (sx_piece into) hq2) ⟨by decide, by decide⟩ (Nat.le_of_ble_eq_true rfl) ⟨rfl, rfl⟩ ?_
      refine mw_lload_n dX5_hangingOn_23 2 rfl ?_
      refine mw_iload_n dX5_hangingOn_24 1 rfl ?_
      obtain ⟨q3, hq3, h⟩ := mh_bind h
      refine mw_sr (dc := 0) cs_X5_143 wd_412 dX5_hangingOn_25 [.int u1] [.int u1, .long u2, .long q2] rfl rfl (t_X5_bit hq3) ⟨by decide, by decide⟩ (Nat.le_of_ble_eq_true rfl) ⟨rfl, rfl⟩ ?_
      refine mw_lor dX5_hangingOn_28 ?_
      refine mw_land dX5_hangingOn_29 ?_
      refine mw_lconst (v := 0) dX5_hangingOn_30 (by decide) ?_
      refine mw_lcmp dX5_hangingOn_31 ?_
      refine mh_jw (fun J5 => ∀ (v4 : Int64), J5 v4 = some res → w_X5_hangingOn (SHX into) (mh_ret (some (.long res)) (SHX into) I L) I L 43 [(0, .ref 0), (1, .int u1), (2, .long v4), (4, .int u4)] []) h (fun v4 h => ?_) (fun J5 hJ5 h => ?_)
      · obtain ⟨b9, eb9, h⟩ := mh_b_some h
        refine mw_iinc (v := b9) dX5_hangingOn_43 3 rfl (by rw [← eb9]; rfl) (by decide) rfl ?_
        refine mw_goto (tgt := 7) dX5_hangingOn_46 (by decide) ?_
        refine mw_loc [1, 2, 3, 0] rfl ?_
        exact ih _ _ h
      · refine mw_if_eq (tgt := 43) dX5_hangingOn_32 (by decide) (fun hc8 => ?_) (fun hc8 => ?_)
        · replace h := mh_ifp hc8 h
          refine mw_loc [0, 1, 2, 3] rfl ?_
          exact hJ5 _ h
        · replace h := mh_ifn hc8 h
          refine mw_lload_n dX5_hangingOn_35 2 rfl ?_
          refine mw_iload dX5_hangingOn_36 3 rfl ?_
          obtain ⟨q6, hq6, h⟩ := mh_bind h
          refine mw_sr (dc := 0) cs_X5_143 wd_412 dX5_hangingOn_38 [.int u4] [.int u4, .long u2] rfl rfl (t_X5_bit hq6) ⟨by decide, by decide⟩ (Nat.le_of_ble_eq_true rfl) ⟨rfl, rfl⟩ ?_
          refine mw_lor dX5_hangingOn_41 ?_
          obtain ⟨b7, eb7, h⟩ := mh_b_some h
          refine mw_nml eb7 ?_
          refine mw_lstore_n dX5_hangingOn_42 (by decide) rfl ?_
          refine mw_loc [1, 2, 0, 3] rfl ?_
          exact hJ5 _ h
def X5_hangingOn (p1 : Int32) (I : mh_I) : Option (Int64) := mh_b (p1 + (1 : Int32)) (fun b1 => X5_hangingOn_l7 p1 I mh_fuel (0 : Int64) b1)
set_option maxHeartbeats 4000000 in
set_option maxRecDepth 100000 in
theorem t_X5_hangingOn {into : Option Nat} {L : mh_L} {I : mh_I} {p1 : Int32} {res : Int64} (h : X5_hangingOn p1 I = some res) : mh_CT yX5_hangingOn cX5_hangingOn 5 (some .long) (mh_rm 3) (SHX into) I L [.ref 0, .int p1] (mh_ret (some (.long res)) (SHX into) I L) := by
  refine mh_ofW (ini := false) RX5 rfl (by decide) (fun h => by cases h) (Nat.le_of_ble_eq_true rfl) ?_
  show w_X5_hangingOn (SHX into) (mh_ret (some (.long res)) (SHX into) I L) I L 0 [(0, .ref 0), (1, .int p1)] []
  unfold X5_hangingOn at h
  refine mw_lconst (v := 0) dX5_hangingOn_0 (by decide) ?_
  refine mw_lstore_n dX5_hangingOn_1 (by decide) rfl ?_
  refine mw_iload_n dX5_hangingOn_2 2 rfl ?_
  refine mw_iconst (v := 1) dX5_hangingOn_3 (by decide) ?_
  refine mw_iadd dX5_hangingOn_4 ?_
  obtain ⟨b1, eb1, h⟩ := mh_b_some h
  refine mw_nmi eb1 ?_
  refine mw_istore dX5_hangingOn_5 (by decide) rfl ?_
  refine mw_loc [2, 3, 1, 0] rfl ?_
  exact t_X5_hangingOn_l7  _ _ _ h 
abbrev w_X5_bearing (sh : List mh_C) (Φ : mh_P) (I : mh_I) (L : mh_L) (pc : Nat) (lv : List (Nat × Value)) (st : List Value) : Prop := mh_W RX5 cX5_bearing 5 (some .long) false (mh_rm 2) 46 0 0 mh_noX Φ 0 sh I L pc lv st
def X5_bearing_l7 (u1 : Int32) (I : mh_I) : Nat → Int64 → Int32 → Option (Int64)
  | 0, _, _ => none
  | n + 1, u2, u4 => if u4 < 0 then some u2 else (X1_over 1 u4 I).bind (fun q2 => (X5_bit u1).bind (fun q3 => mh_j (fun (v4 : Int64) => mh_b (u4 + (-1 : Int32)) (fun b9 => (X5_bearing_l7 u1 I n v4 b9))) (fun J5 => if (lg_cmp (q2 &&& (u2 ||| q3)) (0 : Int64)) = 0 then (J5 u2) else (X5_bit u4).bind (fun q6 => mh_b (u2 ||| q6) (fun b7 => (J5 b7))))))
set_option maxHeartbeats 4000000 in
set_option maxRecDepth 100000 in
theorem t_X5_bearing_l7 {into : Option Nat} {u1 : Int32} {I : mh_I} {L : mh_L} {res : Int64} (n : Nat) (u2 : Int64) (u4 : Int32) (h : X5_bearing_l7 u1 I n u2 u4 = some res)  : w_X5_bearing (SHX into) (mh_ret (some (.long res)) (SHX into) I L) I L 7 [(0, .ref 0), (1, .int u1), (2, .long u2), (4, .int u4)] [] := by
  induction n generalizing u2 u4 with
  | zero => rw [X5_bearing_l7] at h; cases h
  | succ n ih =>
    rw [X5_bearing_l7] at h
    refine mw_iload dX5_bearing_7 3 rfl ?_
    refine mw_if_lt (tgt := 47) dX5_bearing_9 (by decide) (fun hc10 => ?_) (fun hc10 => ?_)
    · replace h := mh_ifp hc10 h
      refine mw_lload_n dX5_bearing_47 2 rfl ?_
      obtain rfl := Option.some.inj h
      exact mw_lret dX5_bearing_48 rfl (Nat.le_of_ble_eq_true rfl) (Nat.le_refl 0) mh_ret_rfl
    · replace h := mh_ifn hc10 h
      refine mw_aload_n dX5_bearing_12 0 rfl ?_
      refine mw_getr (b := 1) (fs := fsX5) gf_X5_10 dX5_bearing_13 rfl rfl ?_
      refine mw_iload dX5_bearing_16 3 rfl ?_
      obtain ⟨q2, hq2, h⟩ := mh_bind h
      refine mw_vr (dc := 1) (ci := 1) (fs := (fsX1 1)) (T := TX1) (N := 5) cv_X5_151 wd_422 dX5_bearing_18 [.int u4] [.int u4, .ref 1] rfl rfl (sx_piece into).1 rfl (t_X1_over (sx_piece into) hq2) ⟨by decide, by decide⟩ (Nat.le_of_ble_eq_true rfl) ⟨rfl, rfl⟩ ?_
      refine mw_lload_n dX5_bearing_21 2 rfl ?_
      refine mw_iload_n dX5_bearing_22 1 rfl ?_
      obtain ⟨q3, hq3, h⟩ := mh_bind h
      refine mw_sr (dc := 0) cs_X5_143 wd_412 dX5_bearing_23 [.int u1] [.int u1, .long u2, .long q2] rfl rfl (t_X5_bit hq3) ⟨by decide, by decide⟩ (Nat.le_of_ble_eq_true rfl) ⟨rfl, rfl⟩ ?_
      refine mw_lor dX5_bearing_26 ?_
      refine mw_land dX5_bearing_27 ?_
      refine mw_lconst (v := 0) dX5_bearing_28 (by decide) ?_
      refine mw_lcmp dX5_bearing_29 ?_
      refine mh_jw (fun J5 => ∀ (v4 : Int64), J5 v4 = some res → w_X5_bearing (SHX into) (mh_ret (some (.long res)) (SHX into) I L) I L 41 [(0, .ref 0), (1, .int u1), (2, .long v4), (4, .int u4)] []) h (fun v4 h => ?_) (fun J5 hJ5 h => ?_)
      · obtain ⟨b9, eb9, h⟩ := mh_b_some h
        refine mw_iinc (v := b9) dX5_bearing_41 3 rfl (by rw [← eb9]; rfl) (by decide) rfl ?_
        refine mw_goto (tgt := 7) dX5_bearing_44 (by decide) ?_
        refine mw_loc [1, 2, 3, 0] rfl ?_
        exact ih _ _ h
      · refine mw_if_eq (tgt := 41) dX5_bearing_30 (by decide) (fun hc8 => ?_) (fun hc8 => ?_)
        · replace h := mh_ifp hc8 h
          refine mw_loc [0, 1, 2, 3] rfl ?_
          exact hJ5 _ h
        · replace h := mh_ifn hc8 h
          refine mw_lload_n dX5_bearing_33 2 rfl ?_
          refine mw_iload dX5_bearing_34 3 rfl ?_
          obtain ⟨q6, hq6, h⟩ := mh_bind h
          refine mw_sr (dc := 0) cs_X5_143 wd_412 dX5_bearing_36 [.int u4] [.int u4, .long u2] rfl rfl (t_X5_bit hq6) ⟨by decide, by decide⟩ (Nat.le_of_ble_eq_true rfl) ⟨rfl, rfl⟩ ?_
          refine mw_lor dX5_bearing_39 ?_
          obtain ⟨b7, eb7, h⟩ := mh_b_some h
          refine mw_nml eb7 ?_
          refine mw_lstore_n dX5_bearing_40 (by decide) rfl ?_
          refine mw_loc [1, 2, 0, 3] rfl ?_
          exact hJ5 _ h
def X5_bearing (p1 : Int32) (I : mh_I) : Option (Int64) := mh_b (p1 - (1 : Int32)) (fun b1 => X5_bearing_l7 p1 I mh_fuel (0 : Int64) b1)
set_option maxHeartbeats 4000000 in
set_option maxRecDepth 100000 in
theorem t_X5_bearing {into : Option Nat} {L : mh_L} {I : mh_I} {p1 : Int32} {res : Int64} (h : X5_bearing p1 I = some res) : mh_CT yX5_bearing cX5_bearing 5 (some .long) (mh_rm 2) (SHX into) I L [.ref 0, .int p1] (mh_ret (some (.long res)) (SHX into) I L) := by
  refine mh_ofW (ini := false) RX5 rfl (by decide) (fun h => by cases h) (Nat.le_of_ble_eq_true rfl) ?_
  show w_X5_bearing (SHX into) (mh_ret (some (.long res)) (SHX into) I L) I L 0 [(0, .ref 0), (1, .int p1)] []
  unfold X5_bearing at h
  refine mw_lconst (v := 0) dX5_bearing_0 (by decide) ?_
  refine mw_lstore_n dX5_bearing_1 (by decide) rfl ?_
  refine mw_iload_n dX5_bearing_2 2 rfl ?_
  refine mw_iconst (v := 1) dX5_bearing_3 (by decide) ?_
  refine mw_isub dX5_bearing_4 ?_
  obtain ⟨b1, eb1, h⟩ := mh_b_some h
  refine mw_nmi eb1 ?_
  refine mw_istore dX5_bearing_5 (by decide) rfl ?_
  refine mw_loc [2, 3, 1, 0] rfl ?_
  exact t_X5_bearing_l7  _ _ _ h 
abbrev w_X5_hangs (sh : List mh_C) (Φ : mh_P) (I : mh_I) (L : mh_L) (pc : Nat) (lv : List (Nat × Value)) (st : List Value) : Prop := mh_W RX5 cX5_hangs 3 (some .long) false (mh_rm 4) 46 0 0 mh_noX Φ 0 sh I L pc lv st
def X5_hangs (p1 : Int32) (p2 : Int32) (I : mh_I) : Option (Int64) := (X5_isLoop p1).bind (fun q1 => if q1 = 0 then some (-4611686018427387904 : Int64) else if p2 = 0 then (X1_over 1 p1 I).bind (fun q3 => some q3) else if p2 = 1 then (X5_hangingOn p1 I).bind (fun q5 => some q5) else if p2 = 2 then (X5_bearing p1 I).bind (fun q7 => some q7) else some (-4611686018427387904 : Int64))
set_option maxHeartbeats 4000000 in
set_option maxRecDepth 100000 in
theorem t_X5_hangs {into : Option Nat} {L : mh_L} {I : mh_I} {p1 : Int32} {p2 : Int32} {res : Int64} (h : X5_hangs p1 p2 I = some res) : mh_CT yX5_hangs cX5_hangs 3 (some .long) (mh_rm 4) (SHX into) I L [.ref 0, .int p1, .int p2] (mh_ret (some (.long res)) (SHX into) I L) := by
  refine mh_ofW (ini := false) RX5 rfl (by decide) (fun h => by cases h) (Nat.le_of_ble_eq_true rfl) ?_
  show w_X5_hangs (SHX into) (mh_ret (some (.long res)) (SHX into) I L) I L 0 [(0, .ref 0), (1, .int p1), (2, .int p2)] []
  unfold X5_hangs at h
  refine mw_iload_n dX5_hangs_0 1 rfl ?_
  obtain ⟨q1, hq1, h⟩ := mh_bind h
  refine mw_sz (dc := 1) cs_X5_101 wd_329 dX5_hangs_1 [.int p1] [.int p1] rfl rfl (t_X5_isLoop hq1) ⟨by decide, by decide⟩ (Nat.le_of_ble_eq_true rfl) ⟨rfl, rfl⟩ (fun zq1 => ?_)
  refine mw_if_ne (tgt := 11) dX5_hangs_4 (by decide) (fun hc8 => ?_) (fun hc8 => ?_)
  · replace h := mh_ifn hc8 h
    refine mw_iload_n dX5_hangs_11 2 rfl ?_
    by_cases hc2 : p2 = 0
    · replace h := mh_ifp hc2 h
      refine mw_tableIn (off := 28) (tgt := 40) dX5_hangs_12 (by rw [hc2]; decide) (by rw [hc2]; decide) (by rw [hc2]; rfl) (by decide) ?_
      refine mw_aload_n dX5_hangs_40 0 rfl ?_
      refine mw_getr (b := 1) (fs := fsX5) gf_X5_10 dX5_hangs_41 rfl rfl ?_
      refine mw_iload_n dX5_hangs_44 1 rfl ?_
      obtain ⟨q3, hq3, h⟩ := mh_bind h
      refine mw_vr (dc := 1) (ci := 1) (fs := (fsX1 1)) (T := TX1) (N := 5) cv_X5_151 wd_422 dX5_hangs_45 [.int p1] [.int p1, .ref 1] rfl rfl (sx_piece into).1 rfl (t_X1_over (sx_piece into) hq3) ⟨by decide, by decide⟩ (Nat.le_of_ble_eq_true rfl) ⟨rfl, rfl⟩ ?_
      obtain rfl := Option.some.inj h
      exact mw_lret dX5_hangs_48 rfl (Nat.le_of_ble_eq_true rfl) (Nat.le_refl 0) mh_ret_rfl
    · replace h := mh_ifn hc2 h
      by_cases hc4 : p2 = 1
      · replace h := mh_ifp hc4 h
        refine mw_tableIn (off := 37) (tgt := 49) dX5_hangs_12 (by rw [hc4]; decide) (by rw [hc4]; decide) (by rw [hc4]; rfl) (by decide) ?_
        refine mw_aload_n dX5_hangs_49 0 rfl ?_
        refine mw_iload_n dX5_hangs_50 1 rfl ?_
        obtain ⟨q5, hq5, h⟩ := mh_bind h
        refine mw_vr (dc := 3) (ci := 5) (fs := fsX5) (T := TX5) (N := 9) cv_X5_154 wd_427 dX5_hangs_51 [.int p1] [.int p1, .ref 0] rfl rfl rfl rfl (t_X5_hangingOn hq5) ⟨by decide, by decide⟩ (Nat.le_of_ble_eq_true rfl) ⟨rfl, rfl⟩ ?_
        obtain rfl := Option.some.inj h
        exact mw_lret dX5_hangs_54 rfl (Nat.le_of_ble_eq_true rfl) (Nat.le_refl 0) mh_ret_rfl
      · replace h := mh_ifn hc4 h
        by_cases hc6 : p2 = 2
        · replace h := mh_ifp hc6 h
          refine mw_tableIn (off := 43) (tgt := 55) dX5_hangs_12 (by rw [hc6]; decide) (by rw [hc6]; decide) (by rw [hc6]; rfl) (by decide) ?_
          refine mw_aload_n dX5_hangs_55 0 rfl ?_
          refine mw_iload_n dX5_hangs_56 1 rfl ?_
          obtain ⟨q7, hq7, h⟩ := mh_bind h
          refine mw_vr (dc := 2) (ci := 5) (fs := fsX5) (T := TX5) (N := 9) cv_X5_157 wd_436 dX5_hangs_57 [.int p1] [.int p1, .ref 0] rfl rfl rfl rfl (t_X5_bearing hq7) ⟨by decide, by decide⟩ (Nat.le_of_ble_eq_true rfl) ⟨rfl, rfl⟩ ?_
          obtain rfl := Option.some.inj h
          exact mw_lret dX5_hangs_60 rfl (Nat.le_of_ble_eq_true rfl) (Nat.le_refl 0) mh_ret_rfl
        · replace h := mh_ifn hc6 h
          refine mw_tableOut (tgt := 61) dX5_hangs_12 (by have e0 := mh_ne (n := 0) hc2 (by decide); have e1 := mh_ne (n := 1) hc4 (by decide); have e2 := mh_ne (n := 2) hc6 (by decide); omega) (by decide) ?_
          refine mw_ldc2 dX5_hangs_61 wd_418 ?_
          obtain rfl := Option.some.inj h
          exact mw_lret dX5_hangs_64 rfl (Nat.le_of_ble_eq_true rfl) (Nat.le_refl 0) mh_ret_rfl
  · replace h := mh_ifp hc8 h
    refine mw_ldc2 dX5_hangs_7 wd_418 ?_
    obtain rfl := Option.some.inj h
    exact mw_lret dX5_hangs_10 rfl (Nat.le_of_ble_eq_true rfl) (Nat.le_refl 0) mh_ret_rfl
abbrev w_X5_loose (sh : List mh_C) (Φ : mh_P) (I : mh_I) (L : mh_L) (pc : Nat) (lv : List (Nat × Value)) (st : List Value) : Prop := mh_W RX5 cX5_loose 4 (some .long) false (mh_rm 2) 46 0 0 mh_noX Φ 0 sh I L pc lv st
def X5_loose_l4 (I : mh_I) (L : mh_L) : Nat → Int64 → Int32 → Option (Int64)
  | 0, _, _ => none
  | n + 1, u1, u3 => if (42 : Int32) ≤ u3 then some u1 else (X1_over 1 u3 I).bind (fun q1 => mh_j (fun (v2 : Int64) => mh_b (u3 + (1 : Int32)) (fun b9 => (X5_loose_l4 I L n v2 b9))) (fun J3 => if (lg_cmp q1 (0 : Int64)) = 0 then (X1_keeps 1 u3 I L).bind (fun q4 => if q4 = 0 then (X5_bit u3).bind (fun q5 => mh_b (u1 ||| q5) (fun b6 => (J3 b6))) else (J3 u1)) else (J3 u1)))
set_option maxHeartbeats 4000000 in
set_option maxRecDepth 100000 in
theorem t_X5_loose_l4 {into : Option Nat} {I : mh_I} {L : mh_L} {res : Int64} (n : Nat) (u1 : Int64) (u3 : Int32) (h : X5_loose_l4 I L n u1 u3 = some res)  : w_X5_loose (SHX into) (mh_ret (some (.long res)) (SHX into) I L) I L 4 [(0, .ref 0), (1, .long u1), (3, .int u3)] [] := by
  induction n generalizing u1 u3 with
  | zero => rw [X5_loose_l4] at h; cases h
  | succ n ih =>
    rw [X5_loose_l4] at h
    refine mw_iload_n dX5_loose_4 2 rfl ?_
    refine mw_bipush (v := 42) dX5_loose_5 (by decide) ?_
    refine mw_icmp_ge (tgt := 47) dX5_loose_7 (by decide) (fun hc10 => ?_) (fun hc10 => ?_)
    · replace h := mh_ifp hc10 h
      refine mw_lload_n dX5_loose_47 1 rfl ?_
      obtain rfl := Option.some.inj h
      exact mw_lret dX5_loose_48 rfl (Nat.le_of_ble_eq_true rfl) (Nat.le_refl 0) mh_ret_rfl
    · replace h := mh_ifn hc10 h
      refine mw_aload_n dX5_loose_10 0 rfl ?_
      refine mw_getr (b := 1) (fs := fsX5) gf_X5_10 dX5_loose_11 rfl rfl ?_
      refine mw_iload_n dX5_loose_14 2 rfl ?_
      obtain ⟨q1, hq1, h⟩ := mh_bind h
      refine mw_vr (dc := 1) (ci := 1) (fs := (fsX1 1)) (T := TX1) (N := 5) cv_X5_151 wd_422 dX5_loose_15 [.int u3] [.int u3, .ref 1] rfl rfl (sx_piece into).1 rfl (t_X1_over (sx_piece into) hq1) ⟨by decide, by decide⟩ (Nat.le_of_ble_eq_true rfl) ⟨rfl, rfl⟩ ?_
      refine mw_lconst (v := 0) dX5_loose_18 (by decide) ?_
      refine mw_lcmp dX5_loose_19 ?_
      refine mh_jw (fun J3 => ∀ (v2 : Int64), J3 v2 = some res → w_X5_loose (SHX into) (mh_ret (some (.long res)) (SHX into) I L) I L 41 [(0, .ref 0), (1, .long v2), (3, .int u3)] []) h (fun v2 h => ?_) (fun J3 hJ3 h => ?_)
      · obtain ⟨b9, eb9, h⟩ := mh_b_some h
        refine mw_iinc (v := b9) dX5_loose_41 2 rfl (by rw [← eb9]; rfl) (by decide) rfl ?_
        refine mw_goto (tgt := 4) dX5_loose_44 (by decide) ?_
        refine mw_loc [1, 2, 0] rfl ?_
        exact ih _ _ h
      · refine mw_if_ne (tgt := 41) dX5_loose_20 (by decide) (fun hc8 => ?_) (fun hc8 => ?_)
        · replace h := mh_ifn hc8 h
          refine mw_loc [0, 1, 2] rfl ?_
          exact hJ3 _ h
        · replace h := mh_ifp hc8 h
          refine mw_aload_n dX5_loose_23 0 rfl ?_
          refine mw_getr (b := 1) (fs := fsX5) gf_X5_10 dX5_loose_24 rfl rfl ?_
          refine mw_iload_n dX5_loose_27 2 rfl ?_
          obtain ⟨q4, hq4, h⟩ := mh_bind h
          refine mw_vz (dc := 1) (ci := 1) (fs := (fsX1 1)) (T := TX1) (N := 5) cv_X5_160 wd_444 dX5_loose_28 [.int u3] [.int u3, .ref 1] rfl rfl (sx_piece into).1 rfl (t_X1_keeps (sx_piece into) hq4) ⟨by decide, by decide⟩ (Nat.le_of_ble_eq_true rfl) ⟨rfl, rfl⟩ (fun zq4 => ?_)
          refine mw_if_ne (tgt := 41) dX5_loose_31 (by decide) (fun hc7 => ?_) (fun hc7 => ?_)
          · replace h := mh_ifn hc7 h
            refine mw_loc [0, 1, 2] rfl ?_
            exact hJ3 _ h
          · replace h := mh_ifp hc7 h
            refine mw_lload_n dX5_loose_34 1 rfl ?_
            refine mw_iload_n dX5_loose_35 2 rfl ?_
            obtain ⟨q5, hq5, h⟩ := mh_bind h
            refine mw_sr (dc := 0) cs_X5_143 wd_412 dX5_loose_36 [.int u3] [.int u3, .long u1] rfl rfl (t_X5_bit hq5) ⟨by decide, by decide⟩ (Nat.le_of_ble_eq_true rfl) ⟨rfl, rfl⟩ ?_
            refine mw_lor dX5_loose_39 ?_
            obtain ⟨b6, eb6, h⟩ := mh_b_some h
            refine mw_nml eb6 ?_
            refine mw_lstore_n dX5_loose_40 (by decide) rfl ?_
            refine mw_loc [1, 0, 2] rfl ?_
            exact hJ3 _ h
def X5_loose (I : mh_I) (L : mh_L) : Option (Int64) := X5_loose_l4 I L mh_fuel (0 : Int64) (0 : Int32)
set_option maxHeartbeats 4000000 in
set_option maxRecDepth 100000 in
theorem t_X5_loose {into : Option Nat} {L : mh_L} {I : mh_I} {res : Int64} (h : X5_loose I L = some res) : mh_CT yX5_loose cX5_loose 4 (some .long) (mh_rm 2) (SHX into) I L [.ref 0] (mh_ret (some (.long res)) (SHX into) I L) := by
  refine mh_ofW (ini := false) RX5 rfl (by decide) (fun h => by cases h) (Nat.le_of_ble_eq_true rfl) ?_
  show w_X5_loose (SHX into) (mh_ret (some (.long res)) (SHX into) I L) I L 0 [(0, .ref 0)] []
  unfold X5_loose at h
  refine mw_lconst (v := 0) dX5_loose_0 (by decide) ?_
  refine mw_lstore_n dX5_loose_1 (by decide) rfl ?_
  refine mw_iconst (v := 0) dX5_loose_2 (by decide) ?_
  refine mw_istore_n dX5_loose_3 (by decide) rfl ?_
  refine mw_loc [2, 1, 0] rfl ?_
  exact t_X5_loose_l4  _ _ _ h 
abbrev w_X5_back (sh : List mh_C) (Φ : mh_P) (I : mh_I) (L : mh_L) (pc : Nat) (lv : List (Nat × Value)) (st : List Value) : Prop := mh_W RX5 cX5_back 2 (some .int) false (mh_rm 4) 46 0 0 mh_noX Φ 0 sh I L pc lv st
def X5_back (p1 : Int32) (I : mh_I) : Option (Int32) := (X5_isLoop p1).bind (fun q1 => if q1 = 0 then some (-5 : Int32) else (X5_hangingOn p1 I).bind (fun q2 => (J13_bitCount_95d88 q2).bind (fun q3 => some ((1 : Int32) + q3))))
set_option maxHeartbeats 4000000 in
set_option maxRecDepth 100000 in
theorem t_X5_back {into : Option Nat} {L : mh_L} {I : mh_I} {p1 : Int32} {res : Int32} (h : X5_back p1 I = some res) : mh_CT yX5_back cX5_back 2 (some .int) (mh_rm 4) (SHX into) I L [.ref 0, .int p1] (mh_ret (some (.int res)) (SHX into) I L) := by
  refine mh_ofW (ini := false) RX5 rfl (by decide) (fun h => by cases h) (Nat.le_of_ble_eq_true rfl) ?_
  show w_X5_back (SHX into) (mh_ret (some (.int res)) (SHX into) I L) I L 0 [(0, .ref 0), (1, .int p1)] []
  unfold X5_back at h
  refine mw_iload_n dX5_back_0 1 rfl ?_
  obtain ⟨q1, hq1, h⟩ := mh_bind h
  refine mw_sz (dc := 1) cs_X5_101 wd_329 dX5_back_1 [.int p1] [.int p1] rfl rfl (t_X5_isLoop hq1) ⟨by decide, by decide⟩ (Nat.le_of_ble_eq_true rfl) ⟨rfl, rfl⟩ (fun zq1 => ?_)
  refine mw_if_eq (tgt := 20) dX5_back_4 (by decide) (fun hc4 => ?_) (fun hc4 => ?_)
  · replace h := mh_ifp hc4 h
    refine mw_bipush (v := -5) dX5_back_20 (by decide) ?_
    obtain rfl := Option.some.inj h
    exact mw_iret dX5_back_22 rfl rfl (Nat.le_of_ble_eq_true rfl) (Nat.le_refl 0) mh_ret_rfl
  · replace h := mh_ifn hc4 h
    refine mw_iconst (v := 1) dX5_back_7 (by decide) ?_
    refine mw_aload_n dX5_back_8 0 rfl ?_
    refine mw_iload_n dX5_back_9 1 rfl ?_
    obtain ⟨q2, hq2, h⟩ := mh_bind h
    refine mw_vr (dc := 3) (ci := 5) (fs := fsX5) (T := TX5) (N := 9) cv_X5_154 wd_427 dX5_back_10 [.int p1] [.int p1, .ref 0, .int (1 : Int32)] rfl rfl rfl rfl (t_X5_hangingOn hq2) ⟨by decide, by decide⟩ (Nat.le_of_ble_eq_true rfl) ⟨rfl, rfl⟩ ?_
    obtain ⟨q3, hq3, h⟩ := mh_bind h
    refine mw_sr (dc := 0) cs_X5_74 wd_303 dX5_back_13 [.long q2] [.long q2, .int (1 : Int32)] rfl rfl (t_J13_bitCount_95d88 hq3) ⟨by decide, by decide⟩ (Nat.le_of_ble_eq_true rfl) ⟨rfl, rfl⟩ ?_
    refine mw_iadd dX5_back_16 ?_
    refine mw_goto (tgt := 22) dX5_back_17 (by decide) ?_
    obtain rfl := Option.some.inj h
    exact mw_iret dX5_back_22 rfl rfl (Nat.le_of_ble_eq_true rfl) (Nat.le_refl 0) mh_ret_rfl
abbrev w_X5_drop (sh : List mh_C) (Φ : mh_P) (I : mh_I) (L : mh_L) (pc : Nat) (lv : List (Nat × Value)) (st : List Value) : Prop := mh_W RX5 cX5_drop 3 (some .int) false (mh_rm 5) 46 0 0 mh_noX Φ 0 sh I L pc lv st
def X5_drop (p1 : Int32) (p2 : Int32) (I : mh_I) (L : mh_L) : Option (Int32 × mh_I × mh_L) := (X5_law I).bind (fun q1 => (X5_bit p1).bind (fun q2 => (X0_runFrom 10 1 q1 q2 (0 : Int64) p2 I L).bind (fun q3 => some (q3.1, q3.2.1, q3.2.2))))
set_option maxHeartbeats 4000000 in
set_option maxRecDepth 100000 in
theorem t_X5_drop {into : Option Nat} {L : mh_L} {I : mh_I} {p1 : Int32} {p2 : Int32} {res : Int32 × mh_I × mh_L} (h : X5_drop p1 p2 I L = some res) : mh_CT yX5_drop cX5_drop 3 (some .int) (mh_rm 5) (SHX into) I L [.ref 0, .int p1, .int p2] (mh_ret (some (.int res.1)) (SHX into) res.2.1 res.2.2) := by
  refine mh_ofW (ini := false) RX5 rfl (by decide) (fun h => by cases h) (Nat.le_of_ble_eq_true rfl) ?_
  show w_X5_drop (SHX into) (mh_ret (some (.int res.1)) (SHX into) res.2.1 res.2.2) I L 0 [(0, .ref 0), (1, .int p1), (2, .int p2)] []
  unfold X5_drop at h
  refine mw_aload_n dX5_drop_0 0 rfl ?_
  refine mw_getr (b := 10) (fs := fsX5) gf_X5_35 dX5_drop_1 rfl rfl ?_
  refine mw_aload_n dX5_drop_4 0 rfl ?_
  refine mw_getr (b := 1) (fs := fsX5) gf_X5_10 dX5_drop_5 rfl rfl ?_
  refine mw_aload_n dX5_drop_8 0 rfl ?_
  obtain ⟨q1, hq1, h⟩ := mh_bind h
  refine mw_vr (dc := 0) (ci := 5) (fs := fsX5) (T := TX5) (N := 9) cv_X5_107 wd_336 dX5_drop_9 [] [.ref 0, .ref 1, .ref 10] rfl rfl rfl rfl (t_X5_law hq1) ⟨by decide, by decide⟩ (Nat.le_of_ble_eq_true rfl) ⟨rfl, rfl⟩ ?_
  refine mw_iload_n dX5_drop_12 1 rfl ?_
  obtain ⟨q2, hq2, h⟩ := mh_bind h
  refine mw_sr (dc := 0) cs_X5_143 wd_412 dX5_drop_13 [.int p1] [.int p1, .ref q1, .ref 1, .ref 10] rfl rfl (t_X5_bit hq2) ⟨by decide, by decide⟩ (Nat.le_of_ble_eq_true rfl) ⟨rfl, rfl⟩ ?_
  refine mw_lconst (v := 0) dX5_drop_16 (by decide) ?_
  refine mw_iload_n dX5_drop_17 2 rfl ?_
  obtain ⟨q3, hq3, h⟩ := mh_bind h
  refine mw_vr (dc := 4) (ci := 0) (fs := (fsX0 10)) (T := TX0) (N := 3) cv_X5_182 wd_461 dX5_drop_18 [.ref 1, .ref q1, .long q2, .long (0 : Int64), .int p2] [.int p2, .long (0 : Int64), .long q2, .ref q1, .ref 1, .ref 10] rfl rfl (sx_fall into).1 rfl (t_X0_runFrom (sx_fall into) (sx_piece into) (t_X5_law_fact hq1) hq3) ⟨by decide, by decide⟩ (Nat.le_of_ble_eq_true rfl) ⟨rfl, rfl⟩ ?_
  obtain rfl := Option.some.inj h
  exact mw_iret dX5_drop_21 rfl rfl (Nat.le_of_ble_eq_true rfl) (Nat.le_refl 0) mh_ret_rfl
abbrev w_X5_lowestRow (sh : List mh_C) (Φ : mh_P) (I : mh_I) (L : mh_L) (pc : Nat) (lv : List (Nat × Value)) (st : List Value) : Prop := mh_W RX5 cX5_lowestRow 1 (some .int) false (mh_rm 2) 46 0 0 mh_noX Φ 0 sh I L pc lv st
def X5_lowestRow (L : mh_L) : Option (Int32) := if (lg_cmp (L 10 1) (0 : Int64)) = 0 then some (-1 : Int32) else (J13_numberOfTrailingZeros_95d88 (L 10 1)).bind (fun q1 => some (q1 / (6 : Int32)))
set_option maxHeartbeats 4000000 in
set_option maxRecDepth 100000 in
theorem t_X5_lowestRow {into : Option Nat} {L : mh_L} {I : mh_I} {res : Int32} (h : X5_lowestRow L = some res) : mh_CT yX5_lowestRow cX5_lowestRow 1 (some .int) (mh_rm 2) (SHX into) I L [.ref 0] (mh_ret (some (.int res)) (SHX into) I L) := by
  refine mh_ofW (ini := false) RX5 rfl (by decide) (fun h => by cases h) (Nat.le_of_ble_eq_true rfl) ?_
  show w_X5_lowestRow (SHX into) (mh_ret (some (.int res)) (SHX into) I L) I L 0 [(0, .ref 0)] []
  unfold X5_lowestRow at h
  refine mw_aload_n dX5_lowestRow_0 0 rfl ?_
  refine mw_getr (b := 10) (fs := fsX5) gf_X5_35 dX5_lowestRow_1 rfl rfl ?_
  refine mw_getl (fs := (fsX0 10)) gf_X5_167 dX5_lowestRow_4 (sx_fall into).1 rfl ?_
  refine mw_lconst (v := 0) dX5_lowestRow_7 (by decide) ?_
  refine mw_lcmp dX5_lowestRow_8 ?_
  refine mw_if_ne (tgt := 16) dX5_lowestRow_9 (by decide) (fun hc2 => ?_) (fun hc2 => ?_)
  · replace h := mh_ifn hc2 h
    refine mw_aload_n dX5_lowestRow_16 0 rfl ?_
    refine mw_getr (b := 10) (fs := fsX5) gf_X5_35 dX5_lowestRow_17 rfl rfl ?_
    refine mw_getl (fs := (fsX0 10)) gf_X5_167 dX5_lowestRow_20 (sx_fall into).1 rfl ?_
    obtain ⟨q1, hq1, h⟩ := mh_bind h
    refine mw_sr (dc := 1) cs_X5_284 wd_483 dX5_lowestRow_23 [.long (L 10 1)] [.long (L 10 1)] rfl rfl (t_J13_numberOfTrailingZeros_95d88 hq1) ⟨by decide, by decide⟩ (Nat.le_of_ble_eq_true rfl) ⟨rfl, rfl⟩ ?_
    refine mw_bipush (v := 6) dX5_lowestRow_26 (by decide) ?_
    refine mw_idiv dX5_lowestRow_28 (by decide) ?_
    obtain rfl := Option.some.inj h
    exact mw_iret dX5_lowestRow_29 rfl rfl (Nat.le_of_ble_eq_true rfl) (Nat.le_refl 0) mh_ret_rfl
  · replace h := mh_ifp hc2 h
    refine mw_iconst (v := -1) dX5_lowestRow_12 (by decide) ?_
    refine mw_goto (tgt := 29) dX5_lowestRow_13 (by decide) ?_
    obtain rfl := Option.some.inj h
    exact mw_iret dX5_lowestRow_29 rfl rfl (Nat.le_of_ble_eq_true rfl) (Nat.le_refl 0) mh_ret_rfl
abbrev w_X5_together (sh : List mh_C) (Φ : mh_P) (I : mh_I) (L : mh_L) (pc : Nat) (lv : List (Nat × Value)) (st : List Value) : Prop := mh_W RX5 cX5_together 4 (some .int) false (mh_rm 3) 46 0 0 mh_noX Φ 0 sh I L pc lv st
def X5_together_l4 (u1 : Int32) (L : mh_L) : Nat → Int32 → Int32 → mh_I → Option (Int32 × mh_I)
  | 0, _, _, _ => none
  | n + 1, u2, u3, I => if (48 : Int32) ≤ u3 then some (u2, I) else (X5_hasBit (L 10 1) u3).bind (fun q1 => mh_j (fun (v2 : Int32) (I3 : mh_I) => mh_b (u3 + (1 : Int32)) (fun b11 => (X5_together_l4 u1 L n v2 b11 I3))) (fun J4 => if q1 = 0 then (J4 u2 I) else (X5_law I).bind (fun q5 => mh_ix u3 48 (fun k6 => (X4_says q5 u1 1 u3 (I 11 k6) I L).bind (fun q8 => mh_b (u2 + q8.1) (fun b9 => (J4 b9 q8.2)))))))
set_option maxHeartbeats 4000000 in
set_option maxRecDepth 100000 in
theorem t_X5_together_l4 {into : Option Nat} {u1 : Int32} {L : mh_L} {res : Int32 × mh_I} (n : Nat) (u2 : Int32) (u3 : Int32) (I : mh_I) (h : X5_together_l4 u1 L n u2 u3 I = some res)  : w_X5_together (SHX into) (mh_ret (some (.int res.1)) (SHX into) res.2 L) I L 4 [(0, .ref 0), (1, .int u1), (2, .int u2), (3, .int u3)] [] := by
  induction n generalizing u2 u3 I with
  | zero => rw [X5_together_l4] at h; cases h
  | succ n ih =>
    rw [X5_together_l4] at h
    refine mw_iload_n dX5_together_4 3 rfl ?_
    refine mw_bipush (v := 48) dX5_together_5 (by decide) ?_
    refine mw_icmp_ge (tgt := 55) dX5_together_7 (by decide) (fun hc12 => ?_) (fun hc12 => ?_)
    · replace h := mh_ifp hc12 h
      refine mw_iload_n dX5_together_55 2 rfl ?_
      obtain rfl := Option.some.inj h
      exact mw_iret dX5_together_56 rfl rfl (Nat.le_of_ble_eq_true rfl) (Nat.le_refl 0) mh_ret_rfl
    · replace h := mh_ifn hc12 h
      refine mw_aload_n dX5_together_10 0 rfl ?_
      refine mw_getr (b := 10) (fs := fsX5) gf_X5_35 dX5_together_11 rfl rfl ?_
      refine mw_getl (fs := (fsX0 10)) gf_X5_167 dX5_together_14 (sx_fall into).1 rfl ?_
      refine mw_iload_n dX5_together_17 3 rfl ?_
      obtain ⟨q1, hq1, h⟩ := mh_bind h
      refine mw_sz (dc := 0) cs_X5_139 wd_357 dX5_together_18 [.long (L 10 1), .int u3] [.int u3, .long (L 10 1)] rfl rfl (t_X5_hasBit hq1) ⟨by decide, by decide⟩ (Nat.le_of_ble_eq_true rfl) ⟨rfl, rfl⟩ (fun zq1 => ?_)
      refine mh_jw (fun J4 => ∀ (v2 : Int32) (I3 : mh_I), J4 v2 I3 = some res → w_X5_together (SHX into) (mh_ret (some (.int res.1)) (SHX into) res.2 L) I3 L 49 [(0, .ref 0), (1, .int u1), (2, .int v2), (3, .int u3)] []) h (fun v2 I3 h => ?_) (fun J4 hJ4 h => ?_)
      · obtain ⟨b11, eb11, h⟩ := mh_b_some h
        refine mw_iinc (v := b11) dX5_together_49 3 rfl (by rw [← eb11]; rfl) (by decide) rfl ?_
        refine mw_goto (tgt := 4) dX5_together_52 (by decide) ?_
        refine mw_loc [1, 2, 3, 0] rfl ?_
        exact ih _ _ _ h
      · refine mw_if_eq (tgt := 49) dX5_together_21 (by decide) (fun hc10 => ?_) (fun hc10 => ?_)
        · replace h := mh_ifp hc10 h
          refine mw_loc [0, 1, 2, 3] rfl ?_
          exact hJ4 _ _ h
        · replace h := mh_ifn hc10 h
          refine mw_iload_n dX5_together_24 2 rfl ?_
          refine mw_aload_n dX5_together_25 0 rfl ?_
          obtain ⟨q5, hq5, h⟩ := mh_bind h
          refine mw_vr (dc := 0) (ci := 5) (fs := fsX5) (T := TX5) (N := 9) cv_X5_107 wd_336 dX5_together_26 [] [.ref 0, .int u2] rfl rfl rfl rfl (t_X5_law hq5) ⟨by decide, by decide⟩ (Nat.le_of_ble_eq_true rfl) ⟨rfl, rfl⟩ ?_
          refine mw_iload_n dX5_together_29 1 rfl ?_
          refine mw_aload_n dX5_together_30 0 rfl ?_
          refine mw_getr (b := 1) (fs := fsX5) gf_X5_10 dX5_together_31 rfl rfl ?_
          refine mw_iload_n dX5_together_34 3 rfl ?_
          refine mw_aload_n dX5_together_35 0 rfl ?_
          refine mw_getr (b := 10) (fs := fsX5) gf_X5_35 dX5_together_36 rfl rfl ?_
          refine mw_getr (b := 11) (fs := (fsX0 10)) gf_X5_179 dX5_together_39 (sx_fall into).1 rfl ?_
          refine mw_iload_n dX5_together_42 3 rfl ?_
          obtain ⟨k6, hk7, hk7n, hk7l, h⟩ := mh_ix_some h
          refine mw_xiald dX5_together_43 (sx_fall into).2 hk7 hk7n ?_
          obtain ⟨q8, hq8, h⟩ := mh_bind h
          refine mw_vr (dc := 2) (ci := 4) (fs := (fsX4 q5)) (T := TX4) (N := 5) cv_X5_110 wd_340 dX5_together_44 [.int u1, .ref 1, .int u3, .int (I 11 k6)] [.int (I 11 k6), .int u3, .ref 1, .int u1, .ref q5, .int u2] rfl rfl (t_X5_law_fact hq5).1 rfl (t_X4_says (t_X5_law_fact hq5) (sx_piece into) hq8) ⟨by decide, by decide⟩ (Nat.le_of_ble_eq_true rfl) ⟨rfl, rfl⟩ ?_
          refine mw_iadd dX5_together_47 ?_
          obtain ⟨b9, eb9, h⟩ := mh_b_some h
          refine mw_nmi eb9 ?_
          refine mw_istore_n dX5_together_48 (by decide) rfl ?_
          refine mw_loc [1, 2, 0, 3] rfl ?_
          exact hJ4 _ _ h
def X5_together (p1 : Int32) (I : mh_I) (L : mh_L) : Option (Int32 × mh_I) := X5_together_l4 p1 L mh_fuel (0 : Int32) (0 : Int32) I
set_option maxHeartbeats 4000000 in
set_option maxRecDepth 100000 in
theorem t_X5_together {into : Option Nat} {L : mh_L} {I : mh_I} {p1 : Int32} {res : Int32 × mh_I} (h : X5_together p1 I L = some res) : mh_CT yX5_together cX5_together 4 (some .int) (mh_rm 3) (SHX into) I L [.ref 0, .int p1] (mh_ret (some (.int res.1)) (SHX into) res.2 L) := by
  refine mh_ofW (ini := false) RX5 rfl (by decide) (fun h => by cases h) (Nat.le_of_ble_eq_true rfl) ?_
  show w_X5_together (SHX into) (mh_ret (some (.int res.1)) (SHX into) res.2 L) I L 0 [(0, .ref 0), (1, .int p1)] []
  unfold X5_together at h
  refine mw_iconst (v := 0) dX5_together_0 (by decide) ?_
  refine mw_istore_n dX5_together_1 (by decide) rfl ?_
  refine mw_iconst (v := 0) dX5_together_2 (by decide) ?_
  refine mw_istore_n dX5_together_3 (by decide) rfl ?_
  refine mw_loc [2, 3, 1, 0] rfl ?_
  exact t_X5_together_l4  _ _ _ _ h 
abbrev w_X5_run (sh : List mh_C) (Φ : mh_P) (I : mh_I) (L : mh_L) (pc : Nat) (lv : List (Nat × Value)) (st : List Value) : Prop := mh_W RX5 cX5_run 4 (some .int) false (mh_rm 6) 46 0 0 mh_noX Φ 0 sh I L pc lv st
def X5_run (p1 : Int32) (p2 : Int32) (p3 : Int32) (I : mh_I) (L : mh_L) : Option (Int32 × mh_I × mh_L) := (X5_isLoop p1).bind (fun q1 => if q1 = 0 then some ((-5 : Int32), I, L) else (X5_isPull p2).bind (fun q2 => if q2 = 0 then some ((-7 : Int32), I, L) else (X5_within p3 (0 : Int32) (3 : Int32)).bind (fun q3 => if q3 = 0 then some ((-7 : Int32), I, L) else (X5_drop p1 p2 I L).bind (fun q4 => if p3 = 0 then (J13_bitCount_95d88 (q4.2.2 10 1)).bind (fun q6 => some (q6, q4.2.1, q4.2.2)) else if p3 = 1 then (X5_lowestRow q4.2.2).bind (fun q8 => some (q8, q4.2.1, q4.2.2)) else if p3 = 2 then (X5_together (1 : Int32) q4.2.1 q4.2.2).bind (fun q10 => some (q10.1, q10.2, q4.2.2)) else (X5_together (2 : Int32) q4.2.1 q4.2.2).bind (fun q11 => some (q11.1, q11.2, q4.2.2))))))
set_option maxHeartbeats 4000000 in
set_option maxRecDepth 100000 in
theorem t_X5_run {into : Option Nat} {L : mh_L} {I : mh_I} {p1 : Int32} {p2 : Int32} {p3 : Int32} {res : Int32 × mh_I × mh_L} (h : X5_run p1 p2 p3 I L = some res) : mh_CT yX5_run cX5_run 4 (some .int) (mh_rm 6) (SHX into) I L [.ref 0, .int p1, .int p2, .int p3] (mh_ret (some (.int res.1)) (SHX into) res.2.1 res.2.2) := by
  refine mh_ofW (ini := false) RX5 rfl (by decide) (fun h => by cases h) (Nat.le_of_ble_eq_true rfl) ?_
  show w_X5_run (SHX into) (mh_ret (some (.int res.1)) (SHX into) res.2.1 res.2.2) I L 0 [(0, .ref 0), (1, .int p1), (2, .int p2), (3, .int p3)] []
  unfold X5_run at h
  refine mw_iload_n dX5_run_0 1 rfl ?_
  obtain ⟨q1, hq1, h⟩ := mh_bind h
  refine mw_sz (dc := 1) cs_X5_101 wd_329 dX5_run_1 [.int p1] [.int p1] rfl rfl (t_X5_isLoop hq1) ⟨by decide, by decide⟩ (Nat.le_of_ble_eq_true rfl) ⟨rfl, rfl⟩ (fun zq1 => ?_)
  refine mw_if_ne (tgt := 10) dX5_run_4 (by decide) (fun hc14 => ?_) (fun hc14 => ?_)
  · replace h := mh_ifn hc14 h
    refine mw_iload_n dX5_run_10 2 rfl ?_
    obtain ⟨q2, hq2, h⟩ := mh_bind h
    refine mw_sz (dc := 1) cs_X5_104 wd_332 dX5_run_11 [.int p2] [.int p2] rfl rfl (t_X5_isPull hq2) ⟨by decide, by decide⟩ (Nat.le_of_ble_eq_true rfl) ⟨rfl, rfl⟩ (fun zq2 => ?_)
    refine mw_if_eq (tgt := 26) dX5_run_14 (by decide) (fun hc13 => ?_) (fun hc13 => ?_)
    · replace h := mh_ifp hc13 h
      refine mw_bipush (v := -7) dX5_run_26 (by decide) ?_
      obtain rfl := Option.some.inj h
      exact mw_iret dX5_run_28 rfl rfl (Nat.le_of_ble_eq_true rfl) (Nat.le_refl 0) mh_ret_rfl
    · replace h := mh_ifn hc13 h
      refine mw_iload_n dX5_run_17 3 rfl ?_
      refine mw_iconst (v := 0) dX5_run_18 (by decide) ?_
      refine mw_iconst (v := 3) dX5_run_19 (by decide) ?_
      obtain ⟨q3, hq3, h⟩ := mh_bind h
      refine mw_sz (dc := 0) cs_X5_97 wd_223 dX5_run_20 [.int p3, .int (0 : Int32), .int (3 : Int32)] [.int (3 : Int32), .int (0 : Int32), .int p3] rfl rfl (t_X5_within hq3) ⟨by decide, by decide⟩ (Nat.le_of_ble_eq_true rfl) ⟨rfl, rfl⟩ (fun zq3 => ?_)
      refine mw_if_ne (tgt := 29) dX5_run_23 (by decide) (fun hc12 => ?_) (fun hc12 => ?_)
      · replace h := mh_ifn hc12 h
        refine mw_aload_n dX5_run_29 0 rfl ?_
        refine mw_iload_n dX5_run_30 1 rfl ?_
        refine mw_iload_n dX5_run_31 2 rfl ?_
        obtain ⟨q4, hq4, h⟩ := mh_bind h
        refine mw_vr (dc := 5) (ci := 5) (fs := fsX5) (T := TX5) (N := 9) cv_X5_163 wd_457 dX5_run_32 [.int p1, .int p2] [.int p2, .int p1, .ref 0] rfl rfl rfl rfl (t_X5_drop hq4) ⟨by decide, by decide⟩ (Nat.le_of_ble_eq_true rfl) ⟨rfl, rfl⟩ ?_
        refine mw_pop dX5_run_35 rfl ?_
        refine mw_iload_n dX5_run_36 3 rfl ?_
        by_cases hc5 : p3 = 0
        · replace h := mh_ifp hc5 h
          refine mw_tableIn (off := 27) (tgt := 64) dX5_run_37 (by rw [hc5]; decide) (by rw [hc5]; decide) (by rw [hc5]; rfl) (by decide) ?_
          refine mw_aload_n dX5_run_64 0 rfl ?_
          refine mw_getr (b := 10) (fs := fsX5) gf_X5_35 dX5_run_65 rfl rfl ?_
          refine mw_getl (fs := (fsX0 10)) gf_X5_167 dX5_run_68 (sx_fall into).1 rfl ?_
          obtain ⟨q6, hq6, h⟩ := mh_bind h
          refine mw_sr (dc := 0) cs_X5_74 wd_303 dX5_run_71 [.long (q4.2.2 10 1)] [.long (q4.2.2 10 1)] rfl rfl (t_J13_bitCount_95d88 hq6) ⟨by decide, by decide⟩ (Nat.le_of_ble_eq_true rfl) ⟨rfl, rfl⟩ ?_
          obtain rfl := Option.some.inj h
          exact mw_iret dX5_run_74 rfl rfl (Nat.le_of_ble_eq_true rfl) (Nat.le_refl 0) mh_ret_rfl
        · replace h := mh_ifn hc5 h
          by_cases hc7 : p3 = 1
          · replace h := mh_ifp hc7 h
            refine mw_tableIn (off := 38) (tgt := 75) dX5_run_37 (by rw [hc7]; decide) (by rw [hc7]; decide) (by rw [hc7]; rfl) (by decide) ?_
            refine mw_aload_n dX5_run_75 0 rfl ?_
            obtain ⟨q8, hq8, h⟩ := mh_bind h
            refine mw_vr (dc := 2) (ci := 5) (fs := fsX5) (T := TX5) (N := 9) cv_X5_170 wd_480 dX5_run_76 [] [.ref 0] rfl rfl rfl rfl (t_X5_lowestRow hq8) ⟨by decide, by decide⟩ (Nat.le_of_ble_eq_true rfl) ⟨rfl, rfl⟩ ?_
            obtain rfl := Option.some.inj h
            exact mw_iret dX5_run_79 rfl rfl (Nat.le_of_ble_eq_true rfl) (Nat.le_refl 0) mh_ret_rfl
          · replace h := mh_ifn hc7 h
            by_cases hc9 : p3 = 2
            · replace h := mh_ifp hc9 h
              refine mw_tableIn (off := 43) (tgt := 80) dX5_run_37 (by rw [hc9]; decide) (by rw [hc9]; decide) (by rw [hc9]; rfl) (by decide) ?_
              refine mw_aload_n dX5_run_80 0 rfl ?_
              refine mw_iconst (v := 1) dX5_run_81 (by decide) ?_
              obtain ⟨q10, hq10, h⟩ := mh_bind h
              refine mw_vr (dc := 3) (ci := 5) (fs := fsX5) (T := TX5) (N := 9) cv_X5_173 wd_491 dX5_run_82 [.int (1 : Int32)] [.int (1 : Int32), .ref 0] rfl rfl rfl rfl (t_X5_together hq10) ⟨by decide, by decide⟩ (Nat.le_of_ble_eq_true rfl) ⟨rfl, rfl⟩ ?_
              obtain rfl := Option.some.inj h
              exact mw_iret dX5_run_85 rfl rfl (Nat.le_of_ble_eq_true rfl) (Nat.le_refl 0) mh_ret_rfl
            · replace h := mh_ifn hc9 h
              refine mw_tableOut (tgt := 86) dX5_run_37 (by have e0 := mh_ne (n := 0) hc5 (by decide); have e1 := mh_ne (n := 1) hc7 (by decide); have e2 := mh_ne (n := 2) hc9 (by decide); omega) (by decide) ?_
              refine mw_aload_n dX5_run_86 0 rfl ?_
              refine mw_iconst (v := 2) dX5_run_87 (by decide) ?_
              obtain ⟨q11, hq11, h⟩ := mh_bind h
              refine mw_vr (dc := 3) (ci := 5) (fs := fsX5) (T := TX5) (N := 9) cv_X5_173 wd_491 dX5_run_88 [.int (2 : Int32)] [.int (2 : Int32), .ref 0] rfl rfl rfl rfl (t_X5_together hq11) ⟨by decide, by decide⟩ (Nat.le_of_ble_eq_true rfl) ⟨rfl, rfl⟩ ?_
              obtain rfl := Option.some.inj h
              exact mw_iret dX5_run_91 rfl rfl (Nat.le_of_ble_eq_true rfl) (Nat.le_refl 0) mh_ret_rfl
      · replace h := mh_ifp hc12 h
        refine mw_bipush (v := -7) dX5_run_26 (by decide) ?_
        obtain rfl := Option.some.inj h
        exact mw_iret dX5_run_28 rfl rfl (Nat.le_of_ble_eq_true rfl) (Nat.le_refl 0) mh_ret_rfl
  · replace h := mh_ifp hc14 h
    refine mw_bipush (v := -5) dX5_run_7 (by decide) ?_
    obtain rfl := Option.some.inj h
    exact mw_iret dX5_run_9 rfl rfl (Nat.le_of_ble_eq_true rfl) (Nat.le_refl 0) mh_ret_rfl
abbrev w_X5_goes (sh : List mh_C) (Φ : mh_P) (I : mh_I) (L : mh_L) (pc : Nat) (lv : List (Nat × Value)) (st : List Value) : Prop := mh_W RX5 cX5_goes 4 (some .long) false (mh_rm 6) 46 0 0 mh_noX Φ 0 sh I L pc lv st
def X5_goes (p1 : Int32) (p2 : Int32) (p3 : Int32) (I : mh_I) (L : mh_L) : Option (Int64 × mh_I × mh_L) := (X5_isLoop p1).bind (fun q1 => if q1 = 0 then some ((-4611686018427387904 : Int64), I, L) else (X5_isPull p2).bind (fun q2 => if q2 = 0 then some ((-4611686018427387904 : Int64), I, L) else (X5_within p3 (0 : Int32) (1 : Int32)).bind (fun q3 => if q3 = 0 then some ((-4611686018427387904 : Int64), I, L) else (X5_drop p1 p2 I L).bind (fun q4 => if p3 = 0 then some ((q4.2.2 10 1), q4.2.1, q4.2.2) else some ((q4.2.2 10 2), q4.2.1, q4.2.2)))))
set_option maxHeartbeats 4000000 in
set_option maxRecDepth 100000 in
theorem t_X5_goes {into : Option Nat} {L : mh_L} {I : mh_I} {p1 : Int32} {p2 : Int32} {p3 : Int32} {res : Int64 × mh_I × mh_L} (h : X5_goes p1 p2 p3 I L = some res) : mh_CT yX5_goes cX5_goes 4 (some .long) (mh_rm 6) (SHX into) I L [.ref 0, .int p1, .int p2, .int p3] (mh_ret (some (.long res.1)) (SHX into) res.2.1 res.2.2) := by
  refine mh_ofW (ini := false) RX5 rfl (by decide) (fun h => by cases h) (Nat.le_of_ble_eq_true rfl) ?_
  show w_X5_goes (SHX into) (mh_ret (some (.long res.1)) (SHX into) res.2.1 res.2.2) I L 0 [(0, .ref 0), (1, .int p1), (2, .int p2), (3, .int p3)] []
  unfold X5_goes at h
  refine mw_iload_n dX5_goes_0 1 rfl ?_
  obtain ⟨q1, hq1, h⟩ := mh_bind h
  refine mw_sz (dc := 1) cs_X5_101 wd_329 dX5_goes_1 [.int p1] [.int p1] rfl rfl (t_X5_isLoop hq1) ⟨by decide, by decide⟩ (Nat.le_of_ble_eq_true rfl) ⟨rfl, rfl⟩ (fun zq1 => ?_)
  refine mw_if_eq (tgt := 23) dX5_goes_4 (by decide) (fun hc8 => ?_) (fun hc8 => ?_)
  · replace h := mh_ifp hc8 h
    refine mw_ldc2 dX5_goes_23 wd_418 ?_
    obtain rfl := Option.some.inj h
    exact mw_lret dX5_goes_26 rfl (Nat.le_of_ble_eq_true rfl) (Nat.le_refl 0) mh_ret_rfl
  · replace h := mh_ifn hc8 h
    refine mw_iload_n dX5_goes_7 2 rfl ?_
    obtain ⟨q2, hq2, h⟩ := mh_bind h
    refine mw_sz (dc := 1) cs_X5_104 wd_332 dX5_goes_8 [.int p2] [.int p2] rfl rfl (t_X5_isPull hq2) ⟨by decide, by decide⟩ (Nat.le_of_ble_eq_true rfl) ⟨rfl, rfl⟩ (fun zq2 => ?_)
    refine mw_if_eq (tgt := 23) dX5_goes_11 (by decide) (fun hc7 => ?_) (fun hc7 => ?_)
    · replace h := mh_ifp hc7 h
      refine mw_ldc2 dX5_goes_23 wd_418 ?_
      obtain rfl := Option.some.inj h
      exact mw_lret dX5_goes_26 rfl (Nat.le_of_ble_eq_true rfl) (Nat.le_refl 0) mh_ret_rfl
    · replace h := mh_ifn hc7 h
      refine mw_iload_n dX5_goes_14 3 rfl ?_
      refine mw_iconst (v := 0) dX5_goes_15 (by decide) ?_
      refine mw_iconst (v := 1) dX5_goes_16 (by decide) ?_
      obtain ⟨q3, hq3, h⟩ := mh_bind h
      refine mw_sz (dc := 0) cs_X5_97 wd_223 dX5_goes_17 [.int p3, .int (0 : Int32), .int (1 : Int32)] [.int (1 : Int32), .int (0 : Int32), .int p3] rfl rfl (t_X5_within hq3) ⟨by decide, by decide⟩ (Nat.le_of_ble_eq_true rfl) ⟨rfl, rfl⟩ (fun zq3 => ?_)
      refine mw_if_ne (tgt := 27) dX5_goes_20 (by decide) (fun hc6 => ?_) (fun hc6 => ?_)
      · replace h := mh_ifn hc6 h
        refine mw_aload_n dX5_goes_27 0 rfl ?_
        refine mw_iload_n dX5_goes_28 1 rfl ?_
        refine mw_iload_n dX5_goes_29 2 rfl ?_
        obtain ⟨q4, hq4, h⟩ := mh_bind h
        refine mw_vr (dc := 5) (ci := 5) (fs := fsX5) (T := TX5) (N := 9) cv_X5_163 wd_457 dX5_goes_30 [.int p1, .int p2] [.int p2, .int p1, .ref 0] rfl rfl rfl rfl (t_X5_drop hq4) ⟨by decide, by decide⟩ (Nat.le_of_ble_eq_true rfl) ⟨rfl, rfl⟩ ?_
        refine mw_pop dX5_goes_33 rfl ?_
        refine mw_iload_n dX5_goes_34 3 rfl ?_
        refine mw_if_ne (tgt := 48) dX5_goes_35 (by decide) (fun hc5 => ?_) (fun hc5 => ?_)
        · replace h := mh_ifn hc5 h
          refine mw_aload_n dX5_goes_48 0 rfl ?_
          refine mw_getr (b := 10) (fs := fsX5) gf_X5_35 dX5_goes_49 rfl rfl ?_
          refine mw_getl (fs := (fsX0 10)) gf_X5_176 dX5_goes_52 (sx_fall into).1 rfl ?_
          obtain rfl := Option.some.inj h
          exact mw_lret dX5_goes_55 rfl (Nat.le_of_ble_eq_true rfl) (Nat.le_refl 0) mh_ret_rfl
        · replace h := mh_ifp hc5 h
          refine mw_aload_n dX5_goes_38 0 rfl ?_
          refine mw_getr (b := 10) (fs := fsX5) gf_X5_35 dX5_goes_39 rfl rfl ?_
          refine mw_getl (fs := (fsX0 10)) gf_X5_167 dX5_goes_42 (sx_fall into).1 rfl ?_
          refine mw_goto (tgt := 55) dX5_goes_45 (by decide) ?_
          obtain rfl := Option.some.inj h
          exact mw_lret dX5_goes_55 rfl (Nat.le_of_ble_eq_true rfl) (Nat.le_refl 0) mh_ret_rfl
      · replace h := mh_ifp hc6 h
        refine mw_ldc2 dX5_goes_23 wd_418 ?_
        obtain rfl := Option.some.inj h
        exact mw_lret dX5_goes_26 rfl (Nat.le_of_ble_eq_true rfl) (Nat.le_refl 0) mh_ret_rfl
abbrev w_X5_left (sh : List mh_C) (Φ : mh_P) (I : mh_I) (L : mh_L) (pc : Nat) (lv : List (Nat × Value)) (st : List Value) : Prop := mh_W RX5 cX5_left 4 (some .int) false (mh_rm 6) 46 0 0 mh_noX Φ 0 sh I L pc lv st
def X5_left (p1 : Int32) (p2 : Int32) (p3 : Int32) (I : mh_I) (L : mh_L) : Option (Int32 × mh_I × mh_L) := (X5_isLoop p1).bind (fun q1 => if q1 = 0 then some ((-5 : Int32), I, L) else (X5_isLoop p3).bind (fun q2 => if q2 = 0 then some ((-5 : Int32), I, L) else (X5_isPull p2).bind (fun q3 => if q3 = 0 then some ((-7 : Int32), I, L) else (X5_drop p1 p2 I L).bind (fun q4 => (X5_hasBit (q4.2.2 10 1) p3).bind (fun q5 => if q5 = 0 then some ((-1 : Int32), q4.2.1, q4.2.2) else mh_ix p3 48 (fun k6 => some ((q4.2.1 11 k6), q4.2.1, q4.2.2)))))))
set_option maxHeartbeats 4000000 in
set_option maxRecDepth 100000 in
theorem t_X5_left {into : Option Nat} {L : mh_L} {I : mh_I} {p1 : Int32} {p2 : Int32} {p3 : Int32} {res : Int32 × mh_I × mh_L} (h : X5_left p1 p2 p3 I L = some res) : mh_CT yX5_left cX5_left 4 (some .int) (mh_rm 6) (SHX into) I L [.ref 0, .int p1, .int p2, .int p3] (mh_ret (some (.int res.1)) (SHX into) res.2.1 res.2.2) := by
  refine mh_ofW (ini := false) RX5 rfl (by decide) (fun h => by cases h) (Nat.le_of_ble_eq_true rfl) ?_
  show w_X5_left (SHX into) (mh_ret (some (.int res.1)) (SHX into) res.2.1 res.2.2) I L 0 [(0, .ref 0), (1, .int p1), (2, .int p2), (3, .int p3)] []
  unfold X5_left at h
  refine mw_iload_n dX5_left_0 1 rfl ?_
  obtain ⟨q1, hq1, h⟩ := mh_bind h
  refine mw_sz (dc := 1) cs_X5_101 wd_329 dX5_left_1 [.int p1] [.int p1] rfl rfl (t_X5_isLoop hq1) ⟨by decide, by decide⟩ (Nat.le_of_ble_eq_true rfl) ⟨rfl, rfl⟩ (fun zq1 => ?_)
  refine mw_if_eq (tgt := 14) dX5_left_4 (by decide) (fun hc11 => ?_) (fun hc11 => ?_)
  · replace h := mh_ifp hc11 h
    refine mw_bipush (v := -5) dX5_left_14 (by decide) ?_
    obtain rfl := Option.some.inj h
    exact mw_iret dX5_left_16 rfl rfl (Nat.le_of_ble_eq_true rfl) (Nat.le_refl 0) mh_ret_rfl
  · replace h := mh_ifn hc11 h
    refine mw_iload_n dX5_left_7 3 rfl ?_
    obtain ⟨q2, hq2, h⟩ := mh_bind h
    refine mw_sz (dc := 1) cs_X5_101 wd_329 dX5_left_8 [.int p3] [.int p3] rfl rfl (t_X5_isLoop hq2) ⟨by decide, by decide⟩ (Nat.le_of_ble_eq_true rfl) ⟨rfl, rfl⟩ (fun zq2 => ?_)
    refine mw_if_ne (tgt := 17) dX5_left_11 (by decide) (fun hc10 => ?_) (fun hc10 => ?_)
    · replace h := mh_ifn hc10 h
      refine mw_iload_n dX5_left_17 2 rfl ?_
      obtain ⟨q3, hq3, h⟩ := mh_bind h
      refine mw_sz (dc := 1) cs_X5_104 wd_332 dX5_left_18 [.int p2] [.int p2] rfl rfl (t_X5_isPull hq3) ⟨by decide, by decide⟩ (Nat.le_of_ble_eq_true rfl) ⟨rfl, rfl⟩ (fun zq3 => ?_)
      refine mw_if_ne (tgt := 27) dX5_left_21 (by decide) (fun hc9 => ?_) (fun hc9 => ?_)
      · replace h := mh_ifn hc9 h
        refine mw_aload_n dX5_left_27 0 rfl ?_
        refine mw_iload_n dX5_left_28 1 rfl ?_
        refine mw_iload_n dX5_left_29 2 rfl ?_
        obtain ⟨q4, hq4, h⟩ := mh_bind h
        refine mw_vr (dc := 5) (ci := 5) (fs := fsX5) (T := TX5) (N := 9) cv_X5_163 wd_457 dX5_left_30 [.int p1, .int p2] [.int p2, .int p1, .ref 0] rfl rfl rfl rfl (t_X5_drop hq4) ⟨by decide, by decide⟩ (Nat.le_of_ble_eq_true rfl) ⟨rfl, rfl⟩ ?_
        refine mw_pop dX5_left_33 rfl ?_
        refine mw_aload_n dX5_left_34 0 rfl ?_
        refine mw_getr (b := 10) (fs := fsX5) gf_X5_35 dX5_left_35 rfl rfl ?_
        refine mw_getl (fs := (fsX0 10)) gf_X5_167 dX5_left_38 (sx_fall into).1 rfl ?_
        refine mw_iload_n dX5_left_41 3 rfl ?_
        obtain ⟨q5, hq5, h⟩ := mh_bind h
        refine mw_sz (dc := 0) cs_X5_139 wd_357 dX5_left_42 [.long (q4.2.2 10 1), .int p3] [.int p3, .long (q4.2.2 10 1)] rfl rfl (t_X5_hasBit hq5) ⟨by decide, by decide⟩ (Nat.le_of_ble_eq_true rfl) ⟨rfl, rfl⟩ (fun zq5 => ?_)
        refine mw_if_eq (tgt := 60) dX5_left_45 (by decide) (fun hc8 => ?_) (fun hc8 => ?_)
        · replace h := mh_ifp hc8 h
          refine mw_iconst (v := -1) dX5_left_60 (by decide) ?_
          obtain rfl := Option.some.inj h
          exact mw_iret dX5_left_61 rfl rfl (Nat.le_of_ble_eq_true rfl) (Nat.le_refl 0) mh_ret_rfl
        · replace h := mh_ifn hc8 h
          refine mw_aload_n dX5_left_48 0 rfl ?_
          refine mw_getr (b := 10) (fs := fsX5) gf_X5_35 dX5_left_49 rfl rfl ?_
          refine mw_getr (b := 11) (fs := (fsX0 10)) gf_X5_179 dX5_left_52 (sx_fall into).1 rfl ?_
          refine mw_iload_n dX5_left_55 3 rfl ?_
          obtain ⟨k6, hk7, hk7n, hk7l, h⟩ := mh_ix_some h
          refine mw_xiald dX5_left_56 (sx_fall into).2 hk7 hk7n ?_
          refine mw_goto (tgt := 61) dX5_left_57 (by decide) ?_
          obtain rfl := Option.some.inj h
          exact mw_iret dX5_left_61 rfl rfl (Nat.le_of_ble_eq_true rfl) (Nat.le_refl 0) mh_ret_rfl
      · replace h := mh_ifp hc9 h
        refine mw_bipush (v := -7) dX5_left_24 (by decide) ?_
        obtain rfl := Option.some.inj h
        exact mw_iret dX5_left_26 rfl rfl (Nat.le_of_ble_eq_true rfl) (Nat.le_refl 0) mh_ret_rfl
    · replace h := mh_ifp hc10 h
      refine mw_bipush (v := -5) dX5_left_14 (by decide) ?_
      obtain rfl := Option.some.inj h
      exact mw_iret dX5_left_16 rfl rfl (Nat.le_of_ble_eq_true rfl) (Nat.le_refl 0) mh_ret_rfl
abbrev w_X5_most (sh : List mh_C) (Φ : mh_P) (I : mh_I) (L : mh_L) (pc : Nat) (lv : List (Nat × Value)) (st : List Value) : Prop := mh_W RX5 cX5_most 7 (some .int) false (mh_rm 6) 46 0 0 mh_noX Φ 0 sh I L pc lv st
def X5_most_l27 (u1 : Int32) (k63 : (Int32 → Int32 → mh_I → mh_L → Option (Int32 × mh_I × mh_L))) : Nat → Int32 → Int32 → Int32 → mh_I → mh_L → Option (Int32 × mh_I × mh_L)
  | 0, _, _, _, _, _ => none
  | n + 1, u3, u4, u5, I, L => if (48 : Int32) ≤ u5 then (k63 u3 u4 I L) else (X5_drop u5 u1 I L).bind (fun q3 => mh_b q3.1 (fun b4 => mh_j (fun (v5 : Int32) (v6 : Int32) => mh_b (u5 + (1 : Int32)) (fun b9 => (X5_most_l27 u1 k63 n v5 v6 b9 q3.2.1 q3.2.2))) (fun J7 => if b4 ≤ u4 then (J7 u3 u4) else (J7 u5 b4))))
set_option maxHeartbeats 4000000 in
set_option maxRecDepth 100000 in
theorem t_X5_most_l27 {into : Option Nat} {u1 : Int32} {u2 : Int32} {k63 : (Int32 → Int32 → mh_I → mh_L → Option (Int32 × mh_I × mh_L))} {res : Int32 × mh_I × mh_L} (n : Nat) (u3 : Int32) (u4 : Int32) (u5 : Int32) (I : mh_I) (L : mh_L) (h : X5_most_l27 u1 k63 n u3 u4 u5 I L = some res) (hk63 : ∀ (u3 : Int32) (u4 : Int32) (I : mh_I) (L : mh_L), k63 u3 u4 I L = some res → w_X5_most (SHX into) (mh_ret (some (.int res.1)) (SHX into) res.2.1 res.2.2) I L 63 [(2, .int u2), (3, .int u3), (4, .int u4)] []) : w_X5_most (SHX into) (mh_ret (some (.int res.1)) (SHX into) res.2.1 res.2.2) I L 27 [(0, .ref 0), (1, .int u1), (2, .int u2), (3, .int u3), (4, .int u4), (5, .int u5)] [] := by
  induction n generalizing u3 u4 u5 I L with
  | zero => rw [X5_most_l27] at h; cases h
  | succ n ih =>
    rw [X5_most_l27] at h
    refine mw_iload dX5_most_27 5 rfl ?_
    refine mw_bipush (v := 48) dX5_most_29 (by decide) ?_
    refine mw_icmp_ge (tgt := 63) dX5_most_31 (by decide) (fun hc10 => ?_) (fun hc10 => ?_)
    · replace h := mh_ifp hc10 h
      refine mw_loc [2, 3, 4] rfl ?_
      exact hk63 _ _ _ _ h
    · replace h := mh_ifn hc10 h
      refine mw_aload_n dX5_most_34 0 rfl ?_
      refine mw_iload dX5_most_35 5 rfl ?_
      refine mw_iload_n dX5_most_37 1 rfl ?_
      obtain ⟨q3, hq3, h⟩ := mh_bind h
      refine mw_vr (dc := 5) (ci := 5) (fs := fsX5) (T := TX5) (N := 9) cv_X5_163 wd_457 dX5_most_38 [.int u5, .int u1] [.int u1, .int u5, .ref 0] rfl rfl rfl rfl (t_X5_drop hq3) ⟨by decide, by decide⟩ (Nat.le_of_ble_eq_true rfl) ⟨rfl, rfl⟩ ?_
      obtain ⟨b4, eb4, h⟩ := mh_b_some h
      refine mw_nmi eb4 ?_
      refine mw_istore dX5_most_41 (by decide) rfl ?_
      refine mw_iload dX5_most_43 0 rfl ?_
      refine mw_iload dX5_most_45 5 rfl ?_
      refine mh_jw (fun J7 => ∀ (v5 : Int32) (v6 : Int32), J7 v5 v6 = some res → w_X5_most (SHX into) (mh_ret (some (.int res.1)) (SHX into) res.2.1 res.2.2) q3.2.1 q3.2.2 57 [(0, .ref 0), (1, .int u1), (2, .int u2), (3, .int v5), (4, .int v6), (5, .int u5)] []) h (fun v5 v6 h => ?_) (fun J7 hJ7 h => ?_)
      · obtain ⟨b9, eb9, h⟩ := mh_b_some h
        refine mw_iinc (v := b9) dX5_most_57 5 rfl (by rw [← eb9]; rfl) (by decide) rfl ?_
        refine mw_goto (tgt := 27) dX5_most_60 (by decide) ?_
        refine mw_loc [1, 2, 3, 4, 5, 0] rfl ?_
        exact ih _ _ _ _ _ h
      · refine mw_icmp_le (tgt := 57) dX5_most_47 (by decide) (fun hc8 => ?_) (fun hc8 => ?_)
        · replace h := mh_ifp hc8 h
          refine mw_loc [1, 2, 3, 4, 5, 6] rfl ?_
          exact hJ7 _ _ h
        · replace h := mh_ifn hc8 h
          refine mw_iload dX5_most_50 6 rfl ?_
          refine mw_istore_n dX5_most_52 (by decide) rfl ?_
          refine mw_iload dX5_most_53 1 rfl ?_
          refine mw_istore dX5_most_55 (by decide) rfl ?_
          refine mw_loc [3, 4, 5, 1, 0, 6] rfl ?_
          exact hJ7 _ _ h
def X5_most (p1 : Int32) (p2 : Int32) (I : mh_I) (L : mh_L) : Option (Int32 × mh_I × mh_L) := (X5_isPull p1).bind (fun q1 => if q1 = 0 then some ((-2 : Int32), I, L) else (X5_within p2 (0 : Int32) (1 : Int32)).bind (fun q2 => if q2 = 0 then some ((-2 : Int32), I, L) else X5_most_l27 p1 (fun (v11 : Int32) (v12 : Int32) (I13 : mh_I) (L14 : mh_L) => if p2 = 0 then some (v11, I13, L14) else some (v12, I13, L14)) mh_fuel (0 : Int32) (-1 : Int32) (0 : Int32) I L))
set_option maxHeartbeats 4000000 in
set_option maxRecDepth 100000 in
theorem t_X5_most {into : Option Nat} {L : mh_L} {I : mh_I} {p1 : Int32} {p2 : Int32} {res : Int32 × mh_I × mh_L} (h : X5_most p1 p2 I L = some res) : mh_CT yX5_most cX5_most 7 (some .int) (mh_rm 6) (SHX into) I L [.ref 0, .int p1, .int p2] (mh_ret (some (.int res.1)) (SHX into) res.2.1 res.2.2) := by
  refine mh_ofW (ini := false) RX5 rfl (by decide) (fun h => by cases h) (Nat.le_of_ble_eq_true rfl) ?_
  show w_X5_most (SHX into) (mh_ret (some (.int res.1)) (SHX into) res.2.1 res.2.2) I L 0 [(0, .ref 0), (1, .int p1), (2, .int p2)] []
  unfold X5_most at h
  refine mw_iload_n dX5_most_0 1 rfl ?_
  obtain ⟨q1, hq1, h⟩ := mh_bind h
  refine mw_sz (dc := 1) cs_X5_104 wd_332 dX5_most_1 [.int p1] [.int p1] rfl rfl (t_X5_isPull hq1) ⟨by decide, by decide⟩ (Nat.le_of_ble_eq_true rfl) ⟨rfl, rfl⟩ (fun zq1 => ?_)
  refine mw_if_eq (tgt := 16) dX5_most_4 (by decide) (fun hc17 => ?_) (fun hc17 => ?_)
  · replace h := mh_ifp hc17 h
    refine mw_bipush (v := -2) dX5_most_16 (by decide) ?_
    obtain rfl := Option.some.inj h
    exact mw_iret dX5_most_18 rfl rfl (Nat.le_of_ble_eq_true rfl) (Nat.le_refl 0) mh_ret_rfl
  · replace h := mh_ifn hc17 h
    refine mw_iload_n dX5_most_7 2 rfl ?_
    refine mw_iconst (v := 0) dX5_most_8 (by decide) ?_
    refine mw_iconst (v := 1) dX5_most_9 (by decide) ?_
    obtain ⟨q2, hq2, h⟩ := mh_bind h
    refine mw_sz (dc := 0) cs_X5_97 wd_223 dX5_most_10 [.int p2, .int (0 : Int32), .int (1 : Int32)] [.int (1 : Int32), .int (0 : Int32), .int p2] rfl rfl (t_X5_within hq2) ⟨by decide, by decide⟩ (Nat.le_of_ble_eq_true rfl) ⟨rfl, rfl⟩ (fun zq2 => ?_)
    refine mw_if_ne (tgt := 19) dX5_most_13 (by decide) (fun hc16 => ?_) (fun hc16 => ?_)
    · replace h := mh_ifn hc16 h
      refine mw_iconst (v := 0) dX5_most_19 (by decide) ?_
      refine mw_istore_n dX5_most_20 (by decide) rfl ?_
      refine mw_iconst (v := -1) dX5_most_21 (by decide) ?_
      refine mw_istore dX5_most_22 (by decide) rfl ?_
      refine mw_iconst (v := 0) dX5_most_24 (by decide) ?_
      refine mw_istore dX5_most_25 (by decide) rfl ?_
      refine mw_loc [3, 4, 5, 2, 1, 0] rfl ?_
      refine t_X5_most_l27  _ _ _ _ _ _ h (fun v11 v12 I13 L14 h => ?_)
      refine mw_iload_n dX5_most_63 0 rfl ?_
      refine mw_if_ne (tgt := 71) dX5_most_64 (by decide) (fun hc15 => ?_) (fun hc15 => ?_)
      · replace h := mh_ifn hc15 h
        refine mw_iload dX5_most_71 2 rfl ?_
        obtain rfl := Option.some.inj h
        exact mw_iret dX5_most_73 rfl rfl (Nat.le_of_ble_eq_true rfl) (Nat.le_refl 0) mh_ret_rfl
      · replace h := mh_ifp hc15 h
        refine mw_iload_n dX5_most_67 1 rfl ?_
        refine mw_goto (tgt := 73) dX5_most_68 (by decide) ?_
        obtain rfl := Option.some.inj h
        exact mw_iret dX5_most_73 rfl rfl (Nat.le_of_ble_eq_true rfl) (Nat.le_refl 0) mh_ret_rfl
    · replace h := mh_ifp hc16 h
      refine mw_bipush (v := -2) dX5_most_16 (by decide) ?_
      obtain rfl := Option.some.inj h
      exact mw_iret dX5_most_18 rfl rfl (Nat.le_of_ble_eq_true rfl) (Nat.le_refl 0) mh_ret_rfl
abbrev w_X5_column (sh : List mh_C) (Φ : mh_P) (I : mh_I) (L : mh_L) (pc : Nat) (lv : List (Nat × Value)) (st : List Value) : Prop := mh_W RX5 cX5_column 7 (some .int) false (mh_rm 5) 46 0 0 mh_noX Φ 0 sh I L pc lv st
def X5_column_l37 (u1 : Int32) (k65 : (Int64 → Option (Int32 × mh_I × mh_L))) : Nat → Int64 → Int32 → Option (Int32 × mh_I × mh_L)
  | 0, _, _ => none
  | n + 1, u4, u6 => if (8 : Int32) ≤ u6 then (k65 u4) else (X5_bit ((u6 * (6 : Int32)) + u1)).bind (fun q4 => mh_b (u4 ||| q4) (fun b5 => mh_b (u6 + (1 : Int32)) (fun b6 => (X5_column_l37 u1 k65 n b5 b6))))
set_option maxHeartbeats 4000000 in
set_option maxRecDepth 100000 in
theorem t_X5_column_l37 {into : Option Nat} {u1 : Int32} {u2 : Int32} {u3 : Int32} {k65 : (Int64 → Option (Int32 × mh_I × mh_L))} {I : mh_I} {L : mh_L} {res : Int32 × mh_I × mh_L} (n : Nat) (u4 : Int64) (u6 : Int32) (h : X5_column_l37 u1 k65 n u4 u6 = some res) (hk65 : ∀ (u4 : Int64), k65 u4 = some res → w_X5_column (SHX into) (mh_ret (some (.int res.1)) (SHX into) res.2.1 res.2.2) I L 65 [(0, .ref 0), (2, .int u2), (3, .int u3), (4, .long u4)] []) : w_X5_column (SHX into) (mh_ret (some (.int res.1)) (SHX into) res.2.1 res.2.2) I L 37 [(0, .ref 0), (1, .int u1), (2, .int u2), (3, .int u3), (4, .long u4), (6, .int u6)] [] := by
  induction n generalizing u4 u6 with
  | zero => rw [X5_column_l37] at h; cases h
  | succ n ih =>
    rw [X5_column_l37] at h
    refine mw_iload dX5_column_37 5 rfl ?_
    refine mw_bipush (v := 8) dX5_column_39 (by decide) ?_
    refine mw_icmp_ge (tgt := 65) dX5_column_41 (by decide) (fun hc7 => ?_) (fun hc7 => ?_)
    · replace h := mh_ifp hc7 h
      refine mw_loc [0, 2, 3, 4] rfl ?_
      exact hk65 _ h
    · replace h := mh_ifn hc7 h
      refine mw_lload dX5_column_44 4 rfl ?_
      refine mw_iload dX5_column_46 5 rfl ?_
      refine mw_bipush (v := 6) dX5_column_48 (by decide) ?_
      refine mw_imul dX5_column_50 ?_
      refine mw_iload_n dX5_column_51 1 rfl ?_
      refine mw_iadd dX5_column_52 ?_
      obtain ⟨q4, hq4, h⟩ := mh_bind h
      refine mw_sr (dc := 0) cs_X5_143 wd_412 dX5_column_53 [.int ((u6 * (6 : Int32)) + u1)] [.int ((u6 * (6 : Int32)) + u1), .long u4] rfl rfl (t_X5_bit hq4) ⟨by decide, by decide⟩ (Nat.le_of_ble_eq_true rfl) ⟨rfl, rfl⟩ ?_
      refine mw_lor dX5_column_56 ?_
      obtain ⟨b5, eb5, h⟩ := mh_b_some h
      refine mw_nml eb5 ?_
      refine mw_lstore dX5_column_57 (by decide) rfl ?_
      obtain ⟨b6, eb6, h⟩ := mh_b_some h
      refine mw_iinc (v := b6) dX5_column_59 5 rfl (by rw [← eb6]; rfl) (by decide) rfl ?_
      refine mw_goto (tgt := 37) dX5_column_62 (by decide) ?_
      refine mw_loc [2, 3, 4, 5, 1, 0] rfl ?_
      exact ih _ _ h
def X5_column (p1 : Int32) (p2 : Int32) (p3 : Int32) (I : mh_I) (L : mh_L) : Option (Int32 × mh_I × mh_L) := (X5_within p1 (0 : Int32) (5 : Int32)).bind (fun q1 => if q1 = 0 then some ((-5 : Int32), I, L) else (X5_isPull p2).bind (fun q2 => if q2 = 0 then some ((-7 : Int32), I, L) else (X5_within p3 (0 : Int32) (1 : Int32)).bind (fun q3 => if q3 = 0 then some ((-7 : Int32), I, L) else X5_column_l37 p1 (fun (v8 : Int64) => (X5_law I).bind (fun q9 => (X0_runFrom 10 1 q9 v8 (0 : Int64) p2 I L).bind (fun q10 => mh_j (fun (s11 : Int64) => (J13_bitCount_95d88 s11).bind (fun q14 => some (q14, q10.2.1, q10.2.2))) (fun J12 => if p3 = 0 then (J12 (q10.2.2 10 1)) else (J12 ((q10.2.2 10 1) &&& (v8 ^^^ (-1 : Int64)))))))) mh_fuel (0 : Int64) (0 : Int32))))
set_option maxHeartbeats 4000000 in
set_option maxRecDepth 100000 in
theorem t_X5_column {into : Option Nat} {L : mh_L} {I : mh_I} {p1 : Int32} {p2 : Int32} {p3 : Int32} {res : Int32 × mh_I × mh_L} (h : X5_column p1 p2 p3 I L = some res) : mh_CT yX5_column cX5_column 7 (some .int) (mh_rm 5) (SHX into) I L [.ref 0, .int p1, .int p2, .int p3] (mh_ret (some (.int res.1)) (SHX into) res.2.1 res.2.2) := by
  refine mh_ofW (ini := false) RX5 rfl (by decide) (fun h => by cases h) (Nat.le_of_ble_eq_true rfl) ?_
  show w_X5_column (SHX into) (mh_ret (some (.int res.1)) (SHX into) res.2.1 res.2.2) I L 0 [(0, .ref 0), (1, .int p1), (2, .int p2), (3, .int p3)] []
  unfold X5_column at h
  refine mw_iload_n dX5_column_0 1 rfl ?_
  refine mw_iconst (v := 0) dX5_column_1 (by decide) ?_
  refine mw_iconst (v := 5) dX5_column_2 (by decide) ?_
  obtain ⟨q1, hq1, h⟩ := mh_bind h
  refine mw_sz (dc := 0) cs_X5_97 wd_223 dX5_column_3 [.int p1, .int (0 : Int32), .int (5 : Int32)] [.int (5 : Int32), .int (0 : Int32), .int p1] rfl rfl (t_X5_within hq1) ⟨by decide, by decide⟩ (Nat.le_of_ble_eq_true rfl) ⟨rfl, rfl⟩ (fun zq1 => ?_)
  refine mw_if_ne (tgt := 12) dX5_column_6 (by decide) (fun hc17 => ?_) (fun hc17 => ?_)
  · replace h := mh_ifn hc17 h
    refine mw_iload_n dX5_column_12 2 rfl ?_
    obtain ⟨q2, hq2, h⟩ := mh_bind h
    refine mw_sz (dc := 1) cs_X5_104 wd_332 dX5_column_13 [.int p2] [.int p2] rfl rfl (t_X5_isPull hq2) ⟨by decide, by decide⟩ (Nat.le_of_ble_eq_true rfl) ⟨rfl, rfl⟩ (fun zq2 => ?_)
    refine mw_if_eq (tgt := 28) dX5_column_16 (by decide) (fun hc16 => ?_) (fun hc16 => ?_)
    · replace h := mh_ifp hc16 h
      refine mw_bipush (v := -7) dX5_column_28 (by decide) ?_
      obtain rfl := Option.some.inj h
      exact mw_iret dX5_column_30 rfl rfl (Nat.le_of_ble_eq_true rfl) (Nat.le_refl 0) mh_ret_rfl
    · replace h := mh_ifn hc16 h
      refine mw_iload_n dX5_column_19 3 rfl ?_
      refine mw_iconst (v := 0) dX5_column_20 (by decide) ?_
      refine mw_iconst (v := 1) dX5_column_21 (by decide) ?_
      obtain ⟨q3, hq3, h⟩ := mh_bind h
      refine mw_sz (dc := 0) cs_X5_97 wd_223 dX5_column_22 [.int p3, .int (0 : Int32), .int (1 : Int32)] [.int (1 : Int32), .int (0 : Int32), .int p3] rfl rfl (t_X5_within hq3) ⟨by decide, by decide⟩ (Nat.le_of_ble_eq_true rfl) ⟨rfl, rfl⟩ (fun zq3 => ?_)
      refine mw_if_ne (tgt := 31) dX5_column_25 (by decide) (fun hc15 => ?_) (fun hc15 => ?_)
      · replace h := mh_ifn hc15 h
        refine mw_lconst (v := 0) dX5_column_31 (by decide) ?_
        refine mw_lstore dX5_column_32 (by decide) rfl ?_
        refine mw_iconst (v := 0) dX5_column_34 (by decide) ?_
        refine mw_istore dX5_column_35 (by decide) rfl ?_
        refine mw_loc [2, 3, 4, 5, 1, 0] rfl ?_
        refine t_X5_column_l37  _ _ _ h (fun v8 h => ?_)
        refine mw_aload_n dX5_column_65 0 rfl ?_
        refine mw_getr (b := 10) (fs := fsX5) gf_X5_35 dX5_column_66 rfl rfl ?_
        refine mw_aload_n dX5_column_69 0 rfl ?_
        refine mw_getr (b := 1) (fs := fsX5) gf_X5_10 dX5_column_70 rfl rfl ?_
        refine mw_aload_n dX5_column_73 0 rfl ?_
        obtain ⟨q9, hq9, h⟩ := mh_bind h
        refine mw_vr (dc := 0) (ci := 5) (fs := fsX5) (T := TX5) (N := 9) cv_X5_107 wd_336 dX5_column_74 [] [.ref 0, .ref 1, .ref 10] rfl rfl rfl rfl (t_X5_law hq9) ⟨by decide, by decide⟩ (Nat.le_of_ble_eq_true rfl) ⟨rfl, rfl⟩ ?_
        refine mw_lload dX5_column_77 3 rfl ?_
        refine mw_lconst (v := 0) dX5_column_79 (by decide) ?_
        refine mw_iload_n dX5_column_80 1 rfl ?_
        obtain ⟨q10, hq10, h⟩ := mh_bind h
        refine mw_vr (dc := 4) (ci := 0) (fs := (fsX0 10)) (T := TX0) (N := 3) cv_X5_182 wd_461 dX5_column_81 [.ref 1, .ref q9, .long v8, .long (0 : Int64), .int p2] [.int p2, .long (0 : Int64), .long v8, .ref q9, .ref 1, .ref 10] rfl rfl (sx_fall into).1 rfl (t_X0_runFrom (sx_fall into) (sx_piece into) (t_X5_law_fact hq9) hq10) ⟨by decide, by decide⟩ (Nat.le_of_ble_eq_true rfl) ⟨rfl, rfl⟩ ?_
        refine mw_pop dX5_column_84 rfl ?_
        refine mw_iload_n dX5_column_85 2 rfl ?_
        refine mh_jw (fun J12 => ∀ (s11 : Int64), J12 s11 = some res → w_X5_column (SHX into) (mh_ret (some (.int res.1)) (SHX into) res.2.1 res.2.2) q10.2.1 q10.2.2 113 [] [.long s11]) h (fun s11 h => ?_) (fun J12 hJ12 h => ?_)
        · obtain ⟨q14, hq14, h⟩ := mh_bind h
          refine mw_sr (dc := 0) cs_X5_74 wd_303 dX5_column_113 [.long s11] [.long s11] rfl rfl (t_J13_bitCount_95d88 hq14) ⟨by decide, by decide⟩ (Nat.le_of_ble_eq_true rfl) ⟨rfl, rfl⟩ ?_
          obtain rfl := Option.some.inj h
          exact mw_iret dX5_column_116 rfl rfl (Nat.le_of_ble_eq_true rfl) (Nat.le_refl 0) mh_ret_rfl
        · refine mw_if_ne (tgt := 99) dX5_column_86 (by decide) (fun hc13 => ?_) (fun hc13 => ?_)
          · replace h := mh_ifn hc13 h
            refine mw_aload_n dX5_column_99 0 rfl ?_
            refine mw_getr (b := 10) (fs := fsX5) gf_X5_35 dX5_column_100 rfl rfl ?_
            refine mw_getl (fs := (fsX0 10)) gf_X5_167 dX5_column_103 (sx_fall into).1 rfl ?_
            refine mw_lload dX5_column_106 3 rfl ?_
            refine mw_ldc2 dX5_column_108 wd_413 ?_
            refine mw_lxor dX5_column_111 ?_
            refine mw_land dX5_column_112 ?_
            refine mw_loc [] rfl ?_
            exact hJ12 _ h
          · replace h := mh_ifp hc13 h
            refine mw_aload_n dX5_column_89 0 rfl ?_
            refine mw_getr (b := 10) (fs := fsX5) gf_X5_35 dX5_column_90 rfl rfl ?_
            refine mw_getl (fs := (fsX0 10)) gf_X5_167 dX5_column_93 (sx_fall into).1 rfl ?_
            refine mw_goto (tgt := 113) dX5_column_96 (by decide) ?_
            refine mw_loc [] rfl ?_
            exact hJ12 _ h
      · replace h := mh_ifp hc15 h
        refine mw_bipush (v := -7) dX5_column_28 (by decide) ?_
        obtain rfl := Option.some.inj h
        exact mw_iret dX5_column_30 rfl rfl (Nat.le_of_ble_eq_true rfl) (Nat.le_refl 0) mh_ret_rfl
  · replace h := mh_ifp hc17 h
    refine mw_bipush (v := -5) dX5_column_9 (by decide) ?_
    obtain rfl := Option.some.inj h
    exact mw_iret dX5_column_11 rfl rfl (Nat.le_of_ble_eq_true rfl) (Nat.le_refl 0) mh_ret_rfl
abbrev w_X5_line (sh : List mh_C) (Φ : mh_P) (I : mh_I) (L : mh_L) (pc : Nat) (lv : List (Nat × Value)) (st : List Value) : Prop := mh_W RX5 cX5_line 4 (some .int) false (mh_rm 6) 46 0 0 mh_noX Φ 0 sh I L pc lv st
def X5_line_l25 (u1 : Int32) (u2 : Int32) : Nat → Int32 → mh_I → mh_L → Option (Int32 × mh_I × mh_L)
  | 0, _, _, _ => none
  | n + 1, u3, I, L => if (99 : Int32) < u3 then some ((-1 : Int32), I, L) else (X5_drop u1 u3 I L).bind (fun q3 => if q3.1 ≤ u2 then mh_b (u3 + (1 : Int32)) (fun b4 => (X5_line_l25 u1 u2 n b4 q3.2.1 q3.2.2)) else some (u3, q3.2.1, q3.2.2))
set_option maxHeartbeats 4000000 in
set_option maxRecDepth 100000 in
theorem t_X5_line_l25 {into : Option Nat} {u1 : Int32} {u2 : Int32} {res : Int32 × mh_I × mh_L} (n : Nat) (u3 : Int32) (I : mh_I) (L : mh_L) (h : X5_line_l25 u1 u2 n u3 I L = some res)  : w_X5_line (SHX into) (mh_ret (some (.int res.1)) (SHX into) res.2.1 res.2.2) I L 25 [(0, .ref 0), (1, .int u1), (2, .int u2), (3, .int u3)] [] := by
  induction n generalizing u3 I L with
  | zero => rw [X5_line_l25] at h; cases h
  | succ n ih =>
    rw [X5_line_l25] at h
    refine mw_iload_n dX5_line_25 3 rfl ?_
    refine mw_bipush (v := 99) dX5_line_26 (by decide) ?_
    refine mw_icmp_gt (tgt := 49) dX5_line_28 (by decide) (fun hc6 => ?_) (fun hc6 => ?_)
    · replace h := mh_ifp hc6 h
      refine mw_iconst (v := -1) dX5_line_49 (by decide) ?_
      obtain rfl := Option.some.inj h
      exact mw_iret dX5_line_50 rfl rfl (Nat.le_of_ble_eq_true rfl) (Nat.le_refl 0) mh_ret_rfl
    · replace h := mh_ifn hc6 h
      refine mw_aload_n dX5_line_31 0 rfl ?_
      refine mw_iload_n dX5_line_32 1 rfl ?_
      refine mw_iload_n dX5_line_33 3 rfl ?_
      obtain ⟨q3, hq3, h⟩ := mh_bind h
      refine mw_vr (dc := 5) (ci := 5) (fs := fsX5) (T := TX5) (N := 9) cv_X5_163 wd_457 dX5_line_34 [.int u1, .int u3] [.int u3, .int u1, .ref 0] rfl rfl rfl rfl (t_X5_drop hq3) ⟨by decide, by decide⟩ (Nat.le_of_ble_eq_true rfl) ⟨rfl, rfl⟩ ?_
      refine mw_iload_n dX5_line_37 2 rfl ?_
      refine mw_icmp_le (tgt := 43) dX5_line_38 (by decide) (fun hc5 => ?_) (fun hc5 => ?_)
      · replace h := mh_ifp hc5 h
        obtain ⟨b4, eb4, h⟩ := mh_b_some h
        refine mw_iinc (v := b4) dX5_line_43 3 rfl (by rw [← eb4]; rfl) (by decide) rfl ?_
        refine mw_goto (tgt := 25) dX5_line_46 (by decide) ?_
        refine mw_loc [1, 2, 3, 0] rfl ?_
        exact ih _ _ _ h
      · replace h := mh_ifn hc5 h
        refine mw_iload_n dX5_line_41 3 rfl ?_
        obtain rfl := Option.some.inj h
        exact mw_iret dX5_line_42 rfl rfl (Nat.le_of_ble_eq_true rfl) (Nat.le_refl 0) mh_ret_rfl
def X5_line (p1 : Int32) (p2 : Int32) (I : mh_I) (L : mh_L) : Option (Int32 × mh_I × mh_L) := (X5_isLoop p1).bind (fun q1 => if q1 = 0 then some ((-5 : Int32), I, L) else (X5_within p2 (0 : Int32) (48 : Int32)).bind (fun q2 => if q2 = 0 then some ((-7 : Int32), I, L) else X5_line_l25 p1 p2 mh_fuel (0 : Int32) I L))
set_option maxHeartbeats 4000000 in
set_option maxRecDepth 100000 in
theorem t_X5_line {into : Option Nat} {L : mh_L} {I : mh_I} {p1 : Int32} {p2 : Int32} {res : Int32 × mh_I × mh_L} (h : X5_line p1 p2 I L = some res) : mh_CT yX5_line cX5_line 4 (some .int) (mh_rm 6) (SHX into) I L [.ref 0, .int p1, .int p2] (mh_ret (some (.int res.1)) (SHX into) res.2.1 res.2.2) := by
  refine mh_ofW (ini := false) RX5 rfl (by decide) (fun h => by cases h) (Nat.le_of_ble_eq_true rfl) ?_
  show w_X5_line (SHX into) (mh_ret (some (.int res.1)) (SHX into) res.2.1 res.2.2) I L 0 [(0, .ref 0), (1, .int p1), (2, .int p2)] []
  unfold X5_line at h
  refine mw_iload_n dX5_line_0 1 rfl ?_
  obtain ⟨q1, hq1, h⟩ := mh_bind h
  refine mw_sz (dc := 1) cs_X5_101 wd_329 dX5_line_1 [.int p1] [.int p1] rfl rfl (t_X5_isLoop hq1) ⟨by decide, by decide⟩ (Nat.le_of_ble_eq_true rfl) ⟨rfl, rfl⟩ (fun zq1 => ?_)
  refine mw_if_ne (tgt := 10) dX5_line_4 (by decide) (fun hc8 => ?_) (fun hc8 => ?_)
  · replace h := mh_ifn hc8 h
    refine mw_iload_n dX5_line_10 2 rfl ?_
    refine mw_iconst (v := 0) dX5_line_11 (by decide) ?_
    refine mw_bipush (v := 48) dX5_line_12 (by decide) ?_
    obtain ⟨q2, hq2, h⟩ := mh_bind h
    refine mw_sz (dc := 0) cs_X5_97 wd_223 dX5_line_14 [.int p2, .int (0 : Int32), .int (48 : Int32)] [.int (48 : Int32), .int (0 : Int32), .int p2] rfl rfl (t_X5_within hq2) ⟨by decide, by decide⟩ (Nat.le_of_ble_eq_true rfl) ⟨rfl, rfl⟩ (fun zq2 => ?_)
    refine mw_if_ne (tgt := 23) dX5_line_17 (by decide) (fun hc7 => ?_) (fun hc7 => ?_)
    · replace h := mh_ifn hc7 h
      refine mw_iconst (v := 0) dX5_line_23 (by decide) ?_
      refine mw_istore_n dX5_line_24 (by decide) rfl ?_
      refine mw_loc [1, 2, 3, 0] rfl ?_
      exact t_X5_line_l25  _ _ _ _ h 
    · replace h := mh_ifp hc7 h
      refine mw_bipush (v := -7) dX5_line_20 (by decide) ?_
      obtain rfl := Option.some.inj h
      exact mw_iret dX5_line_22 rfl rfl (Nat.le_of_ble_eq_true rfl) (Nat.le_refl 0) mh_ret_rfl
  · replace h := mh_ifp hc8 h
    refine mw_bipush (v := -5) dX5_line_7 (by decide) ?_
    obtain rfl := Option.some.inj h
    exact mw_iret dX5_line_9 rfl rfl (Nat.le_of_ble_eq_true rfl) (Nat.le_refl 0) mh_ret_rfl
abbrev w_X5_reach (sh : List mh_C) (Φ : mh_P) (I : mh_I) (L : mh_L) (pc : Nat) (lv : List (Nat × Value)) (st : List Value) : Prop := mh_W RX5 cX5_reach 4 (some .int) false (mh_rm 6) 46 0 0 mh_noX Φ 0 sh I L pc lv st
def X5_reach_l19 (u1 : Int32) (u2 : Int32) : Nat → Int32 → mh_I → mh_L → Option (Int32 × mh_I × mh_L)
  | 0, _, _, _ => none
  | n + 1, u3, I, L => if (99 : Int32) < u3 then some ((-1 : Int32), I, L) else (X5_drop u1 u3 I L).bind (fun q3 => (X5_hasBit (q3.2.2 10 1) u2).bind (fun q4 => if q4 = 0 then mh_b (u3 + (1 : Int32)) (fun b5 => (X5_reach_l19 u1 u2 n b5 q3.2.1 q3.2.2)) else some (u3, q3.2.1, q3.2.2)))
set_option maxHeartbeats 4000000 in
set_option maxRecDepth 100000 in
theorem t_X5_reach_l19 {into : Option Nat} {u1 : Int32} {u2 : Int32} {res : Int32 × mh_I × mh_L} (n : Nat) (u3 : Int32) (I : mh_I) (L : mh_L) (h : X5_reach_l19 u1 u2 n u3 I L = some res)  : w_X5_reach (SHX into) (mh_ret (some (.int res.1)) (SHX into) res.2.1 res.2.2) I L 19 [(0, .ref 0), (1, .int u1), (2, .int u2), (3, .int u3)] [] := by
  induction n generalizing u3 I L with
  | zero => rw [X5_reach_l19] at h; cases h
  | succ n ih =>
    rw [X5_reach_l19] at h
    refine mw_iload_n dX5_reach_19 3 rfl ?_
    refine mw_bipush (v := 99) dX5_reach_20 (by decide) ?_
    refine mw_icmp_gt (tgt := 54) dX5_reach_22 (by decide) (fun hc7 => ?_) (fun hc7 => ?_)
    · replace h := mh_ifp hc7 h
      refine mw_iconst (v := -1) dX5_reach_54 (by decide) ?_
      obtain rfl := Option.some.inj h
      exact mw_iret dX5_reach_55 rfl rfl (Nat.le_of_ble_eq_true rfl) (Nat.le_refl 0) mh_ret_rfl
    · replace h := mh_ifn hc7 h
      refine mw_aload_n dX5_reach_25 0 rfl ?_
      refine mw_iload_n dX5_reach_26 1 rfl ?_
      refine mw_iload_n dX5_reach_27 3 rfl ?_
      obtain ⟨q3, hq3, h⟩ := mh_bind h
      refine mw_vr (dc := 5) (ci := 5) (fs := fsX5) (T := TX5) (N := 9) cv_X5_163 wd_457 dX5_reach_28 [.int u1, .int u3] [.int u3, .int u1, .ref 0] rfl rfl rfl rfl (t_X5_drop hq3) ⟨by decide, by decide⟩ (Nat.le_of_ble_eq_true rfl) ⟨rfl, rfl⟩ ?_
      refine mw_pop dX5_reach_31 rfl ?_
      refine mw_aload_n dX5_reach_32 0 rfl ?_
      refine mw_getr (b := 10) (fs := fsX5) gf_X5_35 dX5_reach_33 rfl rfl ?_
      refine mw_getl (fs := (fsX0 10)) gf_X5_167 dX5_reach_36 (sx_fall into).1 rfl ?_
      refine mw_iload_n dX5_reach_39 2 rfl ?_
      obtain ⟨q4, hq4, h⟩ := mh_bind h
      refine mw_sz (dc := 0) cs_X5_139 wd_357 dX5_reach_40 [.long (q3.2.2 10 1), .int u2] [.int u2, .long (q3.2.2 10 1)] rfl rfl (t_X5_hasBit hq4) ⟨by decide, by decide⟩ (Nat.le_of_ble_eq_true rfl) ⟨rfl, rfl⟩ (fun zq4 => ?_)
      refine mw_if_eq (tgt := 48) dX5_reach_43 (by decide) (fun hc6 => ?_) (fun hc6 => ?_)
      · replace h := mh_ifp hc6 h
        obtain ⟨b5, eb5, h⟩ := mh_b_some h
        refine mw_iinc (v := b5) dX5_reach_48 3 rfl (by rw [← eb5]; rfl) (by decide) rfl ?_
        refine mw_goto (tgt := 19) dX5_reach_51 (by decide) ?_
        refine mw_loc [1, 2, 3, 0] rfl ?_
        exact ih _ _ _ h
      · replace h := mh_ifn hc6 h
        refine mw_iload_n dX5_reach_46 3 rfl ?_
        obtain rfl := Option.some.inj h
        exact mw_iret dX5_reach_47 rfl rfl (Nat.le_of_ble_eq_true rfl) (Nat.le_refl 0) mh_ret_rfl
def X5_reach (p1 : Int32) (p2 : Int32) (I : mh_I) (L : mh_L) : Option (Int32 × mh_I × mh_L) := (X5_isLoop p1).bind (fun q1 => if q1 = 0 then some ((-5 : Int32), I, L) else (X5_isLoop p2).bind (fun q2 => if q2 = 0 then some ((-5 : Int32), I, L) else X5_reach_l19 p1 p2 mh_fuel (0 : Int32) I L))
set_option maxHeartbeats 4000000 in
set_option maxRecDepth 100000 in
theorem t_X5_reach {into : Option Nat} {L : mh_L} {I : mh_I} {p1 : Int32} {p2 : Int32} {res : Int32 × mh_I × mh_L} (h : X5_reach p1 p2 I L = some res) : mh_CT yX5_reach cX5_reach 4 (some .int) (mh_rm 6) (SHX into) I L [.ref 0, .int p1, .int p2] (mh_ret (some (.int res.1)) (SHX into) res.2.1 res.2.2) := by
  refine mh_ofW (ini := false) RX5 rfl (by decide) (fun h => by cases h) (Nat.le_of_ble_eq_true rfl) ?_
  show w_X5_reach (SHX into) (mh_ret (some (.int res.1)) (SHX into) res.2.1 res.2.2) I L 0 [(0, .ref 0), (1, .int p1), (2, .int p2)] []
  unfold X5_reach at h
  refine mw_iload_n dX5_reach_0 1 rfl ?_
  obtain ⟨q1, hq1, h⟩ := mh_bind h
  refine mw_sz (dc := 1) cs_X5_101 wd_329 dX5_reach_1 [.int p1] [.int p1] rfl rfl (t_X5_isLoop hq1) ⟨by decide, by decide⟩ (Nat.le_of_ble_eq_true rfl) ⟨rfl, rfl⟩ (fun zq1 => ?_)
  refine mw_if_eq (tgt := 14) dX5_reach_4 (by decide) (fun hc9 => ?_) (fun hc9 => ?_)
  · replace h := mh_ifp hc9 h
    refine mw_bipush (v := -5) dX5_reach_14 (by decide) ?_
    obtain rfl := Option.some.inj h
    exact mw_iret dX5_reach_16 rfl rfl (Nat.le_of_ble_eq_true rfl) (Nat.le_refl 0) mh_ret_rfl
  · replace h := mh_ifn hc9 h
    refine mw_iload_n dX5_reach_7 2 rfl ?_
    obtain ⟨q2, hq2, h⟩ := mh_bind h
    refine mw_sz (dc := 1) cs_X5_101 wd_329 dX5_reach_8 [.int p2] [.int p2] rfl rfl (t_X5_isLoop hq2) ⟨by decide, by decide⟩ (Nat.le_of_ble_eq_true rfl) ⟨rfl, rfl⟩ (fun zq2 => ?_)
    refine mw_if_ne (tgt := 17) dX5_reach_11 (by decide) (fun hc8 => ?_) (fun hc8 => ?_)
    · replace h := mh_ifn hc8 h
      refine mw_iconst (v := 0) dX5_reach_17 (by decide) ?_
      refine mw_istore_n dX5_reach_18 (by decide) rfl ?_
      refine mw_loc [1, 2, 3, 0] rfl ?_
      exact t_X5_reach_l19  _ _ _ _ h 
    · replace h := mh_ifp hc8 h
      refine mw_bipush (v := -5) dX5_reach_14 (by decide) ?_
      obtain rfl := Option.some.inj h
      exact mw_iret dX5_reach_16 rfl rfl (Nat.le_of_ble_eq_true rfl) (Nat.le_refl 0) mh_ret_rfl
abbrev w_X5_dropBoth (sh : List mh_C) (Φ : mh_P) (I : mh_I) (L : mh_L) (pc : Nat) (lv : List (Nat × Value)) (st : List Value) : Prop := mh_W RX5 cX5_dropBoth 4 (some .int) false (mh_rm 5) 46 0 0 mh_noX Φ 0 sh I L pc lv st
def X5_dropBoth (p1 : Int32) (p2 : Int32) (p3 : Int32) (I : mh_I) (L : mh_L) : Option (Int32 × mh_I × mh_L) := if ((mh_rem p1 (6 : Int32)) / (2 : Int32)) = ((mh_rem p2 (6 : Int32)) / (2 : Int32)) then (X5_law I).bind (fun q1 => (X5_bit p1).bind (fun q2 => (X5_bit p2).bind (fun q3 => (X0_runFrom 10 1 q1 (q2 ||| q3) (0 : Int64) p3 I L).bind (fun q4 => some (q4.1, q4.2.1, q4.2.2))))) else mh_ix p1 48 (fun k5 => mh_ix p2 48 (fun k7 => (J13_bitCount_95d88 ((L 13 k5) ||| (L 13 k7))).bind (fun q9 => some (q9, I, L))))
set_option maxHeartbeats 4000000 in
set_option maxRecDepth 100000 in
theorem t_X5_dropBoth {into : Option Nat} {L : mh_L} {I : mh_I} {p1 : Int32} {p2 : Int32} {p3 : Int32} {res : Int32 × mh_I × mh_L} (h : X5_dropBoth p1 p2 p3 I L = some res) : mh_CT yX5_dropBoth cX5_dropBoth 4 (some .int) (mh_rm 5) (SHX into) I L [.ref 0, .int p1, .int p2, .int p3] (mh_ret (some (.int res.1)) (SHX into) res.2.1 res.2.2) := by
  refine mh_ofW (ini := false) RX5 rfl (by decide) (fun h => by cases h) (Nat.le_of_ble_eq_true rfl) ?_
  show w_X5_dropBoth (SHX into) (mh_ret (some (.int res.1)) (SHX into) res.2.1 res.2.2) I L 0 [(0, .ref 0), (1, .int p1), (2, .int p2), (3, .int p3)] []
  unfold X5_dropBoth at h
  refine mw_iload_n dX5_dropBoth_0 1 rfl ?_
  refine mw_bipush (v := 6) dX5_dropBoth_1 (by decide) ?_
  refine mw_irem dX5_dropBoth_3 (by decide) ?_
  refine mw_iconst (v := 2) dX5_dropBoth_4 (by decide) ?_
  refine mw_idiv dX5_dropBoth_5 (by decide) ?_
  refine mw_iload_n dX5_dropBoth_6 2 rfl ?_
  refine mw_bipush (v := 6) dX5_dropBoth_7 (by decide) ?_
  refine mw_irem dX5_dropBoth_9 (by decide) ?_
  refine mw_iconst (v := 2) dX5_dropBoth_10 (by decide) ?_
  refine mw_idiv dX5_dropBoth_11 (by decide) ?_
  refine mw_icmp_eq (tgt := 32) dX5_dropBoth_12 (by decide) (fun hc10 => ?_) (fun hc10 => ?_)
  · replace h := mh_ifp hc10 h
    refine mw_aload_n dX5_dropBoth_32 0 rfl ?_
    refine mw_getr (b := 10) (fs := fsX5) gf_X5_35 dX5_dropBoth_33 rfl rfl ?_
    refine mw_aload_n dX5_dropBoth_36 0 rfl ?_
    refine mw_getr (b := 1) (fs := fsX5) gf_X5_10 dX5_dropBoth_37 rfl rfl ?_
    refine mw_aload_n dX5_dropBoth_40 0 rfl ?_
    obtain ⟨q1, hq1, h⟩ := mh_bind h
    refine mw_vr (dc := 0) (ci := 5) (fs := fsX5) (T := TX5) (N := 9) cv_X5_107 wd_336 dX5_dropBoth_41 [] [.ref 0, .ref 1, .ref 10] rfl rfl rfl rfl (t_X5_law hq1) ⟨by decide, by decide⟩ (Nat.le_of_ble_eq_true rfl) ⟨rfl, rfl⟩ ?_
    refine mw_iload_n dX5_dropBoth_44 1 rfl ?_
    obtain ⟨q2, hq2, h⟩ := mh_bind h
    refine mw_sr (dc := 0) cs_X5_143 wd_412 dX5_dropBoth_45 [.int p1] [.int p1, .ref q1, .ref 1, .ref 10] rfl rfl (t_X5_bit hq2) ⟨by decide, by decide⟩ (Nat.le_of_ble_eq_true rfl) ⟨rfl, rfl⟩ ?_
    refine mw_iload_n dX5_dropBoth_48 2 rfl ?_
    obtain ⟨q3, hq3, h⟩ := mh_bind h
    refine mw_sr (dc := 0) cs_X5_143 wd_412 dX5_dropBoth_49 [.int p2] [.int p2, .long q2, .ref q1, .ref 1, .ref 10] rfl rfl (t_X5_bit hq3) ⟨by decide, by decide⟩ (Nat.le_of_ble_eq_true rfl) ⟨rfl, rfl⟩ ?_
    refine mw_lor dX5_dropBoth_52 ?_
    refine mw_lconst (v := 0) dX5_dropBoth_53 (by decide) ?_
    refine mw_iload_n dX5_dropBoth_54 3 rfl ?_
    obtain ⟨q4, hq4, h⟩ := mh_bind h
    refine mw_vr (dc := 4) (ci := 0) (fs := (fsX0 10)) (T := TX0) (N := 3) cv_X5_182 wd_461 dX5_dropBoth_55 [.ref 1, .ref q1, .long (q2 ||| q3), .long (0 : Int64), .int p3] [.int p3, .long (0 : Int64), .long (q2 ||| q3), .ref q1, .ref 1, .ref 10] rfl rfl (sx_fall into).1 rfl (t_X0_runFrom (sx_fall into) (sx_piece into) (t_X5_law_fact hq1) hq4) ⟨by decide, by decide⟩ (Nat.le_of_ble_eq_true rfl) ⟨rfl, rfl⟩ ?_
    obtain rfl := Option.some.inj h
    exact mw_iret dX5_dropBoth_58 rfl rfl (Nat.le_of_ble_eq_true rfl) (Nat.le_refl 0) mh_ret_rfl
  · replace h := mh_ifn hc10 h
    refine mw_aload_n dX5_dropBoth_15 0 rfl ?_
    refine mw_getr (b := 13) (fs := fsX5) gf_X5_45 dX5_dropBoth_16 rfl rfl ?_
    refine mw_iload_n dX5_dropBoth_19 1 rfl ?_
    obtain ⟨k5, hk6, hk6n, hk6l, h⟩ := mh_ix_some h
    refine mw_xlald dX5_dropBoth_20 rfl hk6 hk6n ?_
    refine mw_aload_n dX5_dropBoth_21 0 rfl ?_
    refine mw_getr (b := 13) (fs := fsX5) gf_X5_45 dX5_dropBoth_22 rfl rfl ?_
    refine mw_iload_n dX5_dropBoth_25 2 rfl ?_
    obtain ⟨k7, hk8, hk8n, hk8l, h⟩ := mh_ix_some h
    refine mw_xlald dX5_dropBoth_26 rfl hk8 hk8n ?_
    refine mw_lor dX5_dropBoth_27 ?_
    obtain ⟨q9, hq9, h⟩ := mh_bind h
    refine mw_sr (dc := 0) cs_X5_74 wd_303 dX5_dropBoth_28 [.long ((L 13 k5) ||| (L 13 k7))] [.long ((L 13 k5) ||| (L 13 k7))] rfl rfl (t_J13_bitCount_95d88 hq9) ⟨by decide, by decide⟩ (Nat.le_of_ble_eq_true rfl) ⟨rfl, rfl⟩ ?_
    obtain rfl := Option.some.inj h
    exact mw_iret dX5_dropBoth_31 rfl rfl (Nat.le_of_ble_eq_true rfl) (Nat.le_refl 0) mh_ret_rfl
abbrev w_X5_two (sh : List mh_C) (Φ : mh_P) (I : mh_I) (L : mh_L) (pc : Nat) (lv : List (Nat × Value)) (st : List Value) : Prop := mh_W RX5 cX5_two 9 (some .int) false (mh_rm 6) 46 0 0 mh_noX Φ 0 sh I L pc lv st
def X5_two_l21 (u1 : Int32) (k53 : (mh_I → mh_L → Option (Int32 × mh_I × mh_L))) : Nat → Int32 → mh_I → mh_L → Option (Int32 × mh_I × mh_L)
  | 0, _, _, _ => none
  | n + 1, u3, I, L => if (48 : Int32) ≤ u3 then (k53 I L) else (X5_drop u3 u1 I L).bind (fun q3 => mh_ix u3 48 (fun k4 => mh_b (u3 + (1 : Int32)) (fun b6 => (X5_two_l21 u1 k53 n b6 q3.2.1 (mh_ul q3.2.2 13 k4 (q3.2.2 10 1))))))
set_option maxHeartbeats 4000000 in
set_option maxRecDepth 100000 in
theorem t_X5_two_l21 {into : Option Nat} {u1 : Int32} {u2 : Int32} {k53 : (mh_I → mh_L → Option (Int32 × mh_I × mh_L))} {res : Int32 × mh_I × mh_L} (n : Nat) (u3 : Int32) (I : mh_I) (L : mh_L) (h : X5_two_l21 u1 k53 n u3 I L = some res) (hk53 : ∀ (I : mh_I) (L : mh_L), k53 I L = some res → w_X5_two (SHX into) (mh_ret (some (.int res.1)) (SHX into) res.2.1 res.2.2) I L 53 [(0, .ref 0), (1, .int u1), (2, .int u2)] []) : w_X5_two (SHX into) (mh_ret (some (.int res.1)) (SHX into) res.2.1 res.2.2) I L 21 [(0, .ref 0), (1, .int u1), (2, .int u2), (3, .int u3)] [] := by
  induction n generalizing u3 I L with
  | zero => rw [X5_two_l21] at h; cases h
  | succ n ih =>
    rw [X5_two_l21] at h
    refine mw_iload_n dX5_two_21 3 rfl ?_
    refine mw_bipush (v := 48) dX5_two_22 (by decide) ?_
    refine mw_icmp_ge (tgt := 53) dX5_two_24 (by decide) (fun hc7 => ?_) (fun hc7 => ?_)
    · replace h := mh_ifp hc7 h
      refine mw_loc [0, 1, 2] rfl ?_
      exact hk53 _ _ h
    · replace h := mh_ifn hc7 h
      refine mw_aload_n dX5_two_27 0 rfl ?_
      refine mw_iload_n dX5_two_28 3 rfl ?_
      refine mw_iload_n dX5_two_29 1 rfl ?_
      obtain ⟨q3, hq3, h⟩ := mh_bind h
      refine mw_vr (dc := 5) (ci := 5) (fs := fsX5) (T := TX5) (N := 9) cv_X5_163 wd_457 dX5_two_30 [.int u3, .int u1] [.int u1, .int u3, .ref 0] rfl rfl rfl rfl (t_X5_drop hq3) ⟨by decide, by decide⟩ (Nat.le_of_ble_eq_true rfl) ⟨rfl, rfl⟩ ?_
      refine mw_pop dX5_two_33 rfl ?_
      refine mw_aload_n dX5_two_34 0 rfl ?_
      refine mw_getr (b := 13) (fs := fsX5) gf_X5_45 dX5_two_35 rfl rfl ?_
      refine mw_iload_n dX5_two_38 3 rfl ?_
      refine mw_aload_n dX5_two_39 0 rfl ?_
      refine mw_getr (b := 10) (fs := fsX5) gf_X5_35 dX5_two_40 rfl rfl ?_
      refine mw_getl (fs := (fsX0 10)) gf_X5_167 dX5_two_43 (sx_fall into).1 rfl ?_
      obtain ⟨k4, hk5, hk5n, hk5l, h⟩ := mh_ix_some h
      refine mw_xlast dX5_two_46 rfl hk5 hk5n ?_
      obtain ⟨b6, eb6, h⟩ := mh_b_some h
      refine mw_iinc (v := b6) dX5_two_47 3 rfl (by rw [← eb6]; rfl) (by decide) rfl ?_
      refine mw_goto (tgt := 21) dX5_two_50 (by decide) ?_
      refine mw_loc [1, 2, 3, 0] rfl ?_
      exact ih _ _ _ h
def X5_two_l77 (u1 : Int32) (u6 : Int32) (k119 : (Int32 → Int32 → Int32 → mh_I → mh_L → Option (Int32 × mh_I × mh_L))) : Nat → Int32 → Int32 → Int32 → Int32 → mh_I → mh_L → Option (Int32 × mh_I × mh_L)
  | 0, _, _, _, _, _, _ => none
  | n + 1, u3, u4, u5, u7, I, L => if (48 : Int32) ≤ u7 then (k119 u3 u4 u5 I L) else (X5_dropBoth u6 u7 u1 I L).bind (fun q11 => mh_b q11.1 (fun b12 => mh_j (fun (v13 : Int32) (v14 : Int32) (v15 : Int32) => mh_b (u7 + (1 : Int32)) (fun b18 => (X5_two_l77 u1 u6 k119 n v13 v14 v15 b18 q11.2.1 q11.2.2))) (fun J16 => if b12 ≤ u5 then (J16 u3 u4 u5) else (J16 u6 u7 b12))))
set_option maxHeartbeats 4000000 in
set_option maxRecDepth 100000 in
theorem t_X5_two_l77 {into : Option Nat} {u1 : Int32} {u2 : Int32} {u6 : Int32} {k119 : (Int32 → Int32 → Int32 → mh_I → mh_L → Option (Int32 × mh_I × mh_L))} {res : Int32 × mh_I × mh_L} (n : Nat) (u3 : Int32) (u4 : Int32) (u5 : Int32) (u7 : Int32) (I : mh_I) (L : mh_L) (h : X5_two_l77 u1 u6 k119 n u3 u4 u5 u7 I L = some res) (hk119 : ∀ (u3 : Int32) (u4 : Int32) (u5 : Int32) (I : mh_I) (L : mh_L), k119 u3 u4 u5 I L = some res → w_X5_two (SHX into) (mh_ret (some (.int res.1)) (SHX into) res.2.1 res.2.2) I L 119 [(0, .ref 0), (1, .int u1), (2, .int u2), (3, .int u3), (4, .int u4), (5, .int u5), (6, .int u6)] []) : w_X5_two (SHX into) (mh_ret (some (.int res.1)) (SHX into) res.2.1 res.2.2) I L 77 [(0, .ref 0), (1, .int u1), (2, .int u2), (3, .int u3), (4, .int u4), (5, .int u5), (6, .int u6), (7, .int u7)] [] := by
  induction n generalizing u3 u4 u5 u7 I L with
  | zero => rw [X5_two_l77] at h; cases h
  | succ n ih =>
    rw [X5_two_l77] at h
    refine mw_iload dX5_two_77 7 rfl ?_
    refine mw_bipush (v := 48) dX5_two_79 (by decide) ?_
    refine mw_icmp_ge (tgt := 119) dX5_two_81 (by decide) (fun hc19 => ?_) (fun hc19 => ?_)
    · replace h := mh_ifp hc19 h
      refine mw_loc [0, 1, 2, 3, 4, 5, 6] rfl ?_
      exact hk119 _ _ _ _ _ h
    · replace h := mh_ifn hc19 h
      refine mw_aload_n dX5_two_84 0 rfl ?_
      refine mw_iload dX5_two_85 6 rfl ?_
      refine mw_iload dX5_two_87 7 rfl ?_
      refine mw_iload_n dX5_two_89 1 rfl ?_
      obtain ⟨q11, hq11, h⟩ := mh_bind h
      refine mw_vr (dc := 5) (ci := 5) (fs := fsX5) (T := TX5) (N := 9) cv_X5_186 wd_523 dX5_two_90 [.int u6, .int u7, .int u1] [.int u1, .int u7, .int u6, .ref 0] rfl rfl rfl rfl (t_X5_dropBoth hq11) ⟨by decide, by decide⟩ (Nat.le_of_ble_eq_true rfl) ⟨rfl, rfl⟩ ?_
      obtain ⟨b12, eb12, h⟩ := mh_b_some h
      refine mw_nmi eb12 ?_
      refine mw_istore dX5_two_93 (by decide) rfl ?_
      refine mw_iload dX5_two_95 0 rfl ?_
      refine mw_iload dX5_two_97 6 rfl ?_
      refine mh_jw (fun J16 => ∀ (v13 : Int32) (v14 : Int32) (v15 : Int32), J16 v13 v14 v15 = some res → w_X5_two (SHX into) (mh_ret (some (.int res.1)) (SHX into) res.2.1 res.2.2) q11.2.1 q11.2.2 113 [(0, .ref 0), (1, .int u1), (2, .int u2), (3, .int v13), (4, .int v14), (5, .int v15), (6, .int u6), (7, .int u7)] []) h (fun v13 v14 v15 h => ?_) (fun J16 hJ16 h => ?_)
      · obtain ⟨b18, eb18, h⟩ := mh_b_some h
        refine mw_iinc (v := b18) dX5_two_113 7 rfl (by rw [← eb18]; rfl) (by decide) rfl ?_
        refine mw_goto (tgt := 77) dX5_two_116 (by decide) ?_
        refine mw_loc [1, 2, 3, 4, 5, 6, 7, 0] rfl ?_
        exact ih _ _ _ _ _ _ h
      · refine mw_icmp_le (tgt := 113) dX5_two_99 (by decide) (fun hc17 => ?_) (fun hc17 => ?_)
        · replace h := mh_ifp hc17 h
          refine mw_loc [1, 2, 3, 4, 5, 6, 7, 8] rfl ?_
          exact hJ16 _ _ _ h
        · replace h := mh_ifn hc17 h
          refine mw_iload dX5_two_102 7 rfl ?_
          refine mw_istore_n dX5_two_104 (by decide) rfl ?_
          refine mw_iload dX5_two_105 8 rfl ?_
          refine mw_istore dX5_two_107 (by decide) rfl ?_
          refine mw_iload dX5_two_109 2 rfl ?_
          refine mw_istore dX5_two_111 (by decide) rfl ?_
          refine mw_loc [4, 5, 6, 2, 1, 0, 7, 8] rfl ?_
          exact hJ16 _ _ _ h
def X5_two_l64 (u1 : Int32) (k125 : (Int32 → Int32 → Int32 → mh_I → mh_L → Option (Int32 × mh_I × mh_L))) : Nat → Int32 → Int32 → Int32 → Int32 → mh_I → mh_L → Option (Int32 × mh_I × mh_L)
  | 0, _, _, _, _, _, _ => none
  | n + 1, u3, u4, u5, u6, I, L => if (48 : Int32) ≤ u6 then (k125 u3 u4 u5 I L) else mh_b (u6 + (1 : Int32)) (fun b10 => X5_two_l77 u1 u6 (fun (v20 : Int32) (v21 : Int32) (v22 : Int32) (I23 : mh_I) (L24 : mh_L) => mh_b (u6 + (1 : Int32)) (fun b25 => (X5_two_l64 u1 k125 n v20 v21 v22 b25 I23 L24))) mh_fuel u3 u4 u5 b10 I L)
set_option maxHeartbeats 4000000 in
set_option maxRecDepth 100000 in
theorem t_X5_two_l64 {into : Option Nat} {u1 : Int32} {u2 : Int32} {k125 : (Int32 → Int32 → Int32 → mh_I → mh_L → Option (Int32 × mh_I × mh_L))} {res : Int32 × mh_I × mh_L} (n : Nat) (u3 : Int32) (u4 : Int32) (u5 : Int32) (u6 : Int32) (I : mh_I) (L : mh_L) (h : X5_two_l64 u1 k125 n u3 u4 u5 u6 I L = some res) (hk125 : ∀ (u3 : Int32) (u4 : Int32) (u5 : Int32) (I : mh_I) (L : mh_L), k125 u3 u4 u5 I L = some res → w_X5_two (SHX into) (mh_ret (some (.int res.1)) (SHX into) res.2.1 res.2.2) I L 125 [(0, .ref 0), (2, .int u2), (3, .int u3), (4, .int u4), (5, .int u5)] []) : w_X5_two (SHX into) (mh_ret (some (.int res.1)) (SHX into) res.2.1 res.2.2) I L 64 [(0, .ref 0), (1, .int u1), (2, .int u2), (3, .int u3), (4, .int u4), (5, .int u5), (6, .int u6)] [] := by
  induction n generalizing u3 u4 u5 u6 I L with
  | zero => rw [X5_two_l64] at h; cases h
  | succ n ih =>
    rw [X5_two_l64] at h
    refine mw_iload dX5_two_64 6 rfl ?_
    refine mw_bipush (v := 48) dX5_two_66 (by decide) ?_
    refine mw_icmp_ge (tgt := 125) dX5_two_68 (by decide) (fun hc26 => ?_) (fun hc26 => ?_)
    · replace h := mh_ifp hc26 h
      refine mw_loc [0, 2, 3, 4, 5] rfl ?_
      exact hk125 _ _ _ _ _ h
    · replace h := mh_ifn hc26 h
      refine mw_iload dX5_two_71 6 rfl ?_
      refine mw_iconst (v := 1) dX5_two_73 (by decide) ?_
      refine mw_iadd dX5_two_74 ?_
      obtain ⟨b10, eb10, h⟩ := mh_b_some h
      refine mw_nmi eb10 ?_
      refine mw_istore dX5_two_75 (by decide) rfl ?_
      refine mw_loc [1, 2, 3, 4, 5, 6, 7, 0] rfl ?_
      refine t_X5_two_l77  _ _ _ _ _ _ _ h (fun v20 v21 v22 I23 L24 h => ?_)
      obtain ⟨b25, eb25, h⟩ := mh_b_some h
      refine mw_iinc (v := b25) dX5_two_119 6 rfl (by rw [← eb25]; rfl) (by decide) rfl ?_
      refine mw_goto (tgt := 64) dX5_two_122 (by decide) ?_
      refine mw_loc [1, 2, 3, 4, 5, 6, 0] rfl ?_
      exact ih _ _ _ _ _ _ h
def X5_two (p1 : Int32) (p2 : Int32) (I : mh_I) (L : mh_L) : Option (Int32 × mh_I × mh_L) := (X5_isPull p1).bind (fun q1 => if q1 = 0 then some ((-2 : Int32), I, L) else (X5_within p2 (0 : Int32) (2 : Int32)).bind (fun q2 => if q2 = 0 then some ((-2 : Int32), I, L) else X5_two_l21 p1 (fun (I8 : mh_I) (L9 : mh_L) => X5_two_l64 p1 (fun (v27 : Int32) (v28 : Int32) (v29 : Int32) (I30 : mh_I) (L31 : mh_L) => if p2 = 0 then some ((((100 : Int32) * v27) + v28), I30, L31) else if p2 = 1 then some (v29, I30, L31) else mh_ix v27 48 (fun k34 => mh_ix v28 48 (fun k36 => (J13_bitCount_95d88 ((L31 13 k34) ||| (L31 13 k36))).bind (fun q38 => some ((v29 - q38), I30, L31))))) mh_fuel (0 : Int32) (1 : Int32) (-1 : Int32) (0 : Int32) I8 L9) mh_fuel (0 : Int32) I L))
set_option maxHeartbeats 4000000 in
set_option maxRecDepth 100000 in
theorem t_X5_two {into : Option Nat} {L : mh_L} {I : mh_I} {p1 : Int32} {p2 : Int32} {res : Int32 × mh_I × mh_L} (h : X5_two p1 p2 I L = some res) : mh_CT yX5_two cX5_two 9 (some .int) (mh_rm 6) (SHX into) I L [.ref 0, .int p1, .int p2] (mh_ret (some (.int res.1)) (SHX into) res.2.1 res.2.2) := by
  refine mh_ofW (ini := false) RX5 rfl (by decide) (fun h => by cases h) (Nat.le_of_ble_eq_true rfl) ?_
  show w_X5_two (SHX into) (mh_ret (some (.int res.1)) (SHX into) res.2.1 res.2.2) I L 0 [(0, .ref 0), (1, .int p1), (2, .int p2)] []
  unfold X5_two at h
  refine mw_iload_n dX5_two_0 1 rfl ?_
  obtain ⟨q1, hq1, h⟩ := mh_bind h
  refine mw_sz (dc := 1) cs_X5_104 wd_332 dX5_two_1 [.int p1] [.int p1] rfl rfl (t_X5_isPull hq1) ⟨by decide, by decide⟩ (Nat.le_of_ble_eq_true rfl) ⟨rfl, rfl⟩ (fun zq1 => ?_)
  refine mw_if_eq (tgt := 16) dX5_two_4 (by decide) (fun hc40 => ?_) (fun hc40 => ?_)
  · replace h := mh_ifp hc40 h
    refine mw_bipush (v := -2) dX5_two_16 (by decide) ?_
    obtain rfl := Option.some.inj h
    exact mw_iret dX5_two_18 rfl rfl (Nat.le_of_ble_eq_true rfl) (Nat.le_refl 0) mh_ret_rfl
  · replace h := mh_ifn hc40 h
    refine mw_iload_n dX5_two_7 2 rfl ?_
    refine mw_iconst (v := 0) dX5_two_8 (by decide) ?_
    refine mw_iconst (v := 2) dX5_two_9 (by decide) ?_
    obtain ⟨q2, hq2, h⟩ := mh_bind h
    refine mw_sz (dc := 0) cs_X5_97 wd_223 dX5_two_10 [.int p2, .int (0 : Int32), .int (2 : Int32)] [.int (2 : Int32), .int (0 : Int32), .int p2] rfl rfl (t_X5_within hq2) ⟨by decide, by decide⟩ (Nat.le_of_ble_eq_true rfl) ⟨rfl, rfl⟩ (fun zq2 => ?_)
    refine mw_if_ne (tgt := 19) dX5_two_13 (by decide) (fun hc39 => ?_) (fun hc39 => ?_)
    · replace h := mh_ifn hc39 h
      refine mw_iconst (v := 0) dX5_two_19 (by decide) ?_
      refine mw_istore_n dX5_two_20 (by decide) rfl ?_
      refine mw_loc [1, 2, 3, 0] rfl ?_
      refine t_X5_two_l21  _ _ _ _ h (fun I8 L9 h => ?_)
      refine mw_iconst (v := 0) dX5_two_53 (by decide) ?_
      refine mw_istore_n dX5_two_54 (by decide) rfl ?_
      refine mw_iconst (v := 1) dX5_two_55 (by decide) ?_
      refine mw_istore dX5_two_56 (by decide) rfl ?_
      refine mw_iconst (v := -1) dX5_two_58 (by decide) ?_
      refine mw_istore dX5_two_59 (by decide) rfl ?_
      refine mw_iconst (v := 0) dX5_two_61 (by decide) ?_
      refine mw_istore dX5_two_62 (by decide) rfl ?_
      refine mw_loc [4, 5, 6, 3, 2, 1, 0] rfl ?_
      refine t_X5_two_l64  _ _ _ _ _ _ _ h (fun v27 v28 v29 I30 L31 h => ?_)
      refine mw_iload_n dX5_two_125 1 rfl ?_
      by_cases hc32 : p2 = 0
      · replace h := mh_ifp hc32 h
        refine mw_lookup (off := 26) (tgt := 152) dX5_two_126 (by decide) (by rw [hc32]; rfl) (by decide) ?_
        refine mw_bipush (v := 100) dX5_two_152 (by decide) ?_
        refine mw_iload_n dX5_two_154 2 rfl ?_
        refine mw_imul dX5_two_155 ?_
        refine mw_iload dX5_two_156 3 rfl ?_
        refine mw_iadd dX5_two_158 ?_
        obtain rfl := Option.some.inj h
        exact mw_iret dX5_two_159 rfl rfl (Nat.le_of_ble_eq_true rfl) (Nat.le_refl 0) mh_ret_rfl
      · replace h := mh_ifn hc32 h
        by_cases hc33 : p2 = 1
        · replace h := mh_ifp hc33 h
          refine mw_lookup (off := 34) (tgt := 160) dX5_two_126 (by decide) (by rw [hc33]; rfl) (by decide) ?_
          refine mw_iload dX5_two_160 4 rfl ?_
          obtain rfl := Option.some.inj h
          exact mw_iret dX5_two_162 rfl rfl (Nat.le_of_ble_eq_true rfl) (Nat.le_refl 0) mh_ret_rfl
        · replace h := mh_ifn hc33 h
          refine mw_lookup (off := 37) (tgt := 163) dX5_two_126 (by decide) (by show Op.lookupswitch.offset [(0, 26), (1, 34)] 37 (p2 : Int32).toInt = 37; rw [lv_osw hc32 (by decide), lv_osw hc33 (by decide)]; rfl) (by decide) ?_
          refine mw_iload dX5_two_163 4 rfl ?_
          refine mw_aload_n dX5_two_165 0 rfl ?_
          refine mw_getr (b := 13) (fs := fsX5) gf_X5_45 dX5_two_166 rfl rfl ?_
          refine mw_iload_n dX5_two_169 2 rfl ?_
          obtain ⟨k34, hk35, hk35n, hk35l, h⟩ := mh_ix_some h
          refine mw_xlald dX5_two_170 rfl hk35 hk35n ?_
          refine mw_aload_n dX5_two_171 0 rfl ?_
          refine mw_getr (b := 13) (fs := fsX5) gf_X5_45 dX5_two_172 rfl rfl ?_
          refine mw_iload dX5_two_175 3 rfl ?_
          obtain ⟨k36, hk37, hk37n, hk37l, h⟩ := mh_ix_some h
          refine mw_xlald dX5_two_177 rfl hk37 hk37n ?_
          refine mw_lor dX5_two_178 ?_
          obtain ⟨q38, hq38, h⟩ := mh_bind h
          refine mw_sr (dc := 0) cs_X5_74 wd_303 dX5_two_179 [.long ((L31 13 k34) ||| (L31 13 k36))] [.long ((L31 13 k34) ||| (L31 13 k36)), .int v29] rfl rfl (t_J13_bitCount_95d88 hq38) ⟨by decide, by decide⟩ (Nat.le_of_ble_eq_true rfl) ⟨rfl, rfl⟩ ?_
          refine mw_isub dX5_two_182 ?_
          obtain rfl := Option.some.inj h
          exact mw_iret dX5_two_183 rfl rfl (Nat.le_of_ble_eq_true rfl) (Nat.le_refl 0) mh_ret_rfl
    · replace h := mh_ifp hc39 h
      refine mw_bipush (v := -2) dX5_two_16 (by decide) ?_
      obtain rfl := Option.some.inj h
      exact mw_iret dX5_two_18 rfl rfl (Nat.le_of_ble_eq_true rfl) (Nat.le_refl 0) mh_ret_rfl
abbrev w_X5_all (sh : List mh_C) (Φ : mh_P) (I : mh_I) (L : mh_L) (pc : Nat) (lv : List (Nat × Value)) (st : List Value) : Prop := mh_W RX5 cX5_all 5 (some .int) false (mh_rm 6) 46 0 0 mh_noX Φ 0 sh I L pc lv st
def X5_all_l25 (u1 : Int32) (u2 : Int32) : Nat → Int32 → Int32 → mh_I → mh_L → Option (Int32 × mh_I × mh_L)
  | 0, _, _, _, _ => none
  | n + 1, u3, u4, I, L => if u4 < 0 then some (u3, I, L) else (X5_drop u1 u4 I L).bind (fun q4 => if q4.1 < u2 then some (u3, q4.2.1, q4.2.2) else mh_b (u4 + (-1 : Int32)) (fun b5 => (X5_all_l25 u1 u2 n u4 b5 q4.2.1 q4.2.2)))
set_option maxHeartbeats 4000000 in
set_option maxRecDepth 100000 in
theorem t_X5_all_l25 {into : Option Nat} {u1 : Int32} {u2 : Int32} {res : Int32 × mh_I × mh_L} (n : Nat) (u3 : Int32) (u4 : Int32) (I : mh_I) (L : mh_L) (h : X5_all_l25 u1 u2 n u3 u4 I L = some res)  : w_X5_all (SHX into) (mh_ret (some (.int res.1)) (SHX into) res.2.1 res.2.2) I L 25 [(0, .ref 0), (1, .int u1), (2, .int u2), (3, .int u3), (4, .int u4)] [] := by
  induction n generalizing u3 u4 I L with
  | zero => rw [X5_all_l25] at h; cases h
  | succ n ih =>
    rw [X5_all_l25] at h
    refine mw_iload dX5_all_25 4 rfl ?_
    refine mw_if_lt (tgt := 50) dX5_all_27 (by decide) (fun hc7 => ?_) (fun hc7 => ?_)
    · replace h := mh_ifp hc7 h
      refine mw_iload_n dX5_all_50 3 rfl ?_
      obtain rfl := Option.some.inj h
      exact mw_iret dX5_all_51 rfl rfl (Nat.le_of_ble_eq_true rfl) (Nat.le_refl 0) mh_ret_rfl
    · replace h := mh_ifn hc7 h
      refine mw_aload_n dX5_all_30 0 rfl ?_
      refine mw_iload_n dX5_all_31 1 rfl ?_
      refine mw_iload dX5_all_32 4 rfl ?_
      obtain ⟨q4, hq4, h⟩ := mh_bind h
      refine mw_vr (dc := 5) (ci := 5) (fs := fsX5) (T := TX5) (N := 9) cv_X5_163 wd_457 dX5_all_34 [.int u1, .int u4] [.int u4, .int u1, .ref 0] rfl rfl rfl rfl (t_X5_drop hq4) ⟨by decide, by decide⟩ (Nat.le_of_ble_eq_true rfl) ⟨rfl, rfl⟩ ?_
      refine mw_iload_n dX5_all_37 2 rfl ?_
      refine mw_icmp_lt (tgt := 50) dX5_all_38 (by decide) (fun hc6 => ?_) (fun hc6 => ?_)
      · replace h := mh_ifp hc6 h
        refine mw_iload_n dX5_all_50 3 rfl ?_
        obtain rfl := Option.some.inj h
        exact mw_iret dX5_all_51 rfl rfl (Nat.le_of_ble_eq_true rfl) (Nat.le_refl 0) mh_ret_rfl
      · replace h := mh_ifn hc6 h
        refine mw_iload dX5_all_41 4 rfl ?_
        refine mw_istore_n dX5_all_43 (by decide) rfl ?_
        obtain ⟨b5, eb5, h⟩ := mh_b_some h
        refine mw_iinc (v := b5) dX5_all_44 4 rfl (by rw [← eb5]; rfl) (by decide) rfl ?_
        refine mw_goto (tgt := 25) dX5_all_47 (by decide) ?_
        refine mw_loc [2, 3, 4, 1, 0] rfl ?_
        exact ih _ _ _ _ h
def X5_all (p1 : Int32) (I : mh_I) (L : mh_L) : Option (Int32 × mh_I × mh_L) := (X5_isLoop p1).bind (fun q1 => if q1 = 0 then some ((-5 : Int32), I, L) else (X5_drop p1 (99 : Int32) I L).bind (fun q2 => mh_b q2.1 (fun b3 => X5_all_l25 p1 b3 mh_fuel (99 : Int32) (98 : Int32) q2.2.1 q2.2.2)))
set_option maxHeartbeats 4000000 in
set_option maxRecDepth 100000 in
theorem t_X5_all {into : Option Nat} {L : mh_L} {I : mh_I} {p1 : Int32} {res : Int32 × mh_I × mh_L} (h : X5_all p1 I L = some res) : mh_CT yX5_all cX5_all 5 (some .int) (mh_rm 6) (SHX into) I L [.ref 0, .int p1] (mh_ret (some (.int res.1)) (SHX into) res.2.1 res.2.2) := by
  refine mh_ofW (ini := false) RX5 rfl (by decide) (fun h => by cases h) (Nat.le_of_ble_eq_true rfl) ?_
  show w_X5_all (SHX into) (mh_ret (some (.int res.1)) (SHX into) res.2.1 res.2.2) I L 0 [(0, .ref 0), (1, .int p1)] []
  unfold X5_all at h
  refine mw_iload_n dX5_all_0 1 rfl ?_
  obtain ⟨q1, hq1, h⟩ := mh_bind h
  refine mw_sz (dc := 1) cs_X5_101 wd_329 dX5_all_1 [.int p1] [.int p1] rfl rfl (t_X5_isLoop hq1) ⟨by decide, by decide⟩ (Nat.le_of_ble_eq_true rfl) ⟨rfl, rfl⟩ (fun zq1 => ?_)
  refine mw_if_ne (tgt := 10) dX5_all_4 (by decide) (fun hc8 => ?_) (fun hc8 => ?_)
  · replace h := mh_ifn hc8 h
    refine mw_aload_n dX5_all_10 0 rfl ?_
    refine mw_iload_n dX5_all_11 1 rfl ?_
    refine mw_bipush (v := 99) dX5_all_12 (by decide) ?_
    obtain ⟨q2, hq2, h⟩ := mh_bind h
    refine mw_vr (dc := 5) (ci := 5) (fs := fsX5) (T := TX5) (N := 9) cv_X5_163 wd_457 dX5_all_14 [.int p1, .int (99 : Int32)] [.int (99 : Int32), .int p1, .ref 0] rfl rfl rfl rfl (t_X5_drop hq2) ⟨by decide, by decide⟩ (Nat.le_of_ble_eq_true rfl) ⟨rfl, rfl⟩ ?_
    obtain ⟨b3, eb3, h⟩ := mh_b_some h
    refine mw_nmi eb3 ?_
    refine mw_istore_n dX5_all_17 (by decide) rfl ?_
    refine mw_bipush (v := 99) dX5_all_18 (by decide) ?_
    refine mw_istore_n dX5_all_20 (by decide) rfl ?_
    refine mw_bipush (v := 98) dX5_all_21 (by decide) ?_
    refine mw_istore dX5_all_23 (by decide) rfl ?_
    refine mw_loc [3, 4, 2, 1, 0] rfl ?_
    exact t_X5_all_l25  _ _ _ _ _ h 
  · replace h := mh_ifp hc8 h
    refine mw_bipush (v := -5) dX5_all_7 (by decide) ?_
    obtain rfl := Option.some.inj h
    exact mw_iret dX5_all_9 rfl rfl (Nat.le_of_ble_eq_true rfl) (Nat.le_refl 0) mh_ret_rfl
abbrev w_X5_borneOf (sh : List mh_C) (Φ : mh_P) (I : mh_I) (L : mh_L) (pc : Nat) (lv : List (Nat × Value)) (st : List Value) : Prop := mh_W RX5 cX5_borneOf 4 (some .int) false (mh_rm 2) 46 0 0 mh_noX Φ 0 sh I L pc lv st
def X5_borneOf_l4 (u1 : Int32) (I : mh_I) : Nat → Int32 → Int32 → Option (Int32)
  | 0, _, _ => none
  | n + 1, u2, u3 => if (6 : Int32) ≤ u3 then some u2 else (X1_over 1 ((u1 * (6 : Int32)) + u3) I).bind (fun q1 => mh_j (fun (v2 : Int32) => mh_b (u3 + (1 : Int32)) (fun b6 => (X5_borneOf_l4 u1 I n v2 b6))) (fun J3 => if (lg_cmp q1 (0 : Int64)) = 0 then (J3 u2) else mh_b (u2 + (1 : Int32)) (fun b4 => (J3 b4))))
set_option maxHeartbeats 4000000 in
set_option maxRecDepth 100000 in
theorem t_X5_borneOf_l4 {into : Option Nat} {u1 : Int32} {I : mh_I} {L : mh_L} {res : Int32} (n : Nat) (u2 : Int32) (u3 : Int32) (h : X5_borneOf_l4 u1 I n u2 u3 = some res)  : w_X5_borneOf (SHX into) (mh_ret (some (.int res)) (SHX into) I L) I L 4 [(0, .ref 0), (1, .int u1), (2, .int u2), (3, .int u3)] [] := by
  induction n generalizing u2 u3 with
  | zero => rw [X5_borneOf_l4] at h; cases h
  | succ n ih =>
    rw [X5_borneOf_l4] at h
    refine mw_iload_n dX5_borneOf_4 3 rfl ?_
    refine mw_bipush (v := 6) dX5_borneOf_5 (by decide) ?_
    refine mw_icmp_ge (tgt := 37) dX5_borneOf_7 (by decide) (fun hc7 => ?_) (fun hc7 => ?_)
    · replace h := mh_ifp hc7 h
      refine mw_iload_n dX5_borneOf_37 2 rfl ?_
      obtain rfl := Option.some.inj h
      exact mw_iret dX5_borneOf_38 rfl rfl (Nat.le_of_ble_eq_true rfl) (Nat.le_refl 0) mh_ret_rfl
    · replace h := mh_ifn hc7 h
      refine mw_aload_n dX5_borneOf_10 0 rfl ?_
      refine mw_getr (b := 1) (fs := fsX5) gf_X5_10 dX5_borneOf_11 rfl rfl ?_
      refine mw_iload_n dX5_borneOf_14 1 rfl ?_
      refine mw_bipush (v := 6) dX5_borneOf_15 (by decide) ?_
      refine mw_imul dX5_borneOf_17 ?_
      refine mw_iload_n dX5_borneOf_18 3 rfl ?_
      refine mw_iadd dX5_borneOf_19 ?_
      obtain ⟨q1, hq1, h⟩ := mh_bind h
      refine mw_vr (dc := 1) (ci := 1) (fs := (fsX1 1)) (T := TX1) (N := 5) cv_X5_151 wd_422 dX5_borneOf_20 [.int ((u1 * (6 : Int32)) + u3)] [.int ((u1 * (6 : Int32)) + u3), .ref 1] rfl rfl (sx_piece into).1 rfl (t_X1_over (sx_piece into) hq1) ⟨by decide, by decide⟩ (Nat.le_of_ble_eq_true rfl) ⟨rfl, rfl⟩ ?_
      refine mw_lconst (v := 0) dX5_borneOf_23 (by decide) ?_
      refine mw_lcmp dX5_borneOf_24 ?_
      refine mh_jw (fun J3 => ∀ (v2 : Int32), J3 v2 = some res → w_X5_borneOf (SHX into) (mh_ret (some (.int res)) (SHX into) I L) I L 31 [(0, .ref 0), (1, .int u1), (2, .int v2), (3, .int u3)] []) h (fun v2 h => ?_) (fun J3 hJ3 h => ?_)
      · obtain ⟨b6, eb6, h⟩ := mh_b_some h
        refine mw_iinc (v := b6) dX5_borneOf_31 3 rfl (by rw [← eb6]; rfl) (by decide) rfl ?_
        refine mw_goto (tgt := 4) dX5_borneOf_34 (by decide) ?_
        refine mw_loc [1, 2, 3, 0] rfl ?_
        exact ih _ _ h
      · refine mw_if_eq (tgt := 31) dX5_borneOf_25 (by decide) (fun hc5 => ?_) (fun hc5 => ?_)
        · replace h := mh_ifp hc5 h
          refine mw_loc [0, 1, 2, 3] rfl ?_
          exact hJ3 _ h
        · replace h := mh_ifn hc5 h
          obtain ⟨b4, eb4, h⟩ := mh_b_some h
          refine mw_iinc (v := b4) dX5_borneOf_28 2 rfl (by rw [← eb4]; rfl) (by decide) rfl ?_
          refine mw_loc [1, 2, 0, 3] rfl ?_
          exact hJ3 _ h
def X5_borneOf (p1 : Int32) (I : mh_I) : Option (Int32) := X5_borneOf_l4 p1 I mh_fuel (0 : Int32) (0 : Int32)
set_option maxHeartbeats 4000000 in
set_option maxRecDepth 100000 in
theorem t_X5_borneOf {into : Option Nat} {L : mh_L} {I : mh_I} {p1 : Int32} {res : Int32} (h : X5_borneOf p1 I = some res) : mh_CT yX5_borneOf cX5_borneOf 4 (some .int) (mh_rm 2) (SHX into) I L [.ref 0, .int p1] (mh_ret (some (.int res)) (SHX into) I L) := by
  refine mh_ofW (ini := false) RX5 rfl (by decide) (fun h => by cases h) (Nat.le_of_ble_eq_true rfl) ?_
  show w_X5_borneOf (SHX into) (mh_ret (some (.int res)) (SHX into) I L) I L 0 [(0, .ref 0), (1, .int p1)] []
  unfold X5_borneOf at h
  refine mw_iconst (v := 0) dX5_borneOf_0 (by decide) ?_
  refine mw_istore_n dX5_borneOf_1 (by decide) rfl ?_
  refine mw_iconst (v := 0) dX5_borneOf_2 (by decide) ?_
  refine mw_istore_n dX5_borneOf_3 (by decide) rfl ?_
  refine mw_loc [2, 3, 1, 0] rfl ?_
  exact t_X5_borneOf_l4  _ _ _ h 
