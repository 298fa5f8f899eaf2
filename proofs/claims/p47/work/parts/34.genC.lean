abbrev w_X3_readInto (sh : List mh_C) (Φ : mh_P) (I : mh_I) (L : mh_L) (pc : Nat) (lv : List (Nat × Value)) (st : List Value) : Prop := mh_W RX3 cX3_readInto 3 (some .int) false (mh_rm 101) 46 0 0 mh_noX Φ 0 sh I L pc lv st
def X3_readInto_l23 (tx : Nat) (k90 : (mh_I → Option (Int32 × mh_I × (Option Nat)))) : Nat → Int32 → mh_I → Option (Int32 × mh_I × (Option Nat))
  | 0, _, _ => none
  | n + 1, u2, I => if (3 : Int32) ≤ u2 then (k90 I) else if (I 7 4) = ((300 : Int32) + u2) then (X3_advance I).bind (fun q4 => (X3_grp tx 80 0 (0 : Int32) (0 : Int32) q4).bind (fun q5 => if q5.1 = 0 then some ((q5.2 7 3), q5.2, (some tx)) else if (q5.2 7 4) = (59 : Int32) then (X4_endPart tx u2 q5.2).bind (fun q6 => (X3_advance q6).bind (fun q7 => mh_b (u2 + (1 : Int32)) (fun b8 => (X3_readInto_l23 tx k90 n b8 q7)))) else some ((q5.2 7 3), q5.2, (some tx)))) else some ((I 7 3), I, (some tx))
set_option maxHeartbeats 4000000 in
set_option maxRecDepth 100000 in
theorem t_X3_readInto_l23 {tx : Nat} (hI : hs_X4 (SHX (some tx)) tx) {k90 : (mh_I → Option (Int32 × mh_I × (Option Nat)))} {L : mh_L} {res : Int32 × mh_I × (Option Nat)} (n : Nat) (u2 : Int32) (I : mh_I) (h : X3_readInto_l23 tx k90 n u2 I = some res) (hk90 : ∀ (I : mh_I), k90 I = some res → w_X3_readInto (SHX (some tx)) (mh_ret (some (.int res.1)) (SHX res.2.2) res.2.1 L) I L 90 [(0, .ref 7)] []) : w_X3_readInto (SHX (some tx)) (mh_ret (some (.int res.1)) (SHX res.2.2) res.2.1 L) I L 23 [(0, .ref 7), (2, .int u2)] [] := by
  induction n generalizing u2 I with
  | zero => rw [X3_readInto_l23] at h; cases h
  | succ n ih =>
    rw [X3_readInto_l23] at h
    refine mw_iload_n dX3_readInto_23 1 rfl ?_
    refine mw_iconst (v := 3) dX3_readInto_24 (by decide) ?_
    refine mw_icmp_ge (tgt := 90) dX3_readInto_25 (by decide) (fun hc12 => ?_) (fun hc12 => ?_)
    · replace h := mh_ifp hc12 h
      refine mw_loc [0] rfl ?_
      exact hk90 _ h
    · replace h := mh_ifn hc12 h
      refine mw_aload_n dX3_readInto_28 0 rfl ?_
      refine mw_geti (fs := (fsX3 7 (some tx))) gf_X3_34 dX3_readInto_29 rfl rfl ?_
      refine mw_sipush (v := 300) dX3_readInto_32 (by decide) ?_
      refine mw_iload_n dX3_readInto_35 1 rfl ?_
      refine mw_iadd dX3_readInto_36 ?_
      refine mw_icmp_eq (tgt := 45) dX3_readInto_37 (by decide) (fun hc11 => ?_) (fun hc11 => ?_)
      · replace h := mh_ifp hc11 h
        refine mw_aload_n dX3_readInto_45 0 rfl ?_
        obtain ⟨q4, hq4, h⟩ := mh_bind h
        refine mw_vv (dc := 7) (ci := 3) (fs := (fsX3 7 (some tx))) (T := TX3) (N := 7) cv_X3_31 wd_362 dX3_readInto_46 [] [.ref 7] rfl rfl rfl rfl (t_X3_advance hq4) ⟨by decide, by decide⟩ (Nat.le_of_ble_eq_true rfl) ⟨rfl, rfl⟩ ?_
        refine mw_aload_n dX3_readInto_49 0 rfl ?_
        refine mw_iconst (v := 0) dX3_readInto_50 (by decide) ?_
        refine mw_iconst (v := 0) dX3_readInto_51 (by decide) ?_
        obtain ⟨q5, hq5, h⟩ := mh_bind h
        refine mw_vz (dc := 100) (ci := 3) (fs := (fsX3 7 (some tx))) (T := TX3) (N := 7) cv_X3_40 wd_387 dX3_readInto_52 [.int (0 : Int32), .int (0 : Int32)] [.int (0 : Int32), .int (0 : Int32), .ref 7] rfl rfl rfl rfl (t_X3_grp0 hI hq5) ⟨by decide, by decide⟩ (Nat.le_of_ble_eq_true rfl) ⟨rfl, rfl⟩ (fun zq5 => ?_)
        refine mw_if_eq (tgt := 67) dX3_readInto_55 (by decide) (fun hc10 => ?_) (fun hc10 => ?_)
        · replace h := mh_ifp hc10 h
          refine mw_aload_n dX3_readInto_67 0 rfl ?_
          refine mw_geti (fs := (fsX3 7 (some tx))) gf_X3_37 dX3_readInto_68 rfl rfl ?_
          obtain rfl := Option.some.inj h
          exact mw_iret dX3_readInto_71 rfl rfl (Nat.le_of_ble_eq_true rfl) (Nat.le_refl 0) mh_ret_rfl
        · replace h := mh_ifn hc10 h
          refine mw_aload_n dX3_readInto_58 0 rfl ?_
          refine mw_geti (fs := (fsX3 7 (some tx))) gf_X3_34 dX3_readInto_59 rfl rfl ?_
          refine mw_bipush (v := 59) dX3_readInto_62 (by decide) ?_
          refine mw_icmp_eq (tgt := 72) dX3_readInto_64 (by decide) (fun hc9 => ?_) (fun hc9 => ?_)
          · replace h := mh_ifp hc9 h
            refine mw_aload_n dX3_readInto_72 0 rfl ?_
            refine mw_getr (b := tx) (fs := (fsX3 7 (some tx))) gf_X3_19 dX3_readInto_73 rfl rfl ?_
            refine mw_iload_n dX3_readInto_76 1 rfl ?_
            obtain ⟨q6, hq6, h⟩ := mh_bind h
            refine mw_vv (dc := 0) (ci := 4) (fs := (fsX4 tx)) (T := TX4) (N := 5) cv_X3_44 wd_410 dX3_readInto_77 [.int u2] [.int u2, .ref tx] rfl rfl hI.1 rfl (t_X4_endPart hI hq6) ⟨by decide, by decide⟩ (Nat.le_of_ble_eq_true rfl) ⟨rfl, rfl⟩ ?_
            refine mw_aload_n dX3_readInto_80 0 rfl ?_
            obtain ⟨q7, hq7, h⟩ := mh_bind h
            refine mw_vv (dc := 7) (ci := 3) (fs := (fsX3 7 (some tx))) (T := TX3) (N := 7) cv_X3_31 wd_362 dX3_readInto_81 [] [.ref 7] rfl rfl rfl rfl (t_X3_advance hq7) ⟨by decide, by decide⟩ (Nat.le_of_ble_eq_true rfl) ⟨rfl, rfl⟩ ?_
            obtain ⟨b8, eb8, h⟩ := mh_b_some h
            refine mw_iinc (v := b8) dX3_readInto_84 1 rfl (by rw [← eb8]; rfl) (by decide) rfl ?_
            refine mw_goto (tgt := 23) dX3_readInto_87 (by decide) ?_
            refine mw_loc [1, 0] rfl ?_
            exact ih _ _ h
          · replace h := mh_ifn hc9 h
            refine mw_aload_n dX3_readInto_67 0 rfl ?_
            refine mw_geti (fs := (fsX3 7 (some tx))) gf_X3_37 dX3_readInto_68 rfl rfl ?_
            obtain rfl := Option.some.inj h
            exact mw_iret dX3_readInto_71 rfl rfl (Nat.le_of_ble_eq_true rfl) (Nat.le_refl 0) mh_ret_rfl
      · replace h := mh_ifn hc11 h
        refine mw_aload_n dX3_readInto_40 0 rfl ?_
        refine mw_geti (fs := (fsX3 7 (some tx))) gf_X3_37 dX3_readInto_41 rfl rfl ?_
        obtain rfl := Option.some.inj h
        exact mw_iret dX3_readInto_44 rfl rfl (Nat.le_of_ble_eq_true rfl) (Nat.le_refl 0) mh_ret_rfl
def X3_readInto (p1 : Nat) (I : mh_I) (into : Option Nat) : Option (Int32 × mh_I × (Option Nat)) := (X4_clear p1 I).bind (fun q2 => (X3_advance (mh_u q2 7 2 (0 : Int32))).bind (fun q3 => X3_readInto_l23 p1 (fun (I13 : mh_I) => if (I13 7 4) = 0 then some ((-1 : Int32), I13, (some p1)) else some ((I13 7 3), I13, (some p1))) mh_fuel (0 : Int32) q3))
set_option maxHeartbeats 4000000 in
set_option maxRecDepth 100000 in
theorem t_X3_readInto {into : Option Nat} {L : mh_L} {I : mh_I} {p1 : Nat} (hf1 : hs_X4 (SHX into) p1) {res : Int32 × mh_I × (Option Nat)} (h : X3_readInto p1 I into = some res) : mh_CT yX3_readInto cX3_readInto 3 (some .int) (mh_rm 101) (SHX into) I L [.ref 7, .ref p1] (mh_ret (some (.int res.1)) (SHX res.2.2) res.2.1 L) := by
  refine mh_ofW (ini := false) RX3 rfl (by decide) (fun h => by cases h) (Nat.le_of_ble_eq_true rfl) ?_
  show w_X3_readInto (SHX into) (mh_ret (some (.int res.1)) (SHX res.2.2) res.2.1 L) I L 0 [(0, .ref 7), (1, .ref p1)] []
  unfold X3_readInto at h
  refine mw_aload_n dX3_readInto_0 0 rfl ?_
  refine mw_aload_n dX3_readInto_1 1 rfl ?_
  refine mw_putr (fs := (fsX3 7 into)) pf_X3_19 (fun h => by cases h) rfl dX3_readInto_2 rfl (Nat.le_of_ble_eq_true rfl) ?_
  have hI1 := sx_T4 (T2 := (some p1)) hf1
  show w_X3_readInto (SHX (some p1)) (mh_ret (some (.int res.1)) (SHX res.2.2) res.2.1 L) I L 5 [(0, .ref 7), (1, .ref p1)] []
  refine mw_aload_n dX3_readInto_5 0 rfl ?_
  refine mw_getr (b := p1) (fs := (fsX3 7 (some p1))) gf_X3_19 dX3_readInto_6 rfl rfl ?_
  obtain ⟨q2, hq2, h⟩ := mh_bind h
  refine mw_vv (dc := 0) (ci := 4) (fs := (fsX4 p1)) (T := TX4) (N := 5) cv_X3_23 wd_358 dX3_readInto_9 [] [.ref p1] rfl rfl hI1.1 rfl (t_X4_clear hI1 hq2) ⟨by decide, by decide⟩ (Nat.le_of_ble_eq_true rfl) ⟨rfl, rfl⟩ ?_
  refine mw_aload_n dX3_readInto_12 0 rfl ?_
  refine mw_iconst (v := 0) dX3_readInto_13 (by decide) ?_
  refine mw_puti (fs := (fsX3 7 (some p1))) pf_X3_28 (fun h => by cases h) rfl rfl dX3_readInto_14 rfl rfl ?_
  refine mw_aload_n dX3_readInto_17 0 rfl ?_
  obtain ⟨q3, hq3, h⟩ := mh_bind h
  refine mw_vv (dc := 7) (ci := 3) (fs := (fsX3 7 (some p1))) (T := TX3) (N := 7) cv_X3_31 wd_362 dX3_readInto_18 [] [.ref 7] rfl rfl rfl rfl (t_X3_advance hq3) ⟨by decide, by decide⟩ (Nat.le_of_ble_eq_true rfl) ⟨rfl, rfl⟩ ?_
  refine mw_iconst (v := 0) dX3_readInto_21 (by decide) ?_
  refine mw_istore_n dX3_readInto_22 (by decide) rfl ?_
  refine mw_loc [1, 0] rfl ?_
  refine t_X3_readInto_l23 hI1 _ _ _ h (fun I13 h => ?_)
  refine mw_aload_n dX3_readInto_90 0 rfl ?_
  refine mw_geti (fs := (fsX3 7 (some p1))) gf_X3_34 dX3_readInto_91 rfl rfl ?_
  refine mw_if_ne (tgt := 101) dX3_readInto_94 (by decide) (fun hc14 => ?_) (fun hc14 => ?_)
  · replace h := mh_ifn hc14 h
    refine mw_aload_n dX3_readInto_101 0 rfl ?_
    refine mw_geti (fs := (fsX3 7 (some p1))) gf_X3_37 dX3_readInto_102 rfl rfl ?_
    obtain rfl := Option.some.inj h
    exact mw_iret dX3_readInto_105 rfl rfl (Nat.le_of_ble_eq_true rfl) (Nat.le_refl 0) mh_ret_rfl
  · replace h := mh_ifp hc14 h
    refine mw_iconst (v := -1) dX3_readInto_97 (by decide) ?_
    refine mw_goto (tgt := 105) dX3_readInto_98 (by decide) ?_
    obtain rfl := Option.some.inj h
    exact mw_iret dX3_readInto_105 rfl rfl (Nat.le_of_ble_eq_true rfl) (Nat.le_refl 0) mh_ret_rfl
abbrev w_X5_feed (sh : List mh_C) (Φ : mh_P) (I : mh_I) (L : mh_L) (pc : Nat) (lv : List (Nat × Value)) (st : List Value) : Prop := mh_W RX5 cX5_feed 8 (some .int) false (mh_rm 2) 46 0 0 mh_noX Φ 0 sh I L pc lv st
def X5_feed (p1 : Int32) (p2 : Int32) (p3 : Int32) (p4 : Int32) (p5 : Int32) (p6 : Int32) (I : mh_I) : Option (Int32 × mh_I) := (X5_isByte p2).bind (fun q1 => mh_j (fun (s2 : Int32) => (X5_within p1 (1 : Int32) (5 : Int32)).bind (fun q14 => if q14 = 0 then some ((-2 : Int32), I) else if s2 = 0 then some ((-2 : Int32), I) else if ((I 7 1) + p1) ≤ (160 : Int32) then (X3_add p2 I).bind (fun q15 => mh_j (fun (I16 : mh_I) => mh_j (fun (I20 : mh_I) => mh_j (fun (I24 : mh_I) => if p1 ≤ (4 : Int32) then some ((I24 7 1), I24) else (X3_add p6 I24).bind (fun q28 => some ((q28 7 1), q28))) (fun J25 => if p1 ≤ (3 : Int32) then (J25 I20) else (X3_add p5 I20).bind (fun q26 => (J25 q26)))) (fun J21 => if p1 ≤ (2 : Int32) then (J21 I16) else (X3_add p4 I16).bind (fun q22 => (J21 q22)))) (fun J17 => if p1 ≤ (1 : Int32) then (J17 q15) else (X3_add p3 q15).bind (fun q18 => (J17 q18)))) else some ((-4 : Int32), I))) (fun J3 => mh_j ((J3 (0 : Int32))) (fun J4 => if q1 = 0 then J4 else (X5_isByte p3).bind (fun q5 => if q5 = 0 then J4 else (X5_isByte p4).bind (fun q6 => if q6 = 0 then J4 else (X5_isByte p5).bind (fun q7 => if q7 = 0 then J4 else (X5_isByte p6).bind (fun q8 => if q8 = 0 then J4 else (J3 (1 : Int32)))))))))
set_option maxHeartbeats 4000000 in
set_option maxRecDepth 100000 in
theorem t_X5_feed {into : Option Nat} {L : mh_L} {I : mh_I} {p1 : Int32} {p2 : Int32} {p3 : Int32} {p4 : Int32} {p5 : Int32} {p6 : Int32} {res : Int32 × mh_I} (h : X5_feed p1 p2 p3 p4 p5 p6 I = some res) : mh_CT yX5_feed cX5_feed 8 (some .int) (mh_rm 2) (SHX into) I L [.ref 0, .int p1, .int p2, .int p3, .int p4, .int p5, .int p6] (mh_ret (some (.int res.1)) (SHX into) res.2 L) := by
  refine mh_ofW (ini := false) RX5 rfl (by decide) (fun h => by cases h) (Nat.le_of_ble_eq_true rfl) ?_
  show w_X5_feed (SHX into) (mh_ret (some (.int res.1)) (SHX into) res.2 L) I L 0 [(0, .ref 0), (1, .int p1), (2, .int p2), (3, .int p3), (4, .int p4), (5, .int p5), (6, .int p6)] []
  unfold X5_feed at h
  refine mw_iload_n dX5_feed_0 2 rfl ?_
  obtain ⟨q1, hq1, h⟩ := mh_bind h
  refine mw_sz (dc := 1) cs_X5_93 wd_685 dX5_feed_1 [.int p2] [.int p2] rfl rfl (t_X5_isByte hq1) ⟨by decide, by decide⟩ (Nat.le_of_ble_eq_true rfl) ⟨rfl, rfl⟩ (fun zq1 => ?_)
  refine mh_jw (fun J3 => ∀ (s2 : Int32), J3 s2 = some res → w_X5_feed (SHX into) (mh_ret (some (.int res.1)) (SHX into) res.2 L) I L 43 [(0, .ref 0), (1, .int p1), (2, .int p2), (3, .int p3), (4, .int p4), (5, .int p5), (6, .int p6)] [.int s2]) h (fun s2 h => ?_) (fun J3 hJ3 h => ?_)
  · refine mw_istore dX5_feed_43 (by decide) rfl ?_
    refine mw_iload_n dX5_feed_45 2 rfl ?_
    refine mw_iconst (v := 1) dX5_feed_46 (by decide) ?_
    refine mw_iconst (v := 5) dX5_feed_47 (by decide) ?_
    obtain ⟨q14, hq14, h⟩ := mh_bind h
    refine mw_sz (dc := 0) cs_X5_97 wd_28 dX5_feed_48 [.int p1, .int (1 : Int32), .int (5 : Int32)] [.int (5 : Int32), .int (1 : Int32), .int p1] rfl rfl (t_X5_within hq14) ⟨by decide, by decide⟩ (Nat.le_of_ble_eq_true rfl) ⟨rfl, rfl⟩ (fun zq14 => ?_)
    refine mw_if_eq (tgt := 59) dX5_feed_51 (by decide) (fun hc32 => ?_) (fun hc32 => ?_)
    · replace h := mh_ifp hc32 h
      refine mw_bipush (v := -2) dX5_feed_59 (by decide) ?_
      obtain rfl := Option.some.inj h
      exact mw_iret dX5_feed_61 rfl rfl (Nat.le_of_ble_eq_true rfl) (Nat.le_refl 0) mh_ret_rfl
    · replace h := mh_ifn hc32 h
      refine mw_iload dX5_feed_54 0 rfl ?_
      refine mw_if_ne (tgt := 62) dX5_feed_56 (by decide) (fun hc31 => ?_) (fun hc31 => ?_)
      · replace h := mh_ifn hc31 h
        refine mw_aload_n dX5_feed_62 1 rfl ?_
        refine mw_getr (b := 7) (fs := fsX5) gf_X5_22 dX5_feed_63 rfl rfl ?_
        refine mw_geti (fs := (fsX3 7 into)) gf_X5_90 dX5_feed_66 rfl rfl ?_
        refine mw_iload_n dX5_feed_69 2 rfl ?_
        refine mw_iadd dX5_feed_70 ?_
        refine mw_sipush (v := 160) dX5_feed_71 (by decide) ?_
        refine mw_icmp_le (tgt := 80) dX5_feed_74 (by decide) (fun hc30 => ?_) (fun hc30 => ?_)
        · replace h := mh_ifp hc30 h
          refine mw_aload_n dX5_feed_80 1 rfl ?_
          refine mw_getr (b := 7) (fs := fsX5) gf_X5_22 dX5_feed_81 rfl rfl ?_
          refine mw_iload_n dX5_feed_84 3 rfl ?_
          obtain ⟨q15, hq15, h⟩ := mh_bind h
          refine mw_vv (dc := 0) (ci := 3) (fs := (fsX3 7 into)) (T := TX3) (N := 7) cv_X5_63 wd_346 dX5_feed_85 [.int p2] [.int p2, .ref 7] rfl rfl rfl rfl (t_X3_add hq15) ⟨by decide, by decide⟩ (Nat.le_of_ble_eq_true rfl) ⟨rfl, rfl⟩ ?_
          refine mw_iload_n dX5_feed_88 2 rfl ?_
          refine mw_iconst (v := 1) dX5_feed_89 (by decide) ?_
          refine mh_jw (fun J17 => ∀ (I16 : mh_I), J17 I16 = some res → w_X5_feed (SHX into) (mh_ret (some (.int res.1)) (SHX into) res.2 L) I16 L 101 [(0, .ref 0), (1, .int p1), (4, .int p4), (5, .int p5), (6, .int p6)] []) h (fun I16 h => ?_) (fun J17 hJ17 h => ?_)
          · refine mw_iload_n dX5_feed_101 1 rfl ?_
            refine mw_iconst (v := 2) dX5_feed_102 (by decide) ?_
            refine mh_jw (fun J21 => ∀ (I20 : mh_I), J21 I20 = some res → w_X5_feed (SHX into) (mh_ret (some (.int res.1)) (SHX into) res.2 L) I20 L 115 [(0, .ref 0), (1, .int p1), (5, .int p5), (6, .int p6)] []) h (fun I20 h => ?_) (fun J21 hJ21 h => ?_)
            · refine mw_iload_n dX5_feed_115 1 rfl ?_
              refine mw_iconst (v := 3) dX5_feed_116 (by decide) ?_
              refine mh_jw (fun J25 => ∀ (I24 : mh_I), J25 I24 = some res → w_X5_feed (SHX into) (mh_ret (some (.int res.1)) (SHX into) res.2 L) I24 L 129 [(0, .ref 0), (1, .int p1), (6, .int p6)] []) h (fun I24 h => ?_) (fun J25 hJ25 h => ?_)
              · refine mw_iload_n dX5_feed_129 1 rfl ?_
                refine mw_iconst (v := 4) dX5_feed_130 (by decide) ?_
                refine mw_icmp_le (tgt := 143) dX5_feed_131 (by decide) (fun hc29 => ?_) (fun hc29 => ?_)
                · replace h := mh_ifp hc29 h
                  refine mw_aload_n dX5_feed_143 0 rfl ?_
                  refine mw_getr (b := 7) (fs := fsX5) gf_X5_22 dX5_feed_144 rfl rfl ?_
                  refine mw_geti (fs := (fsX3 7 into)) gf_X5_90 dX5_feed_147 rfl rfl ?_
                  obtain rfl := Option.some.inj h
                  exact mw_iret dX5_feed_150 rfl rfl (Nat.le_of_ble_eq_true rfl) (Nat.le_refl 0) mh_ret_rfl
                · replace h := mh_ifn hc29 h
                  refine mw_aload_n dX5_feed_134 0 rfl ?_
                  refine mw_getr (b := 7) (fs := fsX5) gf_X5_22 dX5_feed_135 rfl rfl ?_
                  refine mw_iload dX5_feed_138 2 rfl ?_
                  obtain ⟨q28, hq28, h⟩ := mh_bind h
                  refine mw_vv (dc := 0) (ci := 3) (fs := (fsX3 7 into)) (T := TX3) (N := 7) cv_X5_63 wd_346 dX5_feed_140 [.int p6] [.int p6, .ref 7] rfl rfl rfl rfl (t_X3_add hq28) ⟨by decide, by decide⟩ (Nat.le_of_ble_eq_true rfl) ⟨rfl, rfl⟩ ?_
                  refine mw_aload_n dX5_feed_143 0 rfl ?_
                  refine mw_getr (b := 7) (fs := fsX5) gf_X5_22 dX5_feed_144 rfl rfl ?_
                  refine mw_geti (fs := (fsX3 7 into)) gf_X5_90 dX5_feed_147 rfl rfl ?_
                  obtain rfl := Option.some.inj h
                  exact mw_iret dX5_feed_150 rfl rfl (Nat.le_of_ble_eq_true rfl) (Nat.le_refl 0) mh_ret_rfl
              · refine mw_icmp_le (tgt := 129) dX5_feed_117 (by decide) (fun hc27 => ?_) (fun hc27 => ?_)
                · replace h := mh_ifp hc27 h
                  refine mw_loc [0, 1, 3] rfl ?_
                  exact hJ25 _ h
                · replace h := mh_ifn hc27 h
                  refine mw_aload_n dX5_feed_120 0 rfl ?_
                  refine mw_getr (b := 7) (fs := fsX5) gf_X5_22 dX5_feed_121 rfl rfl ?_
                  refine mw_iload dX5_feed_124 2 rfl ?_
                  obtain ⟨q26, hq26, h⟩ := mh_bind h
                  refine mw_vv (dc := 0) (ci := 3) (fs := (fsX3 7 into)) (T := TX3) (N := 7) cv_X5_63 wd_346 dX5_feed_126 [.int p5] [.int p5, .ref 7] rfl rfl rfl rfl (t_X3_add hq26) ⟨by decide, by decide⟩ (Nat.le_of_ble_eq_true rfl) ⟨rfl, rfl⟩ ?_
                  refine mw_loc [0, 1, 3] rfl ?_
                  exact hJ25 _ h
            · refine mw_icmp_le (tgt := 115) dX5_feed_103 (by decide) (fun hc23 => ?_) (fun hc23 => ?_)
              · replace h := mh_ifp hc23 h
                refine mw_loc [0, 1, 3, 4] rfl ?_
                exact hJ21 _ h
              · replace h := mh_ifn hc23 h
                refine mw_aload_n dX5_feed_106 0 rfl ?_
                refine mw_getr (b := 7) (fs := fsX5) gf_X5_22 dX5_feed_107 rfl rfl ?_
                refine mw_iload dX5_feed_110 2 rfl ?_
                obtain ⟨q22, hq22, h⟩ := mh_bind h
                refine mw_vv (dc := 0) (ci := 3) (fs := (fsX3 7 into)) (T := TX3) (N := 7) cv_X5_63 wd_346 dX5_feed_112 [.int p4] [.int p4, .ref 7] rfl rfl rfl rfl (t_X3_add hq22) ⟨by decide, by decide⟩ (Nat.le_of_ble_eq_true rfl) ⟨rfl, rfl⟩ ?_
                refine mw_loc [0, 1, 3, 4] rfl ?_
                exact hJ21 _ h
          · refine mw_icmp_le (tgt := 101) dX5_feed_90 (by decide) (fun hc19 => ?_) (fun hc19 => ?_)
            · replace h := mh_ifp hc19 h
              refine mw_loc [1, 2, 5, 6, 7] rfl ?_
              exact hJ17 _ h
            · replace h := mh_ifn hc19 h
              refine mw_aload_n dX5_feed_93 1 rfl ?_
              refine mw_getr (b := 7) (fs := fsX5) gf_X5_22 dX5_feed_94 rfl rfl ?_
              refine mw_iload_n dX5_feed_97 4 rfl ?_
              obtain ⟨q18, hq18, h⟩ := mh_bind h
              refine mw_vv (dc := 0) (ci := 3) (fs := (fsX3 7 into)) (T := TX3) (N := 7) cv_X5_63 wd_346 dX5_feed_98 [.int p3] [.int p3, .ref 7] rfl rfl rfl rfl (t_X3_add hq18) ⟨by decide, by decide⟩ (Nat.le_of_ble_eq_true rfl) ⟨rfl, rfl⟩ ?_
              refine mw_loc [1, 2, 5, 6, 7] rfl ?_
              exact hJ17 _ h
        · replace h := mh_ifn hc30 h
          refine mw_bipush (v := -4) dX5_feed_77 (by decide) ?_
          obtain rfl := Option.some.inj h
          exact mw_iret dX5_feed_79 rfl rfl (Nat.le_of_ble_eq_true rfl) (Nat.le_refl 0) mh_ret_rfl
      · replace h := mh_ifp hc31 h
        refine mw_bipush (v := -2) dX5_feed_59 (by decide) ?_
        obtain rfl := Option.some.inj h
        exact mw_iret dX5_feed_61 rfl rfl (Nat.le_of_ble_eq_true rfl) (Nat.le_refl 0) mh_ret_rfl
  · refine mh_jw (fun J4 => J4 = some res → w_X5_feed (SHX into) (mh_ret (some (.int res.1)) (SHX into) res.2 L) I L 42 [(0, .ref 0), (1, .int p1), (2, .int p2), (3, .int p3), (4, .int p4), (5, .int p5), (6, .int p6)] []) h (fun h => ?_) (fun J4 hJ4 h => ?_)
    · refine mw_iconst (v := 0) dX5_feed_42 (by decide) ?_
      refine mw_loc [0, 1, 2, 3, 4, 5, 6] rfl ?_
      exact hJ3 _ h
    · refine mw_if_eq (tgt := 42) dX5_feed_4 (by decide) (fun hc13 => ?_) (fun hc13 => ?_)
      · replace h := mh_ifp hc13 h
        refine mw_loc [0, 1, 2, 3, 4, 5, 6] rfl ?_
        exact hJ4  h
      · replace h := mh_ifn hc13 h
        refine mw_iload_n dX5_feed_7 3 rfl ?_
        obtain ⟨q5, hq5, h⟩ := mh_bind h
        refine mw_sz (dc := 1) cs_X5_93 wd_685 dX5_feed_8 [.int p3] [.int p3] rfl rfl (t_X5_isByte hq5) ⟨by decide, by decide⟩ (Nat.le_of_ble_eq_true rfl) ⟨rfl, rfl⟩ (fun zq5 => ?_)
        refine mw_if_eq (tgt := 42) dX5_feed_11 (by decide) (fun hc12 => ?_) (fun hc12 => ?_)
        · replace h := mh_ifp hc12 h
          refine mw_loc [0, 1, 2, 3, 4, 5, 6] rfl ?_
          exact hJ4  h
        · replace h := mh_ifn hc12 h
          refine mw_iload dX5_feed_14 4 rfl ?_
          obtain ⟨q6, hq6, h⟩ := mh_bind h
          refine mw_sz (dc := 1) cs_X5_93 wd_685 dX5_feed_16 [.int p4] [.int p4] rfl rfl (t_X5_isByte hq6) ⟨by decide, by decide⟩ (Nat.le_of_ble_eq_true rfl) ⟨rfl, rfl⟩ (fun zq6 => ?_)
          refine mw_if_eq (tgt := 42) dX5_feed_19 (by decide) (fun hc11 => ?_) (fun hc11 => ?_)
          · replace h := mh_ifp hc11 h
            refine mw_loc [0, 1, 2, 3, 4, 5, 6] rfl ?_
            exact hJ4  h
          · replace h := mh_ifn hc11 h
            refine mw_iload dX5_feed_22 5 rfl ?_
            obtain ⟨q7, hq7, h⟩ := mh_bind h
            refine mw_sz (dc := 1) cs_X5_93 wd_685 dX5_feed_24 [.int p5] [.int p5] rfl rfl (t_X5_isByte hq7) ⟨by decide, by decide⟩ (Nat.le_of_ble_eq_true rfl) ⟨rfl, rfl⟩ (fun zq7 => ?_)
            refine mw_if_eq (tgt := 42) dX5_feed_27 (by decide) (fun hc10 => ?_) (fun hc10 => ?_)
            · replace h := mh_ifp hc10 h
              refine mw_loc [0, 1, 2, 3, 4, 5, 6] rfl ?_
              exact hJ4  h
            · replace h := mh_ifn hc10 h
              refine mw_iload dX5_feed_30 6 rfl ?_
              obtain ⟨q8, hq8, h⟩ := mh_bind h
              refine mw_sz (dc := 1) cs_X5_93 wd_685 dX5_feed_32 [.int p6] [.int p6] rfl rfl (t_X5_isByte hq8) ⟨by decide, by decide⟩ (Nat.le_of_ble_eq_true rfl) ⟨rfl, rfl⟩ (fun zq8 => ?_)
              refine mw_if_eq (tgt := 42) dX5_feed_35 (by decide) (fun hc9 => ?_) (fun hc9 => ?_)
              · replace h := mh_ifp hc9 h
                refine mw_loc [0, 1, 2, 3, 4, 5, 6] rfl ?_
                exact hJ4  h
              · replace h := mh_ifn hc9 h
                refine mw_iconst (v := 1) dX5_feed_38 (by decide) ?_
                refine mw_goto (tgt := 43) dX5_feed_39 (by decide) ?_
                refine mw_loc [0, 1, 2, 3, 4, 5, 6] rfl ?_
                exact hJ3 _ h
abbrev w_X5_readTape (sh : List mh_C) (Φ : mh_P) (I : mh_I) (L : mh_L) (pc : Nat) (lv : List (Nat × Value)) (st : List Value) : Prop := mh_W RX5 cX5_readTape 2 (some .int) false (mh_rm 102) 46 0 0 mh_noX Φ 0 sh I L pc lv st
def X5_readTape (I : mh_I) (into : Option Nat) : Option (Int32 × mh_I × (Option Nat)) := if (I 0 5) < (6 : Int32) then mh_ix (I 0 5) 6 (fun k1 => (X3_readInto (14 + 4 * k1) I into).bind (fun q3 => mh_b q3.1 (fun b4 => if b4 < 0 then some (((mh_u q3.2.1 7 1 (0 : Int32)) 0 5), (mh_u (mh_u q3.2.1 7 1 (0 : Int32)) 0 5 (((mh_u q3.2.1 7 1 (0 : Int32)) 0 5) + (1 : Int32))), q3.2.2) else some (((-100 : Int32) - b4), (mh_u q3.2.1 7 1 (0 : Int32)), q3.2.2)))) else some ((-4 : Int32), I, into)
set_option maxHeartbeats 4000000 in
set_option maxRecDepth 100000 in
theorem t_X5_readTape {into : Option Nat} {L : mh_L} {I : mh_I} {res : Int32 × mh_I × (Option Nat)} (h : X5_readTape I into = some res) : mh_CT yX5_readTape cX5_readTape 2 (some .int) (mh_rm 102) (SHX into) I L [.ref 0] (mh_ret (some (.int res.1)) (SHX res.2.2) res.2.1 L) := by
  refine mh_ofW (ini := false) RX5 rfl (by decide) (fun h => by cases h) (Nat.le_of_ble_eq_true rfl) ?_
  show w_X5_readTape (SHX into) (mh_ret (some (.int res.1)) (SHX res.2.2) res.2.1 L) I L 0 [(0, .ref 0)] []
  unfold X5_readTape at h
  refine mw_aload_n dX5_readTape_0 0 rfl ?_
  refine mw_geti (fs := fsX5) gf_X5_83 dX5_readTape_1 rfl rfl ?_
  refine mw_bipush (v := 6) dX5_readTape_4 (by decide) ?_
  refine mw_icmp_lt (tgt := 12) dX5_readTape_6 (by decide) (fun hc6 => ?_) (fun hc6 => ?_)
  · replace h := mh_ifp hc6 h
    refine mw_aload_n dX5_readTape_12 0 rfl ?_
    refine mw_getr (b := 7) (fs := fsX5) gf_X5_22 dX5_readTape_13 rfl rfl ?_
    refine mw_aload_n dX5_readTape_16 0 rfl ?_
    refine mw_getr (b := 9) (fs := fsX5) gf_X5_28 dX5_readTape_17 rfl rfl ?_
    refine mw_aload_n dX5_readTape_20 0 rfl ?_
    refine mw_geti (fs := fsX5) gf_X5_83 dX5_readTape_21 rfl rfl ?_
    obtain ⟨k1, hk2, hk2n, hk2l, h⟩ := mh_ix_some h
    refine mw_xaald (t := 1) dX5_readTape_24 rfl hk2 hk2n (sx_rT hk2l) ?_
    obtain ⟨q3, hq3, h⟩ := mh_bind h
    refine mw_vr (dc := 101) (ci := 3) (fs := (fsX3 7 into)) (T := TX3) (N := 7) cv_X5_280 wd_354 dX5_readTape_25 [.ref (14 + 4 * k1)] [.ref (14 + 4 * k1), .ref 7] rfl rfl rfl rfl (t_X3_readInto (sx_text into hk2l) hq3) ⟨by decide, by decide⟩ (Nat.le_of_ble_eq_true rfl) ⟨rfl, rfl⟩ ?_
    obtain ⟨b4, eb4, h⟩ := mh_b_some h
    refine mw_nmi eb4 ?_
    refine mw_istore_n dX5_readTape_28 (by decide) rfl ?_
    refine mw_aload_n dX5_readTape_29 1 rfl ?_
    refine mw_getr (b := 7) (fs := fsX5) gf_X5_22 dX5_readTape_30 rfl rfl ?_
    refine mw_iconst (v := 0) dX5_readTape_33 (by decide) ?_
    refine mw_puti (fs := (fsX3 7 q3.2.2)) pf_X5_90 (fun h => by cases h) rfl rfl dX5_readTape_34 rfl rfl ?_
    refine mw_iload_n dX5_readTape_37 0 rfl ?_
    refine mw_if_lt (tgt := 46) dX5_readTape_38 (by decide) (fun hc5 => ?_) (fun hc5 => ?_)
    · replace h := mh_ifp hc5 h
      refine mw_aload_n dX5_readTape_46 1 rfl ?_
      refine mw_dup dX5_readTape_47 rfl ?_
      refine mw_geti (fs := fsX5) gf_X5_83 dX5_readTape_48 rfl rfl ?_
      refine mw_dup_x1 dX5_readTape_51 rfl rfl ?_
      refine mw_iconst (v := 1) dX5_readTape_52 (by decide) ?_
      refine mw_iadd dX5_readTape_53 ?_
      refine mw_puti (fs := fsX5) pf_X5_83 (fun h => by cases h) rfl rfl dX5_readTape_54 rfl rfl ?_
      obtain rfl := Option.some.inj h
      exact mw_iret dX5_readTape_57 rfl rfl (Nat.le_of_ble_eq_true rfl) (Nat.le_refl 0) mh_ret_rfl
    · replace h := mh_ifn hc5 h
      refine mw_bipush (v := -100) dX5_readTape_41 (by decide) ?_
      refine mw_iload_n dX5_readTape_43 0 rfl ?_
      refine mw_isub dX5_readTape_44 ?_
      obtain rfl := Option.some.inj h
      exact mw_iret dX5_readTape_45 rfl rfl (Nat.le_of_ble_eq_true rfl) (Nat.le_refl 0) mh_ret_rfl
  · replace h := mh_ifn hc6 h
    refine mw_bipush (v := -4) dX5_readTape_9 (by decide) ?_
    obtain rfl := Option.some.inj h
    exact mw_iret dX5_readTape_11 rfl rfl (Nat.le_of_ble_eq_true rfl) (Nat.le_refl 0) mh_ret_rfl
abbrev w_X5_text (sh : List mh_C) (Φ : mh_P) (I : mh_I) (L : mh_L) (pc : Nat) (lv : List (Nat × Value)) (st : List Value) : Prop := mh_W RX5 cX5_text 1 (some .int) false (mh_rm 103) 46 0 0 mh_noX Φ 0 sh I L pc lv st
def X5_text (I : mh_I) (into : Option Nat) : Option (Int32 × mh_I × (Option Nat)) := (X5_readTape I into).bind (fun q1 => some (q1.1, q1.2.1, q1.2.2))
set_option maxHeartbeats 4000000 in
set_option maxRecDepth 100000 in
theorem t_X5_text {into : Option Nat} {L : mh_L} {I : mh_I} {res : Int32 × mh_I × (Option Nat)} (h : X5_text I into = some res) : mh_CT yX5_text cX5_text 1 (some .int) (mh_rm 103) (SHX into) I L [.ref 0] (mh_ret (some (.int res.1)) (SHX res.2.2) res.2.1 L) := by
  refine mh_ofW (ini := false) RX5 rfl (by decide) (fun h => by cases h) (Nat.le_of_ble_eq_true rfl) ?_
  show w_X5_text (SHX into) (mh_ret (some (.int res.1)) (SHX res.2.2) res.2.1 L) I L 0 [(0, .ref 0)] []
  unfold X5_text at h
  refine mw_aload_n dX5_text_0 0 rfl ?_
  obtain ⟨q1, hq1, h⟩ := mh_bind h
  refine mw_vr (dc := 102) (ci := 5) (fs := fsX5) (T := TX5) (N := 9) cv_X5_67 wd_350 dX5_text_1 [] [.ref 0] rfl rfl rfl rfl (t_X5_readTape hq1) ⟨by decide, by decide⟩ (Nat.le_of_ble_eq_true rfl) ⟨rfl, rfl⟩ ?_
  obtain rfl := Option.some.inj h
  exact mw_iret dX5_text_4 rfl rfl (Nat.le_of_ble_eq_true rfl) (Nat.le_refl 0) mh_ret_rfl
abbrev w_X5_force (sh : List mh_C) (Φ : mh_P) (I : mh_I) (L : mh_L) (pc : Nat) (lv : List (Nat × Value)) (st : List Value) : Prop := mh_W RX5 cX5_force 3 (some .int) false (mh_rm 1) 46 0 0 mh_noX Φ 0 sh I L pc lv st
def X5_force (p1 : Int32) (I : mh_I) : Option (Int32 × mh_I) := (X5_within p1 (0 : Int32) ((I 0 5) - (1 : Int32))).bind (fun q1 => if q1 = 0 then some ((-2 : Int32), I) else mh_b (I 1 4) (fun b2 => some (b2, (mh_u I 1 4 p1))))
set_option maxHeartbeats 4000000 in
set_option maxRecDepth 100000 in
theorem t_X5_force {into : Option Nat} {L : mh_L} {I : mh_I} {p1 : Int32} {res : Int32 × mh_I} (h : X5_force p1 I = some res) : mh_CT yX5_force cX5_force 3 (some .int) (mh_rm 1) (SHX into) I L [.ref 0, .int p1] (mh_ret (some (.int res.1)) (SHX into) res.2 L) := by
  refine mh_ofW (ini := false) RX5 rfl (by decide) (fun h => by cases h) (Nat.le_of_ble_eq_true rfl) ?_
  show w_X5_force (SHX into) (mh_ret (some (.int res.1)) (SHX into) res.2 L) I L 0 [(0, .ref 0), (1, .int p1)] []
  unfold X5_force at h
  refine mw_iload_n dX5_force_0 1 rfl ?_
  refine mw_iconst (v := 0) dX5_force_1 (by decide) ?_
  refine mw_aload_n dX5_force_2 0 rfl ?_
  refine mw_geti (fs := fsX5) gf_X5_83 dX5_force_3 rfl rfl ?_
  refine mw_iconst (v := 1) dX5_force_6 (by decide) ?_
  refine mw_isub dX5_force_7 ?_
  obtain ⟨q1, hq1, h⟩ := mh_bind h
  refine mw_sz (dc := 0) cs_X5_97 wd_28 dX5_force_8 [.int p1, .int (0 : Int32), .int ((I 0 5) - (1 : Int32))] [.int ((I 0 5) - (1 : Int32)), .int (0 : Int32), .int p1] rfl rfl (t_X5_within hq1) ⟨by decide, by decide⟩ (Nat.le_of_ble_eq_true rfl) ⟨rfl, rfl⟩ (fun zq1 => ?_)
  refine mw_if_ne (tgt := 17) dX5_force_11 (by decide) (fun hc3 => ?_) (fun hc3 => ?_)
  · replace h := mh_ifn hc3 h
    refine mw_aload_n dX5_force_17 0 rfl ?_
    refine mw_getr (b := 1) (fs := fsX5) gf_X5_10 dX5_force_18 rfl rfl ?_
    refine mw_geti (fs := (fsX1 1)) gf_X5_87 dX5_force_21 (sx_piece into).1 rfl ?_
    obtain ⟨b2, eb2, h⟩ := mh_b_some h
    refine mw_nmi eb2 ?_
    refine mw_istore_n dX5_force_24 (by decide) rfl ?_
    refine mw_aload_n dX5_force_25 1 rfl ?_
    refine mw_getr (b := 1) (fs := fsX5) gf_X5_10 dX5_force_26 rfl rfl ?_
    refine mw_iload_n dX5_force_29 2 rfl ?_
    refine mw_puti (fs := (fsX1 1)) pf_X5_87 (fun h => by cases h) rfl rfl dX5_force_30 (sx_piece into).1 rfl ?_
    refine mw_iload_n dX5_force_33 0 rfl ?_
    obtain rfl := Option.some.inj h
    exact mw_iret dX5_force_34 rfl rfl (Nat.le_of_ble_eq_true rfl) (Nat.le_refl 0) mh_ret_rfl
  · replace h := mh_ifp hc3 h
    refine mw_bipush (v := -2) dX5_force_14 (by decide) ?_
    obtain rfl := Option.some.inj h
    exact mw_iret dX5_force_16 rfl rfl (Nat.le_of_ble_eq_true rfl) (Nat.le_refl 0) mh_ret_rfl
abbrev w_X5_knit (sh : List mh_C) (Φ : mh_P) (I : mh_I) (L : mh_L) (pc : Nat) (lv : List (Nat × Value)) (st : List Value) : Prop := mh_W RX5 cX5_knit 5 (some .int) false (mh_rm 2) 46 0 0 mh_noX Φ 0 sh I L pc lv st
def X5_knit (p1 : Int32) (p2 : Int32) (p3 : Int32) (I : mh_I) : Option (Int32 × mh_I) := (X5_isLoop p1).bind (fun q1 => if q1 = 0 then some ((-5 : Int32), I) else (X5_isKnit p2 p3).bind (fun q2 => if q2 = 0 then some ((-7 : Int32), I) else mh_ix p1 48 (fun k3 => mh_b (I 2 k3) (fun b5 => (X1_become 1 p1 p2 p3 I).bind (fun q6 => some (b5, q6))))))
set_option maxHeartbeats 4000000 in
set_option maxRecDepth 100000 in
theorem t_X5_knit {into : Option Nat} {L : mh_L} {I : mh_I} {p1 : Int32} {p2 : Int32} {p3 : Int32} {res : Int32 × mh_I} (h : X5_knit p1 p2 p3 I = some res) : mh_CT yX5_knit cX5_knit 5 (some .int) (mh_rm 2) (SHX into) I L [.ref 0, .int p1, .int p2, .int p3] (mh_ret (some (.int res.1)) (SHX into) res.2 L) := by
  refine mh_ofW (ini := false) RX5 rfl (by decide) (fun h => by cases h) (Nat.le_of_ble_eq_true rfl) ?_
  show w_X5_knit (SHX into) (mh_ret (some (.int res.1)) (SHX into) res.2 L) I L 0 [(0, .ref 0), (1, .int p1), (2, .int p2), (3, .int p3)] []
  unfold X5_knit at h
  refine mw_iload_n dX5_knit_0 1 rfl ?_
  obtain ⟨q1, hq1, h⟩ := mh_bind h
  refine mw_sz (dc := 1) cs_X5_101 wd_25 dX5_knit_1 [.int p1] [.int p1] rfl rfl (t_X5_isLoop hq1) ⟨by decide, by decide⟩ (Nat.le_of_ble_eq_true rfl) ⟨rfl, rfl⟩ (fun zq1 => ?_)
  refine mw_if_ne (tgt := 10) dX5_knit_4 (by decide) (fun hc8 => ?_) (fun hc8 => ?_)
  · replace h := mh_ifn hc8 h
    refine mw_iload_n dX5_knit_10 2 rfl ?_
    refine mw_iload_n dX5_knit_11 3 rfl ?_
    obtain ⟨q2, hq2, h⟩ := mh_bind h
    refine mw_sz (dc := 1) cs_X5_114 wd_451 dX5_knit_12 [.int p2, .int p3] [.int p3, .int p2] rfl rfl (t_X5_isKnit hq2) ⟨by decide, by decide⟩ (Nat.le_of_ble_eq_true rfl) ⟨rfl, rfl⟩ (fun zq2 => ?_)
    refine mw_if_ne (tgt := 21) dX5_knit_15 (by decide) (fun hc7 => ?_) (fun hc7 => ?_)
    · replace h := mh_ifn hc7 h
      refine mw_aload_n dX5_knit_21 0 rfl ?_
      refine mw_getr (b := 1) (fs := fsX5) gf_X5_10 dX5_knit_22 rfl rfl ?_
      refine mw_getr (b := 2) (fs := (fsX1 1)) gf_X5_118 dX5_knit_25 (sx_piece into).1 rfl ?_
      refine mw_iload_n dX5_knit_28 1 rfl ?_
      obtain ⟨k3, hk4, hk4n, hk4l, h⟩ := mh_ix_some h
      refine mw_xiald dX5_knit_29 (sx_piece into).2.1 hk4 hk4n ?_
      obtain ⟨b5, eb5, h⟩ := mh_b_some h
      refine mw_nmi eb5 ?_
      refine mw_istore dX5_knit_30 (by decide) rfl ?_
      refine mw_aload_n dX5_knit_32 1 rfl ?_
      refine mw_getr (b := 1) (fs := fsX5) gf_X5_10 dX5_knit_33 rfl rfl ?_
      refine mw_iload_n dX5_knit_36 2 rfl ?_
      refine mw_iload_n dX5_knit_37 3 rfl ?_
      refine mw_iload_n dX5_knit_38 4 rfl ?_
      obtain ⟨q6, hq6, h⟩ := mh_bind h
      refine mw_vv (dc := 0) (ci := 1) (fs := (fsX1 1)) (T := TX1) (N := 5) cv_X5_122 wd_455 dX5_knit_39 [.int p1, .int p2, .int p3] [.int p3, .int p2, .int p1, .ref 1] rfl rfl (sx_piece into).1 rfl (t_X1_become (sx_piece into) hq6) ⟨by decide, by decide⟩ (Nat.le_of_ble_eq_true rfl) ⟨rfl, rfl⟩ ?_
      refine mw_iload dX5_knit_42 0 rfl ?_
      obtain rfl := Option.some.inj h
      exact mw_iret dX5_knit_44 rfl rfl (Nat.le_of_ble_eq_true rfl) (Nat.le_refl 0) mh_ret_rfl
    · replace h := mh_ifp hc7 h
      refine mw_bipush (v := -7) dX5_knit_18 (by decide) ?_
      obtain rfl := Option.some.inj h
      exact mw_iret dX5_knit_20 rfl rfl (Nat.le_of_ble_eq_true rfl) (Nat.le_refl 0) mh_ret_rfl
  · replace h := mh_ifp hc8 h
    refine mw_bipush (v := -5) dX5_knit_7 (by decide) ?_
    obtain rfl := Option.some.inj h
    exact mw_iret dX5_knit_9 rfl rfl (Nat.le_of_ble_eq_true rfl) (Nat.le_refl 0) mh_ret_rfl
abbrev w_X5_pin (sh : List mh_C) (Φ : mh_P) (I : mh_I) (L : mh_L) (pc : Nat) (lv : List (Nat × Value)) (st : List Value) : Prop := mh_W RX5 cX5_pin 4 (some .int) false (mh_rm 2) 46 0 0 mh_noX Φ 0 sh I L pc lv st
def X5_pin (p1 : Int32) (p2 : Int32) (L : mh_L) : Option (Int32 × mh_L) := (X5_isLoop p1).bind (fun q1 => if q1 = 0 then some ((-5 : Int32), L) else (X5_within p2 (0 : Int32) (1 : Int32)).bind (fun q2 => if q2 = 0 then some ((-7 : Int32), L) else (X5_hasBit (L 1 2) p1).bind (fun q3 => mh_j (fun (s4 : Int32) => mh_j (fun (s7 : Int64) => some (s4, (mh_ul L 1 2 s7))) (fun J8 => if p2 = (1 : Int32) then (X5_bit p1).bind (fun q10 => (J8 ((L 1 2) ||| q10))) else (X5_bit p1).bind (fun q9 => (J8 ((L 1 2) &&& (q9 ^^^ (-1 : Int64))))))) (fun J5 => if q3 = 0 then (J5 (0 : Int32)) else (J5 (1 : Int32))))))
set_option maxHeartbeats 4000000 in
set_option maxRecDepth 100000 in
theorem t_X5_pin {into : Option Nat} {L : mh_L} {I : mh_I} {p1 : Int32} {p2 : Int32} {res : Int32 × mh_L} (h : X5_pin p1 p2 L = some res) : mh_CT yX5_pin cX5_pin 4 (some .int) (mh_rm 2) (SHX into) I L [.ref 0, .int p1, .int p2] (mh_ret (some (.int res.1)) (SHX into) I res.2) := by
  refine mh_ofW (ini := false) RX5 rfl (by decide) (fun h => by cases h) (Nat.le_of_ble_eq_true rfl) ?_
  show w_X5_pin (SHX into) (mh_ret (some (.int res.1)) (SHX into) I res.2) I L 0 [(0, .ref 0), (1, .int p1), (2, .int p2)] []
  unfold X5_pin at h
  refine mw_iload_n dX5_pin_0 1 rfl ?_
  obtain ⟨q1, hq1, h⟩ := mh_bind h
  refine mw_sz (dc := 1) cs_X5_101 wd_25 dX5_pin_1 [.int p1] [.int p1] rfl rfl (t_X5_isLoop hq1) ⟨by decide, by decide⟩ (Nat.le_of_ble_eq_true rfl) ⟨rfl, rfl⟩ (fun zq1 => ?_)
  refine mw_if_ne (tgt := 10) dX5_pin_4 (by decide) (fun hc13 => ?_) (fun hc13 => ?_)
  · replace h := mh_ifn hc13 h
    refine mw_iload_n dX5_pin_10 2 rfl ?_
    refine mw_iconst (v := 0) dX5_pin_11 (by decide) ?_
    refine mw_iconst (v := 1) dX5_pin_12 (by decide) ?_
    obtain ⟨q2, hq2, h⟩ := mh_bind h
    refine mw_sz (dc := 0) cs_X5_97 wd_28 dX5_pin_13 [.int p2, .int (0 : Int32), .int (1 : Int32)] [.int (1 : Int32), .int (0 : Int32), .int p2] rfl rfl (t_X5_within hq2) ⟨by decide, by decide⟩ (Nat.le_of_ble_eq_true rfl) ⟨rfl, rfl⟩ (fun zq2 => ?_)
    refine mw_if_ne (tgt := 22) dX5_pin_16 (by decide) (fun hc12 => ?_) (fun hc12 => ?_)
    · replace h := mh_ifn hc12 h
      refine mw_aload_n dX5_pin_22 0 rfl ?_
      refine mw_getr (b := 1) (fs := fsX5) gf_X5_10 dX5_pin_23 rfl rfl ?_
      refine mw_getl (fs := (fsX1 1)) gf_X5_70 dX5_pin_26 (sx_piece into).1 rfl ?_
      refine mw_iload_n dX5_pin_29 1 rfl ?_
      obtain ⟨q3, hq3, h⟩ := mh_bind h
      refine mw_sz (dc := 0) cs_X5_139 wd_31 dX5_pin_30 [.long (L 1 2), .int p1] [.int p1, .long (L 1 2)] rfl rfl (t_X5_hasBit hq3) ⟨by decide, by decide⟩ (Nat.le_of_ble_eq_true rfl) ⟨rfl, rfl⟩ (fun zq3 => ?_)
      refine mh_jw (fun J5 => ∀ (s4 : Int32), J5 s4 = some res → w_X5_pin (SHX into) (mh_ret (some (.int res.1)) (SHX into) I res.2) I L 41 [(0, .ref 0), (1, .int p1), (2, .int p2)] [.int s4]) h (fun s4 h => ?_) (fun J5 hJ5 h => ?_)
      · refine mw_istore_n dX5_pin_41 (by decide) rfl ?_
        refine mw_aload_n dX5_pin_42 1 rfl ?_
        refine mw_getr (b := 1) (fs := fsX5) gf_X5_10 dX5_pin_43 rfl rfl ?_
        refine mw_iload_n dX5_pin_46 3 rfl ?_
        refine mw_iconst (v := 1) dX5_pin_47 (by decide) ?_
        refine mh_jw (fun J8 => ∀ (s7 : Int64), J8 s7 = some res → w_X5_pin (SHX into) (mh_ret (some (.int res.1)) (SHX into) I res.2) I L 82 [(3, .int s4)] [.long s7, .ref 1]) h (fun s7 h => ?_) (fun J8 hJ8 h => ?_)
        · refine mw_putl (fs := (fsX1 1)) pf_X5_70 (fun h => by cases h) dX5_pin_82 (sx_piece into).1 rfl ?_
          refine mw_iload_n dX5_pin_85 0 rfl ?_
          obtain rfl := Option.some.inj h
          exact mw_iret dX5_pin_86 rfl rfl (Nat.le_of_ble_eq_true rfl) (Nat.le_refl 0) mh_ret_rfl
        · refine mw_icmp_ne (tgt := 66) dX5_pin_48 (by decide) (fun hc11 => ?_) (fun hc11 => ?_)
          · replace h := mh_ifn hc11 h
            refine mw_aload_n dX5_pin_66 1 rfl ?_
            refine mw_getr (b := 1) (fs := fsX5) gf_X5_10 dX5_pin_67 rfl rfl ?_
            refine mw_getl (fs := (fsX1 1)) gf_X5_70 dX5_pin_70 (sx_piece into).1 rfl ?_
            refine mw_iload_n dX5_pin_73 2 rfl ?_
            obtain ⟨q9, hq9, h⟩ := mh_bind h
            refine mw_sr (dc := 0) cs_X5_143 wd_34 dX5_pin_74 [.int p1] [.int p1, .long (L 1 2), .ref 1] rfl rfl (t_X5_bit hq9) ⟨by decide, by decide⟩ (Nat.le_of_ble_eq_true rfl) ⟨rfl, rfl⟩ ?_
            refine mw_ldc2 dX5_pin_77 wd_35 ?_
            refine mw_lxor dX5_pin_80 ?_
            refine mw_land dX5_pin_81 ?_
            refine mw_loc [0] rfl ?_
            exact hJ8 _ h
          · replace h := mh_ifp hc11 h
            refine mw_aload_n dX5_pin_51 1 rfl ?_
            refine mw_getr (b := 1) (fs := fsX5) gf_X5_10 dX5_pin_52 rfl rfl ?_
            refine mw_getl (fs := (fsX1 1)) gf_X5_70 dX5_pin_55 (sx_piece into).1 rfl ?_
            refine mw_iload_n dX5_pin_58 2 rfl ?_
            obtain ⟨q10, hq10, h⟩ := mh_bind h
            refine mw_sr (dc := 0) cs_X5_143 wd_34 dX5_pin_59 [.int p1] [.int p1, .long (L 1 2), .ref 1] rfl rfl (t_X5_bit hq10) ⟨by decide, by decide⟩ (Nat.le_of_ble_eq_true rfl) ⟨rfl, rfl⟩ ?_
            refine mw_lor dX5_pin_62 ?_
            refine mw_goto (tgt := 82) dX5_pin_63 (by decide) ?_
            refine mw_loc [0] rfl ?_
            exact hJ8 _ h
      · refine mw_if_eq (tgt := 40) dX5_pin_33 (by decide) (fun hc6 => ?_) (fun hc6 => ?_)
        · replace h := mh_ifp hc6 h
          refine mw_iconst (v := 0) dX5_pin_40 (by decide) ?_
          refine mw_loc [0, 1, 2] rfl ?_
          exact hJ5 _ h
        · replace h := mh_ifn hc6 h
          refine mw_iconst (v := 1) dX5_pin_36 (by decide) ?_
          refine mw_goto (tgt := 41) dX5_pin_37 (by decide) ?_
          refine mw_loc [0, 1, 2] rfl ?_
          exact hJ5 _ h
    · replace h := mh_ifp hc12 h
      refine mw_bipush (v := -7) dX5_pin_19 (by decide) ?_
      obtain rfl := Option.some.inj h
      exact mw_iret dX5_pin_21 rfl rfl (Nat.le_of_ble_eq_true rfl) (Nat.le_refl 0) mh_ret_rfl
  · replace h := mh_ifp hc13 h
    refine mw_bipush (v := -5) dX5_pin_7 (by decide) ?_
    obtain rfl := Option.some.inj h
    exact mw_iret dX5_pin_9 rfl rfl (Nat.le_of_ble_eq_true rfl) (Nat.le_refl 0) mh_ret_rfl
abbrev w_X5_law (sh : List mh_C) (Φ : mh_P) (I : mh_I) (L : mh_L) (pc : Nat) (lv : List (Nat × Value)) (st : List Value) : Prop := mh_W RX5 cX5_law 1 (some (.object RX4)) false (mh_rm 0) 46 0 0 mh_noX Φ 0 sh I L pc lv st
def X5_law (I : mh_I) : Option (Nat) := mh_ix (I 1 4) 6 (fun k1 => some (14 + 4 * k1))
set_option maxHeartbeats 4000000 in
set_option maxRecDepth 100000 in
theorem t_X5_law {into : Option Nat} {L : mh_L} {I : mh_I} {res : Nat} (h : X5_law I = some res) : mh_CT yX5_law cX5_law 1 (some (.object RX4)) (mh_rm 0) (SHX into) I L [.ref 0] (mh_ret (some (.ref res)) (SHX into) I L) := by
  refine mh_ofW (ini := false) RX5 rfl (by decide) (fun h => by cases h) (Nat.le_of_ble_eq_true rfl) ?_
  show w_X5_law (SHX into) (mh_ret (some (.ref res)) (SHX into) I L) I L 0 [(0, .ref 0)] []
  unfold X5_law at h
  refine mw_aload_n dX5_law_0 0 rfl ?_
  refine mw_getr (b := 9) (fs := fsX5) gf_X5_28 dX5_law_1 rfl rfl ?_
  refine mw_aload_n dX5_law_4 0 rfl ?_
  refine mw_getr (b := 1) (fs := fsX5) gf_X5_10 dX5_law_5 rfl rfl ?_
  refine mw_geti (fs := (fsX1 1)) gf_X5_87 dX5_law_8 (sx_piece into).1 rfl ?_
  obtain ⟨k1, hk2, hk2n, hk2l, h⟩ := mh_ix_some h
  refine mw_xaald (t := 1) dX5_law_11 rfl hk2 hk2n (sx_rT hk2l) ?_
  obtain rfl := Option.some.inj h
  exact mw_aret dX5_law_12 rfl (Or.inl ⟨_, rfl⟩) (Nat.le_of_ble_eq_true rfl) (Nat.le_refl 0) mh_ret_rfl
theorem t_X5_law_fact {T : Option Nat} {I : mh_I} {q : Nat} (h : X5_law I = some q) : hs_X4 (SHX T) q := by
  unfold X5_law at h
  obtain ⟨k, hk, hkn, hkl, h⟩ := mh_ix_some h
  cases h
  exact sx_text T hkl
abbrev w_X5_drop (sh : List mh_C) (Φ : mh_P) (I : mh_I) (L : mh_L) (pc : Nat) (lv : List (Nat × Value)) (st : List Value) : Prop := mh_W RX5 cX5_drop 3 (some .int) false (mh_rm 5) 46 0 0 mh_noX Φ 0 sh I L pc lv st
def X5_drop (p1 : Int32) (p2 : Int32) (I : mh_I) (L : mh_L) : Option (Int32 × mh_I × mh_L) := (X5_law I).bind (fun q1 => (X5_bit p1).bind (fun q2 => (X0_runFrom 10 1 q1 q2 (0 : Int64) p2 I L).bind (fun q3 => some (q3.1, q3.2.1, q3.2.2))))
set_option maxHeartbeats 4000000 in
set_option maxRecDepth 100000 in
theorem t_X5_drop {into : Option Nat} {L : mh_L} {I : mh_I} {p1 : Int32} {p2 : Int32} {res : Int32 × mh_I × mh_L} (h : X5_drop p1 p2 I L = some res) : mh_CT yX5_drop cX5_drop 3 (some .int) (mh_rm 5) (SHX into) I L [.ref 0, .int p1, .int p2] (mh_ret (some (.int res.1)) (SHX into) res.2.1 res.2.2) := by
  refine mh_ofW (ini := false) RX5 rfl (by decide) (fun h => by cases h) (Nat.le_of_ble_eq_true rfl) ?_
  show w_X5_drop (SHX into) (mh_ret (some (.int res.1)) (SHX into) res.2.1 res.2.2) I L 0 [(0, .ref 0), (1, .int p1), (2, .int p2)] []
  unfold X5_drop at h
  refine mw_aload_n dX5_drop_0 0 rfl ?_
  refine mw_getr (b := 10) (fs := fsX5) gf_X5_35 dX5_drop_1 rfl rfl ?_
  refine mw_aload_n dX5_drop_4 0 rfl ?_
  refine mw_getr (b := 1) (fs := fsX5) gf_X5_10 dX5_drop_5 rfl rfl ?_
  refine mw_aload_n dX5_drop_8 0 rfl ?_
  obtain ⟨q1, hq1, h⟩ := mh_bind h
  refine mw_vr (dc := 0) (ci := 5) (fs := fsX5) (T := TX5) (N := 9) cv_X5_107 wd_51 dX5_drop_9 [] [.ref 0, .ref 1, .ref 10] rfl rfl rfl rfl (t_X5_law hq1) ⟨by decide, by decide⟩ (Nat.le_of_ble_eq_true rfl) ⟨rfl, rfl⟩ ?_
  refine mw_iload_n dX5_drop_12 1 rfl ?_
  obtain ⟨q2, hq2, h⟩ := mh_bind h
  refine mw_sr (dc := 0) cs_X5_143 wd_34 dX5_drop_13 [.int p1] [.int p1, .ref q1, .ref 1, .ref 10] rfl rfl (t_X5_bit hq2) ⟨by decide, by decide⟩ (Nat.le_of_ble_eq_true rfl) ⟨rfl, rfl⟩ ?_
  refine mw_lconst (v := 0) dX5_drop_16 (by decide) ?_
  refine mw_iload_n dX5_drop_17 2 rfl ?_
  obtain ⟨q3, hq3, h⟩ := mh_bind h
  refine mw_vr (dc := 4) (ci := 0) (fs := (fsX0 10)) (T := TX0) (N := 3) cv_X5_182 wd_56 dX5_drop_18 [.ref 1, .ref q1, .long q2, .long (0 : Int64), .int p2] [.int p2, .long (0 : Int64), .long q2, .ref q1, .ref 1, .ref 10] rfl rfl (sx_fall into).1 rfl (t_X0_runFrom (sx_fall into) (sx_piece into) (t_X5_law_fact hq1) hq3) ⟨by decide, by decide⟩ (Nat.le_of_ble_eq_true rfl) ⟨rfl, rfl⟩ ?_
  obtain rfl := Option.some.inj h
  exact mw_iret dX5_drop_21 rfl rfl (Nat.le_of_ble_eq_true rfl) (Nat.le_refl 0) mh_ret_rfl
