abbrev w_X6_goes (sh : List mh_C) (Φ : mh_P) (I : mh_I) (L : mh_L) (pc : Nat) (lv : List (Nat × Value)) (st : List Value) : Prop := mh_W RX6 cX6_goes 8 (some .long) false (mh_rm 7) 18 0 0 mh_noX Φ 0 sh I L pc lv st
def X6_goes_l39 (u3 : Int32) (I : mh_I) : Nat → Int64 → Int32 → Option (Int64 × mh_I)
  | 0, _, _ => none
  | n + 1, u4, u6 => if (48 : Int32) ≤ u6 then some (u4, I) else mh_j (fun (s5 : Int32) => mh_j (fun (s17 : Int64) => mh_b (u4 ||| s17) (fun b20 => mh_b (u6 + (1 : Int32)) (fun b21 => (X6_goes_l39 u3 I n b20 b21)))) (fun J18 => if s5 = 0 then (J18 (0 : Int64)) else (J18 ((1 : Int64) <<< (u6.toInt64 &&& 63))))) (fun J6 => if u3 = 0 then mh_ix u6 48 (fun k13 => if (I 17 k13) = (-1 : Int32) then (J6 (0 : Int32)) else (J6 (1 : Int32))) else mh_ix u6 48 (fun k7 => mh_j ((J6 (0 : Int32))) (fun J9 => if (I 17 k7) = (-1 : Int32) then (X6_allGone u6 I).bind (fun q10 => if q10 = (-1 : Int32) then J9 else (J6 (1 : Int32))) else J9)))
set_option maxHeartbeats 4000000 in
set_option maxRecDepth 100000 in
theorem t_X6_goes_l39 {u3 : Int32} {I : mh_I} {L : mh_L} {res : Int64 × mh_I} (n : Nat) (u4 : Int64) (u6 : Int32) (h : X6_goes_l39 u3 I n u4 u6 = some res)  : w_X6_goes SHM (mh_ret (some (.long res.1)) SHM res.2 L) I L 39 [(0, .ref 0), (3, .int u3), (4, .long u4), (6, .int u6)] [] := by
  induction n generalizing u4 u6 with
  | zero => rw [X6_goes_l39] at h; cases h
  | succ n ih =>
    rw [X6_goes_l39] at h
    refine mw_iload dX6_goes_39 3 rfl ?_
    refine mw_bipush (v := 48) dX6_goes_41 (by decide) ?_
    refine mw_icmp_ge (tgt := 121) dX6_goes_43 (by decide) (fun hc22 => ?_) (fun hc22 => ?_)
    · replace h := mh_ifp hc22 h
      refine mw_lload dX6_goes_121 2 rfl ?_
      obtain rfl := Option.some.inj h
      exact mw_lret dX6_goes_123 rfl (Nat.le_of_ble_eq_true rfl) (Nat.le_refl 0) mh_ret_rfl
    · replace h := mh_ifn hc22 h
      refine mw_iload_n dX6_goes_46 1 rfl ?_
      refine mh_jw (fun J6 => ∀ (s5 : Int32), J6 s5 = some res → w_X6_goes SHM (mh_ret (some (.long res.1)) SHM res.2 L) I L 95 [(0, .ref 0), (3, .int u3), (4, .long u4), (6, .int u6)] [.int s5]) h (fun s5 h => ?_) (fun J6 hJ6 h => ?_)
      · refine mw_istore dX6_goes_95 (by decide) rfl ?_
        refine mw_lload dX6_goes_97 3 rfl ?_
        refine mw_iload dX6_goes_99 0 rfl ?_
        refine mh_jw (fun J18 => ∀ (s17 : Int64), J18 s17 = some res → w_X6_goes SHM (mh_ret (some (.long res.1)) SHM res.2 L) I L 112 [(0, .ref 0), (3, .int u3), (6, .int u6)] [.long s17, .long u4]) h (fun s17 h => ?_) (fun J18 hJ18 h => ?_)
        · refine mw_lor dX6_goes_112 ?_
          obtain ⟨b20, eb20, h⟩ := mh_b_some h
          refine mw_nml eb20 ?_
          refine mw_lstore dX6_goes_113 (by decide) rfl ?_
          obtain ⟨b21, eb21, h⟩ := mh_b_some h
          refine mw_iinc (v := b21) dX6_goes_115 3 rfl (by rw [← eb21]; rfl) (by decide) rfl ?_
          refine mw_goto (tgt := 39) dX6_goes_118 (by decide) ?_
          refine mw_loc [2, 3, 1, 0] rfl ?_
          exact ih _ _ h
        · refine mw_if_eq (tgt := 111) dX6_goes_101 (by decide) (fun hc19 => ?_) (fun hc19 => ?_)
          · replace h := mh_ifp hc19 h
            refine mw_lconst (v := 0) dX6_goes_111 (by decide) ?_
            refine mw_loc [1, 2, 4] rfl ?_
            exact hJ18 _ h
          · replace h := mh_ifn hc19 h
            refine mw_lconst (v := 1) dX6_goes_104 (by decide) ?_
            refine mw_iload dX6_goes_105 4 rfl ?_
            refine mw_lshl dX6_goes_107 ?_
            refine mw_goto (tgt := 112) dX6_goes_108 (by decide) ?_
            refine mw_loc [1, 2, 4] rfl ?_
            exact hJ18 _ h
      · refine mw_if_ne (tgt := 69) dX6_goes_47 (by decide) (fun hc16 => ?_) (fun hc16 => ?_)
        · replace h := mh_ifn hc16 h
          refine mw_aload_n dX6_goes_69 0 rfl ?_
          refine mw_getr (b := 17) (fs := fsX6) gf_X6_58 dX6_goes_70 rfl rfl ?_
          refine mw_iload dX6_goes_73 3 rfl ?_
          obtain ⟨k7, hk8, hk8n, hk8l, h⟩ := mh_ix_some h
          refine mw_xiald dX6_goes_75 rfl hk8 hk8n ?_
          refine mw_iconst (v := -1) dX6_goes_76 (by decide) ?_
          refine mh_jw (fun J9 => J9 = some res → w_X6_goes SHM (mh_ret (some (.long res.1)) SHM res.2 L) I L 94 [(0, .ref 0), (3, .int u3), (4, .long u4), (6, .int u6)] []) h (fun h => ?_) (fun J9 hJ9 h => ?_)
          · refine mw_iconst (v := 0) dX6_goes_94 (by decide) ?_
            refine mw_loc [0, 1, 2, 3] rfl ?_
            exact hJ6 _ h
          · refine mw_icmp_ne (tgt := 94) dX6_goes_77 (by decide) (fun hc12 => ?_) (fun hc12 => ?_)
            · replace h := mh_ifn hc12 h
              refine mw_loc [0, 1, 2, 3] rfl ?_
              exact hJ9  h
            · replace h := mh_ifp hc12 h
              refine mw_aload_n dX6_goes_80 0 rfl ?_
              refine mw_iload dX6_goes_81 3 rfl ?_
              obtain ⟨q10, hq10, h⟩ := mh_bind h
              refine mw_vr (dc := 2) (ci := 6) (fs := fsX6) (T := TX6) (N := 30) cv_X6_196 wd_976 dX6_goes_83 [.int u6] [.int u6, .ref 0] rfl rfl rfl rfl (t_X6_allGone hq10) ⟨by decide, by decide⟩ (Nat.le_of_ble_eq_true rfl) ⟨rfl, rfl⟩ ?_
              refine mw_iconst (v := -1) dX6_goes_86 (by decide) ?_
              refine mw_icmp_eq (tgt := 94) dX6_goes_87 (by decide) (fun hc11 => ?_) (fun hc11 => ?_)
              · replace h := mh_ifp hc11 h
                refine mw_loc [0, 1, 2, 3] rfl ?_
                exact hJ9  h
              · replace h := mh_ifn hc11 h
                refine mw_iconst (v := 1) dX6_goes_90 (by decide) ?_
                refine mw_goto (tgt := 95) dX6_goes_91 (by decide) ?_
                refine mw_loc [0, 1, 2, 3] rfl ?_
                exact hJ6 _ h
        · replace h := mh_ifp hc16 h
          refine mw_aload_n dX6_goes_50 0 rfl ?_
          refine mw_getr (b := 17) (fs := fsX6) gf_X6_58 dX6_goes_51 rfl rfl ?_
          refine mw_iload dX6_goes_54 3 rfl ?_
          obtain ⟨k13, hk14, hk14n, hk14l, h⟩ := mh_ix_some h
          refine mw_xiald dX6_goes_56 rfl hk14 hk14n ?_
          refine mw_iconst (v := -1) dX6_goes_57 (by decide) ?_
          refine mw_icmp_eq (tgt := 65) dX6_goes_58 (by decide) (fun hc15 => ?_) (fun hc15 => ?_)
          · replace h := mh_ifp hc15 h
            refine mw_iconst (v := 0) dX6_goes_65 (by decide) ?_
            refine mw_goto (tgt := 95) dX6_goes_66 (by decide) ?_
            refine mw_loc [0, 1, 2, 3] rfl ?_
            exact hJ6 _ h
          · replace h := mh_ifn hc15 h
            refine mw_iconst (v := 1) dX6_goes_61 (by decide) ?_
            refine mw_goto (tgt := 95) dX6_goes_62 (by decide) ?_
            refine mw_loc [0, 1, 2, 3] rfl ?_
            exact hJ6 _ h
def X6_goes (p1 : Int32) (p2 : Int32) (p3 : Int32) (I : mh_I) : Option (Int64 × mh_I) := (X6_isLoop p1).bind (fun q1 => if q1 = 0 then some ((-4611686018427387904 : Int64), I) else (X6_isPull p2).bind (fun q2 => if q2 = 0 then some ((-4611686018427387904 : Int64), I) else (X6_in p3 (0 : Int32) (1 : Int32)).bind (fun q3 => if q3 = 0 then some ((-4611686018427387904 : Int64), I) else (X6_runsFrom p1 p2 I).bind (fun q4 => X6_goes_l39 p3 q4 mh_fuel (0 : Int64) (0 : Int32)))))
set_option maxHeartbeats 4000000 in
set_option maxRecDepth 100000 in
theorem t_X6_goes {L : mh_L} {I : mh_I} {p1 : Int32} {p2 : Int32} {p3 : Int32} {res : Int64 × mh_I} (h : X6_goes p1 p2 p3 I = some res) : mh_CT yX6_goes cX6_goes 8 (some .long) (mh_rm 7) SHM I L [.ref 0, .int p1, .int p2, .int p3] (mh_ret (some (.long res.1)) SHM res.2 L) := by
  refine mh_ofW (ini := false) RX6 rfl (by decide) (fun h => by cases h) (Nat.le_of_ble_eq_true rfl) ?_
  show w_X6_goes SHM (mh_ret (some (.long res.1)) SHM res.2 L) I L 0 [(0, .ref 0), (1, .int p1), (2, .int p2), (3, .int p3)] []
  unfold X6_goes at h
  refine mw_iload_n dX6_goes_0 1 rfl ?_
  obtain ⟨q1, hq1, h⟩ := mh_bind h
  refine mw_sz (dc := 1) cs_X6_155 wd_876 dX6_goes_1 [.int p1] [.int p1] rfl rfl (t_X6_isLoop hq1) ⟨by decide, by decide⟩ (Nat.le_of_ble_eq_true rfl) ⟨rfl, rfl⟩ (fun zq1 => ?_)
  refine mw_if_eq (tgt := 23) dX6_goes_4 (by decide) (fun hc25 => ?_) (fun hc25 => ?_)
  · replace h := mh_ifp hc25 h
    refine mw_ldc2 dX6_goes_23 wd_925 ?_
    obtain rfl := Option.some.inj h
    exact mw_lret dX6_goes_26 rfl (Nat.le_of_ble_eq_true rfl) (Nat.le_refl 0) mh_ret_rfl
  · replace h := mh_ifn hc25 h
    refine mw_iload_n dX6_goes_7 2 rfl ?_
    obtain ⟨q2, hq2, h⟩ := mh_bind h
    refine mw_sz (dc := 1) cs_X6_158 wd_879 dX6_goes_8 [.int p2] [.int p2] rfl rfl (t_X6_isPull hq2) ⟨by decide, by decide⟩ (Nat.le_of_ble_eq_true rfl) ⟨rfl, rfl⟩ (fun zq2 => ?_)
    refine mw_if_eq (tgt := 23) dX6_goes_11 (by decide) (fun hc24 => ?_) (fun hc24 => ?_)
    · replace h := mh_ifp hc24 h
      refine mw_ldc2 dX6_goes_23 wd_925 ?_
      obtain rfl := Option.some.inj h
      exact mw_lret dX6_goes_26 rfl (Nat.le_of_ble_eq_true rfl) (Nat.le_refl 0) mh_ret_rfl
    · replace h := mh_ifn hc24 h
      refine mw_iload_n dX6_goes_14 3 rfl ?_
      refine mw_iconst (v := 0) dX6_goes_15 (by decide) ?_
      refine mw_iconst (v := 1) dX6_goes_16 (by decide) ?_
      obtain ⟨q3, hq3, h⟩ := mh_bind h
      refine mw_sz (dc := 0) cs_X6_69 wd_722 dX6_goes_17 [.int p3, .int (0 : Int32), .int (1 : Int32)] [.int (1 : Int32), .int (0 : Int32), .int p3] rfl rfl (t_X6_in hq3) ⟨by decide, by decide⟩ (Nat.le_of_ble_eq_true rfl) ⟨rfl, rfl⟩ (fun zq3 => ?_)
      refine mw_if_ne (tgt := 27) dX6_goes_20 (by decide) (fun hc23 => ?_) (fun hc23 => ?_)
      · replace h := mh_ifn hc23 h
        refine mw_aload_n dX6_goes_27 0 rfl ?_
        refine mw_iload_n dX6_goes_28 1 rfl ?_
        refine mw_iload_n dX6_goes_29 2 rfl ?_
        obtain ⟨q4, hq4, h⟩ := mh_bind h
        refine mw_vv (dc := 6) (ci := 6) (fs := fsX6) (T := TX6) (N := 30) cv_X6_213 wd_964 dX6_goes_30 [.int p1, .int p2] [.int p2, .int p1, .ref 0] rfl rfl rfl rfl (t_X6_runsFrom hq4) ⟨by decide, by decide⟩ (Nat.le_of_ble_eq_true rfl) ⟨rfl, rfl⟩ ?_
        refine mw_lconst (v := 0) dX6_goes_33 (by decide) ?_
        refine mw_lstore dX6_goes_34 (by decide) rfl ?_
        refine mw_iconst (v := 0) dX6_goes_36 (by decide) ?_
        refine mw_istore dX6_goes_37 (by decide) rfl ?_
        refine mw_loc [2, 5, 1, 0] rfl ?_
        exact t_X6_goes_l39  _ _ _ h 
      · replace h := mh_ifp hc23 h
        refine mw_ldc2 dX6_goes_23 wd_925 ?_
        obtain rfl := Option.some.inj h
        exact mw_lret dX6_goes_26 rfl (Nat.le_of_ble_eq_true rfl) (Nat.le_refl 0) mh_ret_rfl
abbrev w_X6_left (sh : List mh_C) (Φ : mh_P) (I : mh_I) (L : mh_L) (pc : Nat) (lv : List (Nat × Value)) (st : List Value) : Prop := mh_W RX6 cX6_left 4 (some .int) false (mh_rm 7) 18 0 0 mh_noX Φ 0 sh I L pc lv st
def X6_left (p1 : Int32) (p2 : Int32) (p3 : Int32) (I : mh_I) : Option (Int32 × mh_I) := (X6_isLoop p1).bind (fun q1 => if q1 = 0 then some ((-5 : Int32), I) else (X6_isLoop p3).bind (fun q2 => if q2 = 0 then some ((-5 : Int32), I) else (X6_isPull p2).bind (fun q3 => if q3 = 0 then some ((-7 : Int32), I) else (X6_runsFrom p1 p2 I).bind (fun q4 => mh_ix p3 48 (fun k5 => some ((q4 17 k5), q4))))))
set_option maxHeartbeats 4000000 in
set_option maxRecDepth 100000 in
theorem t_X6_left {L : mh_L} {I : mh_I} {p1 : Int32} {p2 : Int32} {p3 : Int32} {res : Int32 × mh_I} (h : X6_left p1 p2 p3 I = some res) : mh_CT yX6_left cX6_left 4 (some .int) (mh_rm 7) SHM I L [.ref 0, .int p1, .int p2, .int p3] (mh_ret (some (.int res.1)) SHM res.2 L) := by
  refine mh_ofW (ini := false) RX6 rfl (by decide) (fun h => by cases h) (Nat.le_of_ble_eq_true rfl) ?_
  show w_X6_left SHM (mh_ret (some (.int res.1)) SHM res.2 L) I L 0 [(0, .ref 0), (1, .int p1), (2, .int p2), (3, .int p3)] []
  unfold X6_left at h
  refine mw_iload_n dX6_left_0 1 rfl ?_
  obtain ⟨q1, hq1, h⟩ := mh_bind h
  refine mw_sz (dc := 1) cs_X6_155 wd_876 dX6_left_1 [.int p1] [.int p1] rfl rfl (t_X6_isLoop hq1) ⟨by decide, by decide⟩ (Nat.le_of_ble_eq_true rfl) ⟨rfl, rfl⟩ (fun zq1 => ?_)
  refine mw_if_eq (tgt := 14) dX6_left_4 (by decide) (fun hc9 => ?_) (fun hc9 => ?_)
  · replace h := mh_ifp hc9 h
    refine mw_bipush (v := -5) dX6_left_14 (by decide) ?_
    obtain rfl := Option.some.inj h
    exact mw_iret dX6_left_16 rfl rfl (Nat.le_of_ble_eq_true rfl) (Nat.le_refl 0) mh_ret_rfl
  · replace h := mh_ifn hc9 h
    refine mw_iload_n dX6_left_7 3 rfl ?_
    obtain ⟨q2, hq2, h⟩ := mh_bind h
    refine mw_sz (dc := 1) cs_X6_155 wd_876 dX6_left_8 [.int p3] [.int p3] rfl rfl (t_X6_isLoop hq2) ⟨by decide, by decide⟩ (Nat.le_of_ble_eq_true rfl) ⟨rfl, rfl⟩ (fun zq2 => ?_)
    refine mw_if_ne (tgt := 17) dX6_left_11 (by decide) (fun hc8 => ?_) (fun hc8 => ?_)
    · replace h := mh_ifn hc8 h
      refine mw_iload_n dX6_left_17 2 rfl ?_
      obtain ⟨q3, hq3, h⟩ := mh_bind h
      refine mw_sz (dc := 1) cs_X6_158 wd_879 dX6_left_18 [.int p2] [.int p2] rfl rfl (t_X6_isPull hq3) ⟨by decide, by decide⟩ (Nat.le_of_ble_eq_true rfl) ⟨rfl, rfl⟩ (fun zq3 => ?_)
      refine mw_if_ne (tgt := 27) dX6_left_21 (by decide) (fun hc7 => ?_) (fun hc7 => ?_)
      · replace h := mh_ifn hc7 h
        refine mw_aload_n dX6_left_27 0 rfl ?_
        refine mw_iload_n dX6_left_28 1 rfl ?_
        refine mw_iload_n dX6_left_29 2 rfl ?_
        obtain ⟨q4, hq4, h⟩ := mh_bind h
        refine mw_vv (dc := 6) (ci := 6) (fs := fsX6) (T := TX6) (N := 30) cv_X6_213 wd_964 dX6_left_30 [.int p1, .int p2] [.int p2, .int p1, .ref 0] rfl rfl rfl rfl (t_X6_runsFrom hq4) ⟨by decide, by decide⟩ (Nat.le_of_ble_eq_true rfl) ⟨rfl, rfl⟩ ?_
        refine mw_aload_n dX6_left_33 0 rfl ?_
        refine mw_getr (b := 17) (fs := fsX6) gf_X6_58 dX6_left_34 rfl rfl ?_
        refine mw_iload_n dX6_left_37 3 rfl ?_
        obtain ⟨k5, hk6, hk6n, hk6l, h⟩ := mh_ix_some h
        refine mw_xiald dX6_left_38 rfl hk6 hk6n ?_
        obtain rfl := Option.some.inj h
        exact mw_iret dX6_left_39 rfl rfl (Nat.le_of_ble_eq_true rfl) (Nat.le_refl 0) mh_ret_rfl
      · replace h := mh_ifp hc7 h
        refine mw_bipush (v := -7) dX6_left_24 (by decide) ?_
        obtain rfl := Option.some.inj h
        exact mw_iret dX6_left_26 rfl rfl (Nat.le_of_ble_eq_true rfl) (Nat.le_refl 0) mh_ret_rfl
    · replace h := mh_ifp hc8 h
      refine mw_bipush (v := -5) dX6_left_14 (by decide) ?_
      obtain rfl := Option.some.inj h
      exact mw_iret dX6_left_16 rfl rfl (Nat.le_of_ble_eq_true rfl) (Nat.le_refl 0) mh_ret_rfl
abbrev w_X6_most (sh : List mh_C) (Φ : mh_P) (I : mh_I) (L : mh_L) (pc : Nat) (lv : List (Nat × Value)) (st : List Value) : Prop := mh_W RX6 cX6_most 6 (some .int) false (mh_rm 7) 18 0 0 mh_noX Φ 0 sh I L pc lv st
def X6_most_l27 (u1 : Int32) (k83 : (Int32 → Int32 → mh_I → Option (Int32 × mh_I))) : Nat → Int32 → Int32 → Int32 → mh_I → Option (Int32 × mh_I)
  | 0, _, _, _, _ => none
  | n + 1, u3, u4, u5, I => if (48 : Int32) ≤ u5 then (k83 u3 u4 I) else (X6_runsFrom u5 u1 I).bind (fun q3 => mh_j (fun (s4 : Int32) => mh_j (fun (s7 : Int32) => mh_b (u5 + (1 : Int32)) (fun b10 => (X6_most_l27 u1 k83 n s4 s7 b10 q3))) (fun J8 => if (q3 0 29) ≤ u4 then (J8 u4) else (J8 (q3 0 29)))) (fun J5 => if (q3 0 29) ≤ u4 then (J5 u3) else (J5 u5)))
set_option maxHeartbeats 4000000 in
set_option maxRecDepth 100000 in
theorem t_X6_most_l27 {u1 : Int32} {u2 : Int32} {k83 : (Int32 → Int32 → mh_I → Option (Int32 × mh_I))} {L : mh_L} {res : Int32 × mh_I} (n : Nat) (u3 : Int32) (u4 : Int32) (u5 : Int32) (I : mh_I) (h : X6_most_l27 u1 k83 n u3 u4 u5 I = some res) (hk83 : ∀ (u3 : Int32) (u4 : Int32) (I : mh_I), k83 u3 u4 I = some res → w_X6_most SHM (mh_ret (some (.int res.1)) SHM res.2 L) I L 83 [(2, .int u2), (3, .int u3), (4, .int u4)] []) : w_X6_most SHM (mh_ret (some (.int res.1)) SHM res.2 L) I L 27 [(0, .ref 0), (1, .int u1), (2, .int u2), (3, .int u3), (4, .int u4), (5, .int u5)] [] := by
  induction n generalizing u3 u4 u5 I with
  | zero => rw [X6_most_l27] at h; cases h
  | succ n ih =>
    rw [X6_most_l27] at h
    refine mw_iload dX6_most_27 5 rfl ?_
    refine mw_bipush (v := 48) dX6_most_29 (by decide) ?_
    refine mw_icmp_ge (tgt := 83) dX6_most_31 (by decide) (fun hc11 => ?_) (fun hc11 => ?_)
    · replace h := mh_ifp hc11 h
      refine mw_loc [2, 3, 4] rfl ?_
      exact hk83 _ _ _ h
    · replace h := mh_ifn hc11 h
      refine mw_aload_n dX6_most_34 0 rfl ?_
      refine mw_iload dX6_most_35 5 rfl ?_
      refine mw_iload_n dX6_most_37 1 rfl ?_
      obtain ⟨q3, hq3, h⟩ := mh_bind h
      refine mw_vv (dc := 6) (ci := 6) (fs := fsX6) (T := TX6) (N := 30) cv_X6_213 wd_964 dX6_most_38 [.int u5, .int u1] [.int u1, .int u5, .ref 0] rfl rfl rfl rfl (t_X6_runsFrom hq3) ⟨by decide, by decide⟩ (Nat.le_of_ble_eq_true rfl) ⟨rfl, rfl⟩ ?_
      refine mw_aload_n dX6_most_41 0 rfl ?_
      refine mw_geti (fs := fsX6) gf_X6_202 dX6_most_42 rfl rfl ?_
      refine mw_iload dX6_most_45 4 rfl ?_
      refine mh_jw (fun J5 => ∀ (s4 : Int32), J5 s4 = some res → w_X6_most SHM (mh_ret (some (.int res.1)) SHM res.2 L) q3 L 56 [(0, .ref 0), (1, .int u1), (2, .int u2), (4, .int u4), (5, .int u5)] [.int s4]) h (fun s4 h => ?_) (fun J5 hJ5 h => ?_)
      · refine mw_istore_n dX6_most_56 (by decide) rfl ?_
        refine mw_aload_n dX6_most_57 1 rfl ?_
        refine mw_geti (fs := fsX6) gf_X6_202 dX6_most_58 rfl rfl ?_
        refine mw_iload dX6_most_61 4 rfl ?_
        refine mh_jw (fun J8 => ∀ (s7 : Int32), J8 s7 = some res → w_X6_most SHM (mh_ret (some (.int res.1)) SHM res.2 L) q3 L 75 [(0, .ref 0), (1, .int u1), (2, .int u2), (3, .int s4), (5, .int u5)] [.int s7]) h (fun s7 h => ?_) (fun J8 hJ8 h => ?_)
        · refine mw_istore dX6_most_75 (by decide) rfl ?_
          obtain ⟨b10, eb10, h⟩ := mh_b_some h
          refine mw_iinc (v := b10) dX6_most_77 5 rfl (by rw [← eb10]; rfl) (by decide) rfl ?_
          refine mw_goto (tgt := 27) dX6_most_80 (by decide) ?_
          refine mw_loc [2, 3, 4, 5, 1, 0] rfl ?_
          exact ih _ _ _ _ h
        · refine mw_icmp_le (tgt := 73) dX6_most_63 (by decide) (fun hc9 => ?_) (fun hc9 => ?_)
          · replace h := mh_ifp hc9 h
            refine mw_iload dX6_most_73 4 rfl ?_
            refine mw_loc [1, 2, 3, 0, 5] rfl ?_
            exact hJ8 _ h
          · replace h := mh_ifn hc9 h
            refine mw_aload_n dX6_most_66 1 rfl ?_
            refine mw_geti (fs := fsX6) gf_X6_202 dX6_most_67 rfl rfl ?_
            refine mw_goto (tgt := 75) dX6_most_70 (by decide) ?_
            refine mw_loc [1, 2, 3, 0, 5] rfl ?_
            exact hJ8 _ h
      · refine mw_icmp_le (tgt := 55) dX6_most_47 (by decide) (fun hc6 => ?_) (fun hc6 => ?_)
        · replace h := mh_ifp hc6 h
          refine mw_iload_n dX6_most_55 3 rfl ?_
          refine mw_loc [0, 1, 2, 4, 5] rfl ?_
          exact hJ5 _ h
        · replace h := mh_ifn hc6 h
          refine mw_iload dX6_most_50 5 rfl ?_
          refine mw_goto (tgt := 56) dX6_most_52 (by decide) ?_
          refine mw_loc [0, 1, 2, 4, 5] rfl ?_
          exact hJ5 _ h
def X6_most (p1 : Int32) (p2 : Int32) (I : mh_I) : Option (Int32 × mh_I) := (X6_isPull p1).bind (fun q1 => if q1 = 0 then some ((-2 : Int32), I) else (X6_in p2 (0 : Int32) (1 : Int32)).bind (fun q2 => if q2 = 0 then some ((-2 : Int32), I) else X6_most_l27 p1 (fun (v12 : Int32) (v13 : Int32) (I14 : mh_I) => if p2 = 0 then some (v12, I14) else some (v13, I14)) mh_fuel (0 : Int32) (-1 : Int32) (0 : Int32) I))
set_option maxHeartbeats 4000000 in
set_option maxRecDepth 100000 in
theorem t_X6_most {L : mh_L} {I : mh_I} {p1 : Int32} {p2 : Int32} {res : Int32 × mh_I} (h : X6_most p1 p2 I = some res) : mh_CT yX6_most cX6_most 6 (some .int) (mh_rm 7) SHM I L [.ref 0, .int p1, .int p2] (mh_ret (some (.int res.1)) SHM res.2 L) := by
  refine mh_ofW (ini := false) RX6 rfl (by decide) (fun h => by cases h) (Nat.le_of_ble_eq_true rfl) ?_
  show w_X6_most SHM (mh_ret (some (.int res.1)) SHM res.2 L) I L 0 [(0, .ref 0), (1, .int p1), (2, .int p2)] []
  unfold X6_most at h
  refine mw_iload_n dX6_most_0 1 rfl ?_
  obtain ⟨q1, hq1, h⟩ := mh_bind h
  refine mw_sz (dc := 1) cs_X6_158 wd_879 dX6_most_1 [.int p1] [.int p1] rfl rfl (t_X6_isPull hq1) ⟨by decide, by decide⟩ (Nat.le_of_ble_eq_true rfl) ⟨rfl, rfl⟩ (fun zq1 => ?_)
  refine mw_if_eq (tgt := 16) dX6_most_4 (by decide) (fun hc17 => ?_) (fun hc17 => ?_)
  · replace h := mh_ifp hc17 h
    refine mw_bipush (v := -2) dX6_most_16 (by decide) ?_
    obtain rfl := Option.some.inj h
    exact mw_iret dX6_most_18 rfl rfl (Nat.le_of_ble_eq_true rfl) (Nat.le_refl 0) mh_ret_rfl
  · replace h := mh_ifn hc17 h
    refine mw_iload_n dX6_most_7 2 rfl ?_
    refine mw_iconst (v := 0) dX6_most_8 (by decide) ?_
    refine mw_iconst (v := 1) dX6_most_9 (by decide) ?_
    obtain ⟨q2, hq2, h⟩ := mh_bind h
    refine mw_sz (dc := 0) cs_X6_69 wd_722 dX6_most_10 [.int p2, .int (0 : Int32), .int (1 : Int32)] [.int (1 : Int32), .int (0 : Int32), .int p2] rfl rfl (t_X6_in hq2) ⟨by decide, by decide⟩ (Nat.le_of_ble_eq_true rfl) ⟨rfl, rfl⟩ (fun zq2 => ?_)
    refine mw_if_ne (tgt := 19) dX6_most_13 (by decide) (fun hc16 => ?_) (fun hc16 => ?_)
    · replace h := mh_ifn hc16 h
      refine mw_iconst (v := 0) dX6_most_19 (by decide) ?_
      refine mw_istore_n dX6_most_20 (by decide) rfl ?_
      refine mw_iconst (v := -1) dX6_most_21 (by decide) ?_
      refine mw_istore dX6_most_22 (by decide) rfl ?_
      refine mw_iconst (v := 0) dX6_most_24 (by decide) ?_
      refine mw_istore dX6_most_25 (by decide) rfl ?_
      refine mw_loc [3, 4, 5, 2, 1, 0] rfl ?_
      refine t_X6_most_l27  _ _ _ _ _ h (fun v12 v13 I14 h => ?_)
      refine mw_iload_n dX6_most_83 0 rfl ?_
      refine mw_if_ne (tgt := 91) dX6_most_84 (by decide) (fun hc15 => ?_) (fun hc15 => ?_)
      · replace h := mh_ifn hc15 h
        refine mw_iload dX6_most_91 2 rfl ?_
        obtain rfl := Option.some.inj h
        exact mw_iret dX6_most_93 rfl rfl (Nat.le_of_ble_eq_true rfl) (Nat.le_refl 0) mh_ret_rfl
      · replace h := mh_ifp hc15 h
        refine mw_iload_n dX6_most_87 1 rfl ?_
        refine mw_goto (tgt := 93) dX6_most_88 (by decide) ?_
        obtain rfl := Option.some.inj h
        exact mw_iret dX6_most_93 rfl rfl (Nat.le_of_ble_eq_true rfl) (Nat.le_refl 0) mh_ret_rfl
    · replace h := mh_ifp hc16 h
      refine mw_bipush (v := -2) dX6_most_16 (by decide) ?_
      obtain rfl := Option.some.inj h
      exact mw_iret dX6_most_18 rfl rfl (Nat.le_of_ble_eq_true rfl) (Nat.le_refl 0) mh_ret_rfl
abbrev w_X6_column (sh : List mh_C) (Φ : mh_P) (I : mh_I) (L : mh_L) (pc : Nat) (lv : List (Nat × Value)) (st : List Value) : Prop := mh_W RX6 cX6_column 8 (some .int) false (mh_rm 6) 18 0 0 mh_noX Φ 0 sh I L pc lv st
def X6_column_l37 (u1 : Int32) (k64 : (Int64 → Option (Int32 × mh_I))) : Nat → Int64 → Int32 → Option (Int32 × mh_I)
  | 0, _, _ => none
  | n + 1, u4, u6 => if (8 : Int32) ≤ u6 then (k64 u4) else mh_b (u4 ||| ((1 : Int64) <<< ((((6 : Int32) * u6) + u1).toInt64 &&& 63))) (fun b4 => mh_b (u6 + (1 : Int32)) (fun b5 => (X6_column_l37 u1 k64 n b4 b5)))
set_option maxHeartbeats 4000000 in
set_option maxRecDepth 100000 in
theorem t_X6_column_l37 {u1 : Int32} {u2 : Int32} {u3 : Int32} {k64 : (Int64 → Option (Int32 × mh_I))} {I : mh_I} {L : mh_L} {res : Int32 × mh_I} (n : Nat) (u4 : Int64) (u6 : Int32) (h : X6_column_l37 u1 k64 n u4 u6 = some res) (hk64 : ∀ (u4 : Int64), k64 u4 = some res → w_X6_column SHM (mh_ret (some (.int res.1)) SHM res.2 L) I L 64 [(0, .ref 0), (1, .int u1), (2, .int u2), (3, .int u3), (4, .long u4)] []) : w_X6_column SHM (mh_ret (some (.int res.1)) SHM res.2 L) I L 37 [(0, .ref 0), (1, .int u1), (2, .int u2), (3, .int u3), (4, .long u4), (6, .int u6)] [] := by
  induction n generalizing u4 u6 with
  | zero => rw [X6_column_l37] at h; cases h
  | succ n ih =>
    rw [X6_column_l37] at h
    refine mw_iload dX6_column_37 5 rfl ?_
    refine mw_bipush (v := 8) dX6_column_39 (by decide) ?_
    refine mw_icmp_ge (tgt := 64) dX6_column_41 (by decide) (fun hc6 => ?_) (fun hc6 => ?_)
    · replace h := mh_ifp hc6 h
      refine mw_loc [0, 1, 2, 3, 4] rfl ?_
      exact hk64 _ h
    · replace h := mh_ifn hc6 h
      refine mw_lload dX6_column_44 4 rfl ?_
      refine mw_lconst (v := 1) dX6_column_46 (by decide) ?_
      refine mw_bipush (v := 6) dX6_column_47 (by decide) ?_
      refine mw_iload dX6_column_49 5 rfl ?_
      refine mw_imul dX6_column_51 ?_
      refine mw_iload_n dX6_column_52 1 rfl ?_
      refine mw_iadd dX6_column_53 ?_
      refine mw_lshl dX6_column_54 ?_
      refine mw_lor dX6_column_55 ?_
      obtain ⟨b4, eb4, h⟩ := mh_b_some h
      refine mw_nml eb4 ?_
      refine mw_lstore dX6_column_56 (by decide) rfl ?_
      obtain ⟨b5, eb5, h⟩ := mh_b_some h
      refine mw_iinc (v := b5) dX6_column_58 5 rfl (by rw [← eb5]; rfl) (by decide) rfl ?_
      refine mw_goto (tgt := 37) dX6_column_61 (by decide) ?_
      refine mw_loc [2, 3, 4, 5, 1, 0] rfl ?_
      exact ih _ _ h
def X6_column_l77 (u1 : Int32) (I : mh_I) (k120 : (Int32 → Option (Int32 × mh_I))) : Nat → Int32 → Int32 → Option (Int32 × mh_I)
  | 0, _, _ => none
  | n + 1, u6, u7 => if (48 : Int32) ≤ u7 then (k120 u6) else mh_j (fun (s9 : Int32) => mh_b (u6 + s9) (fun b16 => mh_b (u7 + (1 : Int32)) (fun b17 => (X6_column_l77 u1 I k120 n b16 b17)))) (fun J10 => mh_j ((J10 (0 : Int32))) (fun J11 => if (mh_rem u7 (6 : Int32)) = u1 then J11 else mh_ix u7 48 (fun k12 => if (I 17 k12) = (-1 : Int32) then J11 else (J10 (1 : Int32)))))
set_option maxHeartbeats 4000000 in
set_option maxRecDepth 100000 in
theorem t_X6_column_l77 {u1 : Int32} {u3 : Int32} {k120 : (Int32 → Option (Int32 × mh_I))} {I : mh_I} {L : mh_L} {res : Int32 × mh_I} (n : Nat) (u6 : Int32) (u7 : Int32) (h : X6_column_l77 u1 I k120 n u6 u7 = some res) (hk120 : ∀ (u6 : Int32), k120 u6 = some res → w_X6_column SHM (mh_ret (some (.int res.1)) SHM res.2 L) I L 120 [(0, .ref 0), (3, .int u3), (6, .int u6)] []) : w_X6_column SHM (mh_ret (some (.int res.1)) SHM res.2 L) I L 77 [(0, .ref 0), (1, .int u1), (3, .int u3), (6, .int u6), (7, .int u7)] [] := by
  induction n generalizing u6 u7 with
  | zero => rw [X6_column_l77] at h; cases h
  | succ n ih =>
    rw [X6_column_l77] at h
    refine mw_iload dX6_column_77 4 rfl ?_
    refine mw_bipush (v := 48) dX6_column_79 (by decide) ?_
    refine mw_icmp_ge (tgt := 120) dX6_column_81 (by decide) (fun hc18 => ?_) (fun hc18 => ?_)
    · replace h := mh_ifp hc18 h
      refine mw_loc [0, 2, 3] rfl ?_
      exact hk120 _ h
    · replace h := mh_ifn hc18 h
      refine mw_iload dX6_column_84 3 rfl ?_
      refine mw_iload dX6_column_86 4 rfl ?_
      refine mw_bipush (v := 6) dX6_column_88 (by decide) ?_
      refine mw_irem dX6_column_90 (by decide) ?_
      refine mw_iload_n dX6_column_91 1 rfl ?_
      refine mh_jw (fun J10 => ∀ (s9 : Int32), J10 s9 = some res → w_X6_column SHM (mh_ret (some (.int res.1)) SHM res.2 L) I L 111 [(0, .ref 0), (1, .int u1), (3, .int u3), (7, .int u7)] [.int s9, .int u6]) h (fun s9 h => ?_) (fun J10 hJ10 h => ?_)
      · refine mw_iadd dX6_column_111 ?_
        obtain ⟨b16, eb16, h⟩ := mh_b_some h
        refine mw_nmi eb16 ?_
        refine mw_istore dX6_column_112 (by decide) rfl ?_
        obtain ⟨b17, eb17, h⟩ := mh_b_some h
        refine mw_iinc (v := b17) dX6_column_114 4 rfl (by rw [← eb17]; rfl) (by decide) rfl ?_
        refine mw_goto (tgt := 77) dX6_column_117 (by decide) ?_
        refine mw_loc [2, 3, 4, 1, 0] rfl ?_
        exact ih _ _ h
      · refine mh_jw (fun J11 => J11 = some res → w_X6_column SHM (mh_ret (some (.int res.1)) SHM res.2 L) I L 110 [(0, .ref 0), (1, .int u1), (3, .int u3), (7, .int u7)] [.int u6]) h (fun h => ?_) (fun J11 hJ11 h => ?_)
        · refine mw_iconst (v := 0) dX6_column_110 (by decide) ?_
          refine mw_loc [0, 1, 2, 3] rfl ?_
          exact hJ10 _ h
        · refine mw_icmp_eq (tgt := 110) dX6_column_92 (by decide) (fun hc15 => ?_) (fun hc15 => ?_)
          · replace h := mh_ifp hc15 h
            refine mw_loc [0, 1, 2, 4] rfl ?_
            exact hJ11  h
          · replace h := mh_ifn hc15 h
            refine mw_aload_n dX6_column_95 0 rfl ?_
            refine mw_getr (b := 17) (fs := fsX6) gf_X6_58 dX6_column_96 rfl rfl ?_
            refine mw_iload dX6_column_99 4 rfl ?_
            obtain ⟨k12, hk13, hk13n, hk13l, h⟩ := mh_ix_some h
            refine mw_xiald dX6_column_101 rfl hk13 hk13n ?_
            refine mw_iconst (v := -1) dX6_column_102 (by decide) ?_
            refine mw_icmp_eq (tgt := 110) dX6_column_103 (by decide) (fun hc14 => ?_) (fun hc14 => ?_)
            · replace h := mh_ifp hc14 h
              refine mw_loc [0, 1, 2, 4] rfl ?_
              exact hJ11  h
            · replace h := mh_ifn hc14 h
              refine mw_iconst (v := 1) dX6_column_106 (by decide) ?_
              refine mw_goto (tgt := 111) dX6_column_107 (by decide) ?_
              refine mw_loc [0, 1, 2, 4] rfl ?_
              exact hJ10 _ h
def X6_column (p1 : Int32) (p2 : Int32) (p3 : Int32) (I : mh_I) : Option (Int32 × mh_I) := (X6_in p1 (0 : Int32) (5 : Int32)).bind (fun q1 => if q1 = 0 then some ((-5 : Int32), I) else (X6_isPull p2).bind (fun q2 => if q2 = 0 then some ((-7 : Int32), I) else (X6_in p3 (0 : Int32) (1 : Int32)).bind (fun q3 => if q3 = 0 then some ((-7 : Int32), I) else X6_column_l37 p1 (fun (v7 : Int64) => (X6_runs v7 p2 I).bind (fun q8 => X6_column_l77 p1 q8 (fun (v19 : Int32) => if p3 = 0 then some ((q8 0 29), q8) else some (v19, q8)) mh_fuel (0 : Int32) (0 : Int32))) mh_fuel (0 : Int64) (0 : Int32))))
set_option maxHeartbeats 4000000 in
set_option maxRecDepth 100000 in
theorem t_X6_column {L : mh_L} {I : mh_I} {p1 : Int32} {p2 : Int32} {p3 : Int32} {res : Int32 × mh_I} (h : X6_column p1 p2 p3 I = some res) : mh_CT yX6_column cX6_column 8 (some .int) (mh_rm 6) SHM I L [.ref 0, .int p1, .int p2, .int p3] (mh_ret (some (.int res.1)) SHM res.2 L) := by
  refine mh_ofW (ini := false) RX6 rfl (by decide) (fun h => by cases h) (Nat.le_of_ble_eq_true rfl) ?_
  show w_X6_column SHM (mh_ret (some (.int res.1)) SHM res.2 L) I L 0 [(0, .ref 0), (1, .int p1), (2, .int p2), (3, .int p3)] []
  unfold X6_column at h
  refine mw_iload_n dX6_column_0 1 rfl ?_
  refine mw_iconst (v := 0) dX6_column_1 (by decide) ?_
  refine mw_iconst (v := 5) dX6_column_2 (by decide) ?_
  obtain ⟨q1, hq1, h⟩ := mh_bind h
  refine mw_sz (dc := 0) cs_X6_69 wd_722 dX6_column_3 [.int p1, .int (0 : Int32), .int (5 : Int32)] [.int (5 : Int32), .int (0 : Int32), .int p1] rfl rfl (t_X6_in hq1) ⟨by decide, by decide⟩ (Nat.le_of_ble_eq_true rfl) ⟨rfl, rfl⟩ (fun zq1 => ?_)
  refine mw_if_ne (tgt := 12) dX6_column_6 (by decide) (fun hc23 => ?_) (fun hc23 => ?_)
  · replace h := mh_ifn hc23 h
    refine mw_iload_n dX6_column_12 2 rfl ?_
    obtain ⟨q2, hq2, h⟩ := mh_bind h
    refine mw_sz (dc := 1) cs_X6_158 wd_879 dX6_column_13 [.int p2] [.int p2] rfl rfl (t_X6_isPull hq2) ⟨by decide, by decide⟩ (Nat.le_of_ble_eq_true rfl) ⟨rfl, rfl⟩ (fun zq2 => ?_)
    refine mw_if_eq (tgt := 28) dX6_column_16 (by decide) (fun hc22 => ?_) (fun hc22 => ?_)
    · replace h := mh_ifp hc22 h
      refine mw_bipush (v := -7) dX6_column_28 (by decide) ?_
      obtain rfl := Option.some.inj h
      exact mw_iret dX6_column_30 rfl rfl (Nat.le_of_ble_eq_true rfl) (Nat.le_refl 0) mh_ret_rfl
    · replace h := mh_ifn hc22 h
      refine mw_iload_n dX6_column_19 3 rfl ?_
      refine mw_iconst (v := 0) dX6_column_20 (by decide) ?_
      refine mw_iconst (v := 1) dX6_column_21 (by decide) ?_
      obtain ⟨q3, hq3, h⟩ := mh_bind h
      refine mw_sz (dc := 0) cs_X6_69 wd_722 dX6_column_22 [.int p3, .int (0 : Int32), .int (1 : Int32)] [.int (1 : Int32), .int (0 : Int32), .int p3] rfl rfl (t_X6_in hq3) ⟨by decide, by decide⟩ (Nat.le_of_ble_eq_true rfl) ⟨rfl, rfl⟩ (fun zq3 => ?_)
      refine mw_if_ne (tgt := 31) dX6_column_25 (by decide) (fun hc21 => ?_) (fun hc21 => ?_)
      · replace h := mh_ifn hc21 h
        refine mw_lconst (v := 0) dX6_column_31 (by decide) ?_
        refine mw_lstore dX6_column_32 (by decide) rfl ?_
        refine mw_iconst (v := 0) dX6_column_34 (by decide) ?_
        refine mw_istore dX6_column_35 (by decide) rfl ?_
        refine mw_loc [2, 3, 4, 5, 1, 0] rfl ?_
        refine t_X6_column_l37  _ _ _ h (fun v7 h => ?_)
        refine mw_aload_n dX6_column_64 0 rfl ?_
        refine mw_lload dX6_column_65 4 rfl ?_
        refine mw_iload_n dX6_column_67 2 rfl ?_
        obtain ⟨q8, hq8, h⟩ := mh_bind h
        refine mw_vv (dc := 5) (ci := 6) (fs := fsX6) (T := TX6) (N := 30) cv_X6_209 wd_968 dX6_column_68 [.long v7, .int p2] [.int p2, .long v7, .ref 0] rfl rfl rfl rfl (t_X6_runs hq8) ⟨by decide, by decide⟩ (Nat.le_of_ble_eq_true rfl) ⟨rfl, rfl⟩ ?_
        refine mw_iconst (v := 0) dX6_column_71 (by decide) ?_
        refine mw_istore dX6_column_72 (by decide) rfl ?_
        refine mw_iconst (v := 0) dX6_column_74 (by decide) ?_
        refine mw_istore dX6_column_75 (by decide) rfl ?_
        refine mw_loc [2, 3, 5, 1, 0] rfl ?_
        refine t_X6_column_l77  _ _ _ h (fun v19 h => ?_)
        refine mw_iload_n dX6_column_120 1 rfl ?_
        refine mw_if_ne (tgt := 131) dX6_column_121 (by decide) (fun hc20 => ?_) (fun hc20 => ?_)
        · replace h := mh_ifn hc20 h
          refine mw_iload dX6_column_131 2 rfl ?_
          obtain rfl := Option.some.inj h
          exact mw_iret dX6_column_133 rfl rfl (Nat.le_of_ble_eq_true rfl) (Nat.le_refl 0) mh_ret_rfl
        · replace h := mh_ifp hc20 h
          refine mw_aload_n dX6_column_124 0 rfl ?_
          refine mw_geti (fs := fsX6) gf_X6_202 dX6_column_125 rfl rfl ?_
          refine mw_goto (tgt := 133) dX6_column_128 (by decide) ?_
          obtain rfl := Option.some.inj h
          exact mw_iret dX6_column_133 rfl rfl (Nat.le_of_ble_eq_true rfl) (Nat.le_refl 0) mh_ret_rfl
      · replace h := mh_ifp hc21 h
        refine mw_bipush (v := -7) dX6_column_28 (by decide) ?_
        obtain rfl := Option.some.inj h
        exact mw_iret dX6_column_30 rfl rfl (Nat.le_of_ble_eq_true rfl) (Nat.le_refl 0) mh_ret_rfl
  · replace h := mh_ifp hc23 h
    refine mw_bipush (v := -5) dX6_column_9 (by decide) ?_
    obtain rfl := Option.some.inj h
    exact mw_iret dX6_column_11 rfl rfl (Nat.le_of_ble_eq_true rfl) (Nat.le_refl 0) mh_ret_rfl
abbrev w_X6_line (sh : List mh_C) (Φ : mh_P) (I : mh_I) (L : mh_L) (pc : Nat) (lv : List (Nat × Value)) (st : List Value) : Prop := mh_W RX6 cX6_line 4 (some .int) false (mh_rm 7) 18 0 0 mh_noX Φ 0 sh I L pc lv st
def X6_line_l25 (u1 : Int32) (u2 : Int32) : Nat → Int32 → mh_I → Option (Int32 × mh_I)
  | 0, _, _ => none
  | n + 1, u3, I => if (99 : Int32) < u3 then some ((-1 : Int32), I) else (X6_runsFrom u1 u3 I).bind (fun q3 => if (q3 0 29) ≤ u2 then mh_b (u3 + (1 : Int32)) (fun b4 => (X6_line_l25 u1 u2 n b4 q3)) else some (u3, q3))
set_option maxHeartbeats 4000000 in
set_option maxRecDepth 100000 in
theorem t_X6_line_l25 {u1 : Int32} {u2 : Int32} {L : mh_L} {res : Int32 × mh_I} (n : Nat) (u3 : Int32) (I : mh_I) (h : X6_line_l25 u1 u2 n u3 I = some res)  : w_X6_line SHM (mh_ret (some (.int res.1)) SHM res.2 L) I L 25 [(0, .ref 0), (1, .int u1), (2, .int u2), (3, .int u3)] [] := by
  induction n generalizing u3 I with
  | zero => rw [X6_line_l25] at h; cases h
  | succ n ih =>
    rw [X6_line_l25] at h
    refine mw_iload_n dX6_line_25 3 rfl ?_
    refine mw_bipush (v := 99) dX6_line_26 (by decide) ?_
    refine mw_icmp_gt (tgt := 53) dX6_line_28 (by decide) (fun hc6 => ?_) (fun hc6 => ?_)
    · replace h := mh_ifp hc6 h
      refine mw_iconst (v := -1) dX6_line_53 (by decide) ?_
      obtain rfl := Option.some.inj h
      exact mw_iret dX6_line_54 rfl rfl (Nat.le_of_ble_eq_true rfl) (Nat.le_refl 0) mh_ret_rfl
    · replace h := mh_ifn hc6 h
      refine mw_aload_n dX6_line_31 0 rfl ?_
      refine mw_iload_n dX6_line_32 1 rfl ?_
      refine mw_iload_n dX6_line_33 3 rfl ?_
      obtain ⟨q3, hq3, h⟩ := mh_bind h
      refine mw_vv (dc := 6) (ci := 6) (fs := fsX6) (T := TX6) (N := 30) cv_X6_213 wd_964 dX6_line_34 [.int u1, .int u3] [.int u3, .int u1, .ref 0] rfl rfl rfl rfl (t_X6_runsFrom hq3) ⟨by decide, by decide⟩ (Nat.le_of_ble_eq_true rfl) ⟨rfl, rfl⟩ ?_
      refine mw_aload_n dX6_line_37 0 rfl ?_
      refine mw_geti (fs := fsX6) gf_X6_202 dX6_line_38 rfl rfl ?_
      refine mw_iload_n dX6_line_41 2 rfl ?_
      refine mw_icmp_le (tgt := 47) dX6_line_42 (by decide) (fun hc5 => ?_) (fun hc5 => ?_)
      · replace h := mh_ifp hc5 h
        obtain ⟨b4, eb4, h⟩ := mh_b_some h
        refine mw_iinc (v := b4) dX6_line_47 3 rfl (by rw [← eb4]; rfl) (by decide) rfl ?_
        refine mw_goto (tgt := 25) dX6_line_50 (by decide) ?_
        refine mw_loc [1, 2, 3, 0] rfl ?_
        exact ih _ _ h
      · replace h := mh_ifn hc5 h
        refine mw_iload_n dX6_line_45 3 rfl ?_
        obtain rfl := Option.some.inj h
        exact mw_iret dX6_line_46 rfl rfl (Nat.le_of_ble_eq_true rfl) (Nat.le_refl 0) mh_ret_rfl
def X6_line (p1 : Int32) (p2 : Int32) (I : mh_I) : Option (Int32 × mh_I) := (X6_isLoop p1).bind (fun q1 => if q1 = 0 then some ((-5 : Int32), I) else (X6_in p2 (0 : Int32) (48 : Int32)).bind (fun q2 => if q2 = 0 then some ((-7 : Int32), I) else X6_line_l25 p1 p2 mh_fuel (0 : Int32) I))
set_option maxHeartbeats 4000000 in
set_option maxRecDepth 100000 in
theorem t_X6_line {L : mh_L} {I : mh_I} {p1 : Int32} {p2 : Int32} {res : Int32 × mh_I} (h : X6_line p1 p2 I = some res) : mh_CT yX6_line cX6_line 4 (some .int) (mh_rm 7) SHM I L [.ref 0, .int p1, .int p2] (mh_ret (some (.int res.1)) SHM res.2 L) := by
  refine mh_ofW (ini := false) RX6 rfl (by decide) (fun h => by cases h) (Nat.le_of_ble_eq_true rfl) ?_
  show w_X6_line SHM (mh_ret (some (.int res.1)) SHM res.2 L) I L 0 [(0, .ref 0), (1, .int p1), (2, .int p2)] []
  unfold X6_line at h
  refine mw_iload_n dX6_line_0 1 rfl ?_
  obtain ⟨q1, hq1, h⟩ := mh_bind h
  refine mw_sz (dc := 1) cs_X6_155 wd_876 dX6_line_1 [.int p1] [.int p1] rfl rfl (t_X6_isLoop hq1) ⟨by decide, by decide⟩ (Nat.le_of_ble_eq_true rfl) ⟨rfl, rfl⟩ (fun zq1 => ?_)
  refine mw_if_ne (tgt := 10) dX6_line_4 (by decide) (fun hc8 => ?_) (fun hc8 => ?_)
  · replace h := mh_ifn hc8 h
    refine mw_iload_n dX6_line_10 2 rfl ?_
    refine mw_iconst (v := 0) dX6_line_11 (by decide) ?_
    refine mw_bipush (v := 48) dX6_line_12 (by decide) ?_
    obtain ⟨q2, hq2, h⟩ := mh_bind h
    refine mw_sz (dc := 0) cs_X6_69 wd_722 dX6_line_14 [.int p2, .int (0 : Int32), .int (48 : Int32)] [.int (48 : Int32), .int (0 : Int32), .int p2] rfl rfl (t_X6_in hq2) ⟨by decide, by decide⟩ (Nat.le_of_ble_eq_true rfl) ⟨rfl, rfl⟩ (fun zq2 => ?_)
    refine mw_if_ne (tgt := 23) dX6_line_17 (by decide) (fun hc7 => ?_) (fun hc7 => ?_)
    · replace h := mh_ifn hc7 h
      refine mw_iconst (v := 0) dX6_line_23 (by decide) ?_
      refine mw_istore_n dX6_line_24 (by decide) rfl ?_
      refine mw_loc [1, 2, 3, 0] rfl ?_
      exact t_X6_line_l25  _ _ _ h 
    · replace h := mh_ifp hc7 h
      refine mw_bipush (v := -7) dX6_line_20 (by decide) ?_
      obtain rfl := Option.some.inj h
      exact mw_iret dX6_line_22 rfl rfl (Nat.le_of_ble_eq_true rfl) (Nat.le_refl 0) mh_ret_rfl
  · replace h := mh_ifp hc8 h
    refine mw_bipush (v := -5) dX6_line_7 (by decide) ?_
    obtain rfl := Option.some.inj h
    exact mw_iret dX6_line_9 rfl rfl (Nat.le_of_ble_eq_true rfl) (Nat.le_refl 0) mh_ret_rfl
abbrev w_X6_reach (sh : List mh_C) (Φ : mh_P) (I : mh_I) (L : mh_L) (pc : Nat) (lv : List (Nat × Value)) (st : List Value) : Prop := mh_W RX6 cX6_reach 4 (some .int) false (mh_rm 7) 18 0 0 mh_noX Φ 0 sh I L pc lv st
def X6_reach_l19 (u1 : Int32) (u2 : Int32) : Nat → Int32 → mh_I → Option (Int32 × mh_I)
  | 0, _, _ => none
  | n + 1, u3, I => if (99 : Int32) < u3 then some ((-1 : Int32), I) else (X6_runsFrom u1 u3 I).bind (fun q3 => mh_ix u2 48 (fun k4 => if (q3 17 k4) = (-1 : Int32) then mh_b (u3 + (1 : Int32)) (fun b6 => (X6_reach_l19 u1 u2 n b6 q3)) else some (u3, q3)))
set_option maxHeartbeats 4000000 in
set_option maxRecDepth 100000 in
theorem t_X6_reach_l19 {u1 : Int32} {u2 : Int32} {L : mh_L} {res : Int32 × mh_I} (n : Nat) (u3 : Int32) (I : mh_I) (h : X6_reach_l19 u1 u2 n u3 I = some res)  : w_X6_reach SHM (mh_ret (some (.int res.1)) SHM res.2 L) I L 19 [(0, .ref 0), (1, .int u1), (2, .int u2), (3, .int u3)] [] := by
  induction n generalizing u3 I with
  | zero => rw [X6_reach_l19] at h; cases h
  | succ n ih =>
    rw [X6_reach_l19] at h
    refine mw_iload_n dX6_reach_19 3 rfl ?_
    refine mw_bipush (v := 99) dX6_reach_20 (by decide) ?_
    refine mw_icmp_gt (tgt := 49) dX6_reach_22 (by decide) (fun hc8 => ?_) (fun hc8 => ?_)
    · replace h := mh_ifp hc8 h
      refine mw_iconst (v := -1) dX6_reach_49 (by decide) ?_
      obtain rfl := Option.some.inj h
      exact mw_iret dX6_reach_50 rfl rfl (Nat.le_of_ble_eq_true rfl) (Nat.le_refl 0) mh_ret_rfl
    · replace h := mh_ifn hc8 h
      refine mw_aload_n dX6_reach_25 0 rfl ?_
      refine mw_iload_n dX6_reach_26 1 rfl ?_
      refine mw_iload_n dX6_reach_27 3 rfl ?_
      obtain ⟨q3, hq3, h⟩ := mh_bind h
      refine mw_vv (dc := 6) (ci := 6) (fs := fsX6) (T := TX6) (N := 30) cv_X6_213 wd_964 dX6_reach_28 [.int u1, .int u3] [.int u3, .int u1, .ref 0] rfl rfl rfl rfl (t_X6_runsFrom hq3) ⟨by decide, by decide⟩ (Nat.le_of_ble_eq_true rfl) ⟨rfl, rfl⟩ ?_
      refine mw_aload_n dX6_reach_31 0 rfl ?_
      refine mw_getr (b := 17) (fs := fsX6) gf_X6_58 dX6_reach_32 rfl rfl ?_
      refine mw_iload_n dX6_reach_35 2 rfl ?_
      obtain ⟨k4, hk5, hk5n, hk5l, h⟩ := mh_ix_some h
      refine mw_xiald dX6_reach_36 rfl hk5 hk5n ?_
      refine mw_iconst (v := -1) dX6_reach_37 (by decide) ?_
      refine mw_icmp_eq (tgt := 43) dX6_reach_38 (by decide) (fun hc7 => ?_) (fun hc7 => ?_)
      · replace h := mh_ifp hc7 h
        obtain ⟨b6, eb6, h⟩ := mh_b_some h
        refine mw_iinc (v := b6) dX6_reach_43 3 rfl (by rw [← eb6]; rfl) (by decide) rfl ?_
        refine mw_goto (tgt := 19) dX6_reach_46 (by decide) ?_
        refine mw_loc [1, 2, 3, 0] rfl ?_
        exact ih _ _ h
      · replace h := mh_ifn hc7 h
        refine mw_iload_n dX6_reach_41 3 rfl ?_
        obtain rfl := Option.some.inj h
        exact mw_iret dX6_reach_42 rfl rfl (Nat.le_of_ble_eq_true rfl) (Nat.le_refl 0) mh_ret_rfl
def X6_reach (p1 : Int32) (p2 : Int32) (I : mh_I) : Option (Int32 × mh_I) := (X6_isLoop p1).bind (fun q1 => if q1 = 0 then some ((-5 : Int32), I) else (X6_isLoop p2).bind (fun q2 => if q2 = 0 then some ((-5 : Int32), I) else X6_reach_l19 p1 p2 mh_fuel (0 : Int32) I))
set_option maxHeartbeats 4000000 in
set_option maxRecDepth 100000 in
theorem t_X6_reach {L : mh_L} {I : mh_I} {p1 : Int32} {p2 : Int32} {res : Int32 × mh_I} (h : X6_reach p1 p2 I = some res) : mh_CT yX6_reach cX6_reach 4 (some .int) (mh_rm 7) SHM I L [.ref 0, .int p1, .int p2] (mh_ret (some (.int res.1)) SHM res.2 L) := by
  refine mh_ofW (ini := false) RX6 rfl (by decide) (fun h => by cases h) (Nat.le_of_ble_eq_true rfl) ?_
  show w_X6_reach SHM (mh_ret (some (.int res.1)) SHM res.2 L) I L 0 [(0, .ref 0), (1, .int p1), (2, .int p2)] []
  unfold X6_reach at h
  refine mw_iload_n dX6_reach_0 1 rfl ?_
  obtain ⟨q1, hq1, h⟩ := mh_bind h
  refine mw_sz (dc := 1) cs_X6_155 wd_876 dX6_reach_1 [.int p1] [.int p1] rfl rfl (t_X6_isLoop hq1) ⟨by decide, by decide⟩ (Nat.le_of_ble_eq_true rfl) ⟨rfl, rfl⟩ (fun zq1 => ?_)
  refine mw_if_eq (tgt := 14) dX6_reach_4 (by decide) (fun hc10 => ?_) (fun hc10 => ?_)
  · replace h := mh_ifp hc10 h
    refine mw_bipush (v := -5) dX6_reach_14 (by decide) ?_
    obtain rfl := Option.some.inj h
    exact mw_iret dX6_reach_16 rfl rfl (Nat.le_of_ble_eq_true rfl) (Nat.le_refl 0) mh_ret_rfl
  · replace h := mh_ifn hc10 h
    refine mw_iload_n dX6_reach_7 2 rfl ?_
    obtain ⟨q2, hq2, h⟩ := mh_bind h
    refine mw_sz (dc := 1) cs_X6_155 wd_876 dX6_reach_8 [.int p2] [.int p2] rfl rfl (t_X6_isLoop hq2) ⟨by decide, by decide⟩ (Nat.le_of_ble_eq_true rfl) ⟨rfl, rfl⟩ (fun zq2 => ?_)
    refine mw_if_ne (tgt := 17) dX6_reach_11 (by decide) (fun hc9 => ?_) (fun hc9 => ?_)
    · replace h := mh_ifn hc9 h
      refine mw_iconst (v := 0) dX6_reach_17 (by decide) ?_
      refine mw_istore_n dX6_reach_18 (by decide) rfl ?_
      refine mw_loc [1, 2, 3, 0] rfl ?_
      exact t_X6_reach_l19  _ _ _ h 
    · replace h := mh_ifp hc9 h
      refine mw_bipush (v := -5) dX6_reach_14 (by decide) ?_
      obtain rfl := Option.some.inj h
      exact mw_iret dX6_reach_16 rfl rfl (Nat.le_of_ble_eq_true rfl) (Nat.le_refl 0) mh_ret_rfl
abbrev w_X6_went (sh : List mh_C) (Φ : mh_P) (I : mh_I) (L : mh_L) (pc : Nat) (lv : List (Nat × Value)) (st : List Value) : Prop := mh_W RX6 cX6_went 4 (some .long) false (mh_rm 0) 18 0 0 mh_noX Φ 0 sh I L pc lv st
def X6_went_l4 (I : mh_I) : Nat → Int64 → Int32 → Option (Int64)
  | 0, _, _ => none
  | n + 1, u1, u3 => if (48 : Int32) ≤ u3 then some u1 else mh_ix u3 48 (fun k1 => mh_j (fun (s3 : Int64) => mh_b (u1 ||| s3) (fun b6 => mh_b (u3 + (1 : Int32)) (fun b7 => (X6_went_l4 I n b6 b7)))) (fun J4 => if (I 17 k1) = (-1 : Int32) then (J4 (0 : Int64)) else (J4 ((1 : Int64) <<< (u3.toInt64 &&& 63)))))
set_option maxHeartbeats 4000000 in
set_option maxRecDepth 100000 in
theorem t_X6_went_l4 {I : mh_I} {L : mh_L} {res : Int64} (n : Nat) (u1 : Int64) (u3 : Int32) (h : X6_went_l4 I n u1 u3 = some res)  : w_X6_went SHM (mh_ret (some (.long res)) SHM I L) I L 4 [(0, .ref 0), (1, .long u1), (3, .int u3)] [] := by
  induction n generalizing u1 u3 with
  | zero => rw [X6_went_l4] at h; cases h
  | succ n ih =>
    rw [X6_went_l4] at h
    refine mw_iload_n dX6_went_4 2 rfl ?_
    refine mw_bipush (v := 48) dX6_went_5 (by decide) ?_
    refine mw_icmp_ge (tgt := 36) dX6_went_7 (by decide) (fun hc8 => ?_) (fun hc8 => ?_)
    · replace h := mh_ifp hc8 h
      refine mw_lload_n dX6_went_36 1 rfl ?_
      obtain rfl := Option.some.inj h
      exact mw_lret dX6_went_37 rfl (Nat.le_of_ble_eq_true rfl) (Nat.le_refl 0) mh_ret_rfl
    · replace h := mh_ifn hc8 h
      refine mw_lload_n dX6_went_10 1 rfl ?_
      refine mw_aload_n dX6_went_11 0 rfl ?_
      refine mw_getr (b := 17) (fs := fsX6) gf_X6_58 dX6_went_12 rfl rfl ?_
      refine mw_iload_n dX6_went_15 2 rfl ?_
      obtain ⟨k1, hk2, hk2n, hk2l, h⟩ := mh_ix_some h
      refine mw_xiald dX6_went_16 rfl hk2 hk2n ?_
      refine mw_iconst (v := -1) dX6_went_17 (by decide) ?_
      refine mh_jw (fun J4 => ∀ (s3 : Int64), J4 s3 = some res → w_X6_went SHM (mh_ret (some (.long res)) SHM I L) I L 28 [(0, .ref 0), (3, .int u3)] [.long s3, .long u1]) h (fun s3 h => ?_) (fun J4 hJ4 h => ?_)
      · refine mw_lor dX6_went_28 ?_
        obtain ⟨b6, eb6, h⟩ := mh_b_some h
        refine mw_nml eb6 ?_
        refine mw_lstore_n dX6_went_29 (by decide) rfl ?_
        obtain ⟨b7, eb7, h⟩ := mh_b_some h
        refine mw_iinc (v := b7) dX6_went_30 2 rfl (by rw [← eb7]; rfl) (by decide) rfl ?_
        refine mw_goto (tgt := 4) dX6_went_33 (by decide) ?_
        refine mw_loc [2, 1, 0] rfl ?_
        exact ih _ _ h
      · refine mw_icmp_ne (tgt := 25) dX6_went_18 (by decide) (fun hc5 => ?_) (fun hc5 => ?_)
        · replace h := mh_ifn hc5 h
          refine mw_lconst (v := 1) dX6_went_25 (by decide) ?_
          refine mw_iload_n dX6_went_26 2 rfl ?_
          refine mw_lshl dX6_went_27 ?_
          refine mw_loc [0, 2] rfl ?_
          exact hJ4 _ h
        · replace h := mh_ifp hc5 h
          refine mw_lconst (v := 0) dX6_went_21 (by decide) ?_
          refine mw_goto (tgt := 28) dX6_went_22 (by decide) ?_
          refine mw_loc [0, 2] rfl ?_
          exact hJ4 _ h
def X6_went (I : mh_I) : Option (Int64) := X6_went_l4 I mh_fuel (0 : Int64) (0 : Int32)
set_option maxHeartbeats 4000000 in
set_option maxRecDepth 100000 in
theorem t_X6_went {L : mh_L} {I : mh_I} {res : Int64} (h : X6_went I = some res) : mh_CT yX6_went cX6_went 4 (some .long) (mh_rm 0) SHM I L [.ref 0] (mh_ret (some (.long res)) SHM I L) := by
  refine mh_ofW (ini := false) RX6 rfl (by decide) (fun h => by cases h) (Nat.le_of_ble_eq_true rfl) ?_
  show w_X6_went SHM (mh_ret (some (.long res)) SHM I L) I L 0 [(0, .ref 0)] []
  unfold X6_went at h
  refine mw_lconst (v := 0) dX6_went_0 (by decide) ?_
  refine mw_lstore_n dX6_went_1 (by decide) rfl ?_
  refine mw_iconst (v := 0) dX6_went_2 (by decide) ?_
  refine mw_istore_n dX6_went_3 (by decide) rfl ?_
  refine mw_loc [2, 1, 0] rfl ?_
  exact t_X6_went_l4  _ _ _ h 
abbrev w_X6_alone (sh : List mh_C) (Φ : mh_P) (I : mh_I) (L : mh_L) (pc : Nat) (lv : List (Nat × Value)) (st : List Value) : Prop := mh_W RX6 cX6_alone 6 (some .int) false (mh_rm 7) 18 0 0 mh_noX Φ 0 sh I L pc lv st
def X6_alone (p1 : Int32) (p2 : Int32) (p3 : Int32) (I : mh_I) : Option (Int32 × mh_I) := (X6_runsFrom p1 p3 I).bind (fun q1 => (X6_went q1).bind (fun q2 => (X6_runsFrom p2 p3 q1).bind (fun q3 => (X6_went q3).bind (fun q4 => (X6_bitsOf (q2 ||| q4)).bind (fun q5 => some (q5, q3))))))
set_option maxHeartbeats 4000000 in
set_option maxRecDepth 100000 in
theorem t_X6_alone {L : mh_L} {I : mh_I} {p1 : Int32} {p2 : Int32} {p3 : Int32} {res : Int32 × mh_I} (h : X6_alone p1 p2 p3 I = some res) : mh_CT yX6_alone cX6_alone 6 (some .int) (mh_rm 7) SHM I L [.ref 0, .int p1, .int p2, .int p3] (mh_ret (some (.int res.1)) SHM res.2 L) := by
  refine mh_ofW (ini := false) RX6 rfl (by decide) (fun h => by cases h) (Nat.le_of_ble_eq_true rfl) ?_
  show w_X6_alone SHM (mh_ret (some (.int res.1)) SHM res.2 L) I L 0 [(0, .ref 0), (1, .int p1), (2, .int p2), (3, .int p3)] []
  unfold X6_alone at h
  refine mw_aload_n dX6_alone_0 0 rfl ?_
  refine mw_iload_n dX6_alone_1 1 rfl ?_
  refine mw_iload_n dX6_alone_2 3 rfl ?_
  obtain ⟨q1, hq1, h⟩ := mh_bind h
  refine mw_vv (dc := 6) (ci := 6) (fs := fsX6) (T := TX6) (N := 30) cv_X6_213 wd_964 dX6_alone_3 [.int p1, .int p3] [.int p3, .int p1, .ref 0] rfl rfl rfl rfl (t_X6_runsFrom hq1) ⟨by decide, by decide⟩ (Nat.le_of_ble_eq_true rfl) ⟨rfl, rfl⟩ ?_
  refine mw_aload_n dX6_alone_6 0 rfl ?_
  obtain ⟨q2, hq2, h⟩ := mh_bind h
  refine mw_vr (dc := 0) (ci := 6) (fs := fsX6) (T := TX6) (N := 30) cv_X6_223 wd_1024 dX6_alone_7 [] [.ref 0] rfl rfl rfl rfl (t_X6_went hq2) ⟨by decide, by decide⟩ (Nat.le_of_ble_eq_true rfl) ⟨rfl, rfl⟩ ?_
  refine mw_lstore dX6_alone_10 (by decide) rfl ?_
  refine mw_aload_n dX6_alone_12 1 rfl ?_
  refine mw_iload_n dX6_alone_13 3 rfl ?_
  refine mw_iload_n dX6_alone_14 4 rfl ?_
  obtain ⟨q3, hq3, h⟩ := mh_bind h
  refine mw_vv (dc := 6) (ci := 6) (fs := fsX6) (T := TX6) (N := 30) cv_X6_213 wd_964 dX6_alone_15 [.int p2, .int p3] [.int p3, .int p2, .ref 0] rfl rfl rfl rfl (t_X6_runsFrom hq3) ⟨by decide, by decide⟩ (Nat.le_of_ble_eq_true rfl) ⟨rfl, rfl⟩ ?_
  refine mw_lload dX6_alone_18 0 rfl ?_
  refine mw_aload_n dX6_alone_20 1 rfl ?_
  obtain ⟨q4, hq4, h⟩ := mh_bind h
  refine mw_vr (dc := 0) (ci := 6) (fs := fsX6) (T := TX6) (N := 30) cv_X6_223 wd_1024 dX6_alone_21 [] [.ref 0, .long q2] rfl rfl rfl rfl (t_X6_went hq4) ⟨by decide, by decide⟩ (Nat.le_of_ble_eq_true rfl) ⟨rfl, rfl⟩ ?_
  refine mw_lor dX6_alone_24 ?_
  obtain ⟨q5, hq5, h⟩ := mh_bind h
  refine mw_sr (dc := 0) cs_X6_192 wd_956 dX6_alone_25 [.long (q2 ||| q4)] [.long (q2 ||| q4)] rfl rfl (t_X6_bitsOf hq5) ⟨by decide, by decide⟩ (Nat.le_of_ble_eq_true rfl) ⟨rfl, rfl⟩ ?_
  obtain rfl := Option.some.inj h
  exact mw_iret dX6_alone_28 rfl rfl (Nat.le_of_ble_eq_true rfl) (Nat.le_refl 0) mh_ret_rfl
abbrev w_X6_two_ (sh : List mh_C) (Φ : mh_P) (I : mh_I) (L : mh_L) (pc : Nat) (lv : List (Nat × Value)) (st : List Value) : Prop := mh_W RX6 cX6_two_ 7 (some .int) false (mh_rm 8) 18 0 0 mh_noX Φ 0 sh I L pc lv st
def X6_two__l40 (u1 : Int32) (u5 : Int32) (k109 : (Int32 → Int32 → mh_I → Option (Int32 × mh_I))) : Nat → Int32 → Int32 → Int32 → mh_I → Option (Int32 × mh_I)
  | 0, _, _, _, _ => none
  | n + 1, u3, u4, u6, I => if (48 : Int32) ≤ u6 then (k109 u3 u4 I) else (X6_runs (((1 : Int64) <<< (u5.toInt64 &&& 63)) ||| ((1 : Int64) <<< (u6.toInt64 &&& 63))) u1 I).bind (fun q4 => mh_j (fun (s5 : Int32) => mh_j (fun (s8 : Int32) => mh_b (u6 + (1 : Int32)) (fun b11 => (X6_two__l40 u1 u5 k109 n s5 s8 b11 q4))) (fun J9 => if (q4 0 29) ≤ u4 then (J9 u4) else (J9 (q4 0 29)))) (fun J6 => if (q4 0 29) ≤ u4 then (J6 u3) else (J6 (((100 : Int32) * u5) + u6))))
set_option maxHeartbeats 4000000 in
set_option maxRecDepth 100000 in
theorem t_X6_two__l40 {u1 : Int32} {u2 : Int32} {u5 : Int32} {k109 : (Int32 → Int32 → mh_I → Option (Int32 × mh_I))} {L : mh_L} {res : Int32 × mh_I} (n : Nat) (u3 : Int32) (u4 : Int32) (u6 : Int32) (I : mh_I) (h : X6_two__l40 u1 u5 k109 n u3 u4 u6 I = some res) (hk109 : ∀ (u3 : Int32) (u4 : Int32) (I : mh_I), k109 u3 u4 I = some res → w_X6_two_ SHM (mh_ret (some (.int res.1)) SHM res.2 L) I L 109 [(0, .ref 0), (1, .int u1), (2, .int u2), (3, .int u3), (4, .int u4), (5, .int u5)] []) : w_X6_two_ SHM (mh_ret (some (.int res.1)) SHM res.2 L) I L 40 [(0, .ref 0), (1, .int u1), (2, .int u2), (3, .int u3), (4, .int u4), (5, .int u5), (6, .int u6)] [] := by
  induction n generalizing u3 u4 u6 I with
  | zero => rw [X6_two__l40] at h; cases h
  | succ n ih =>
    rw [X6_two__l40] at h
    refine mw_iload dX6_two__40 6 rfl ?_
    refine mw_bipush (v := 48) dX6_two__42 (by decide) ?_
    refine mw_icmp_ge (tgt := 109) dX6_two__44 (by decide) (fun hc12 => ?_) (fun hc12 => ?_)
    · replace h := mh_ifp hc12 h
      refine mw_loc [0, 1, 2, 3, 4, 5] rfl ?_
      exact hk109 _ _ _ h
    · replace h := mh_ifn hc12 h
      refine mw_aload_n dX6_two__47 0 rfl ?_
      refine mw_lconst (v := 1) dX6_two__48 (by decide) ?_
      refine mw_iload dX6_two__49 5 rfl ?_
      refine mw_lshl dX6_two__51 ?_
      refine mw_lconst (v := 1) dX6_two__52 (by decide) ?_
      refine mw_iload dX6_two__53 6 rfl ?_
      refine mw_lshl dX6_two__55 ?_
      refine mw_lor dX6_two__56 ?_
      refine mw_iload_n dX6_two__57 1 rfl ?_
      obtain ⟨q4, hq4, h⟩ := mh_bind h
      refine mw_vv (dc := 5) (ci := 6) (fs := fsX6) (T := TX6) (N := 30) cv_X6_209 wd_968 dX6_two__58 [.long (((1 : Int64) <<< (u5.toInt64 &&& 63)) ||| ((1 : Int64) <<< (u6.toInt64 &&& 63))), .int u1] [.int u1, .long (((1 : Int64) <<< (u5.toInt64 &&& 63)) ||| ((1 : Int64) <<< (u6.toInt64 &&& 63))), .ref 0] rfl rfl rfl rfl (t_X6_runs hq4) ⟨by decide, by decide⟩ (Nat.le_of_ble_eq_true rfl) ⟨rfl, rfl⟩ ?_
      refine mw_aload_n dX6_two__61 0 rfl ?_
      refine mw_geti (fs := fsX6) gf_X6_202 dX6_two__62 rfl rfl ?_
      refine mw_iload dX6_two__65 4 rfl ?_
      refine mh_jw (fun J6 => ∀ (s5 : Int32), J6 s5 = some res → w_X6_two_ SHM (mh_ret (some (.int res.1)) SHM res.2 L) q4 L 82 [(0, .ref 0), (1, .int u1), (2, .int u2), (4, .int u4), (5, .int u5), (6, .int u6)] [.int s5]) h (fun s5 h => ?_) (fun J6 hJ6 h => ?_)
      · refine mw_istore_n dX6_two__82 (by decide) rfl ?_
        refine mw_aload_n dX6_two__83 1 rfl ?_
        refine mw_geti (fs := fsX6) gf_X6_202 dX6_two__84 rfl rfl ?_
        refine mw_iload dX6_two__87 4 rfl ?_
        refine mh_jw (fun J9 => ∀ (s8 : Int32), J9 s8 = some res → w_X6_two_ SHM (mh_ret (some (.int res.1)) SHM res.2 L) q4 L 101 [(0, .ref 0), (1, .int u1), (2, .int u2), (3, .int s5), (5, .int u5), (6, .int u6)] [.int s8]) h (fun s8 h => ?_) (fun J9 hJ9 h => ?_)
        · refine mw_istore dX6_two__101 (by decide) rfl ?_
          obtain ⟨b11, eb11, h⟩ := mh_b_some h
          refine mw_iinc (v := b11) dX6_two__103 6 rfl (by rw [← eb11]; rfl) (by decide) rfl ?_
          refine mw_goto (tgt := 40) dX6_two__106 (by decide) ?_
          refine mw_loc [2, 3, 4, 5, 1, 6, 0] rfl ?_
          exact ih _ _ _ _ h
        · refine mw_icmp_le (tgt := 99) dX6_two__89 (by decide) (fun hc10 => ?_) (fun hc10 => ?_)
          · replace h := mh_ifp hc10 h
            refine mw_iload dX6_two__99 4 rfl ?_
            refine mw_loc [1, 2, 3, 0, 5, 6] rfl ?_
            exact hJ9 _ h
          · replace h := mh_ifn hc10 h
            refine mw_aload_n dX6_two__92 1 rfl ?_
            refine mw_geti (fs := fsX6) gf_X6_202 dX6_two__93 rfl rfl ?_
            refine mw_goto (tgt := 101) dX6_two__96 (by decide) ?_
            refine mw_loc [1, 2, 3, 0, 5, 6] rfl ?_
            exact hJ9 _ h
      · refine mw_icmp_le (tgt := 81) dX6_two__67 (by decide) (fun hc7 => ?_) (fun hc7 => ?_)
        · replace h := mh_ifp hc7 h
          refine mw_iload_n dX6_two__81 3 rfl ?_
          refine mw_loc [0, 1, 2, 4, 5, 6] rfl ?_
          exact hJ6 _ h
        · replace h := mh_ifn hc7 h
          refine mw_bipush (v := 100) dX6_two__70 (by decide) ?_
          refine mw_iload dX6_two__72 5 rfl ?_
          refine mw_imul dX6_two__74 ?_
          refine mw_iload dX6_two__75 6 rfl ?_
          refine mw_iadd dX6_two__77 ?_
          refine mw_goto (tgt := 82) dX6_two__78 (by decide) ?_
          refine mw_loc [0, 1, 2, 4, 5, 6] rfl ?_
          exact hJ6 _ h
def X6_two__l27 (u1 : Int32) (k115 : (Int32 → Int32 → mh_I → Option (Int32 × mh_I))) : Nat → Int32 → Int32 → Int32 → mh_I → Option (Int32 × mh_I)
  | 0, _, _, _, _ => none
  | n + 1, u3, u4, u5, I => if (48 : Int32) ≤ u5 then (k115 u3 u4 I) else mh_b (u5 + (1 : Int32)) (fun b3 => X6_two__l40 u1 u5 (fun (v13 : Int32) (v14 : Int32) (I15 : mh_I) => mh_b (u5 + (1 : Int32)) (fun b16 => (X6_two__l27 u1 k115 n v13 v14 b16 I15))) mh_fuel u3 u4 b3 I)
set_option maxHeartbeats 4000000 in
set_option maxRecDepth 100000 in
theorem t_X6_two__l27 {u1 : Int32} {u2 : Int32} {k115 : (Int32 → Int32 → mh_I → Option (Int32 × mh_I))} {L : mh_L} {res : Int32 × mh_I} (n : Nat) (u3 : Int32) (u4 : Int32) (u5 : Int32) (I : mh_I) (h : X6_two__l27 u1 k115 n u3 u4 u5 I = some res) (hk115 : ∀ (u3 : Int32) (u4 : Int32) (I : mh_I), k115 u3 u4 I = some res → w_X6_two_ SHM (mh_ret (some (.int res.1)) SHM res.2 L) I L 115 [(0, .ref 0), (1, .int u1), (2, .int u2), (3, .int u3), (4, .int u4)] []) : w_X6_two_ SHM (mh_ret (some (.int res.1)) SHM res.2 L) I L 27 [(0, .ref 0), (1, .int u1), (2, .int u2), (3, .int u3), (4, .int u4), (5, .int u5)] [] := by
  induction n generalizing u3 u4 u5 I with
  | zero => rw [X6_two__l27] at h; cases h
  | succ n ih =>
    rw [X6_two__l27] at h
    refine mw_iload dX6_two__27 5 rfl ?_
    refine mw_bipush (v := 48) dX6_two__29 (by decide) ?_
    refine mw_icmp_ge (tgt := 115) dX6_two__31 (by decide) (fun hc17 => ?_) (fun hc17 => ?_)
    · replace h := mh_ifp hc17 h
      refine mw_loc [0, 1, 2, 3, 4] rfl ?_
      exact hk115 _ _ _ h
    · replace h := mh_ifn hc17 h
      refine mw_iload dX6_two__34 5 rfl ?_
      refine mw_iconst (v := 1) dX6_two__36 (by decide) ?_
      refine mw_iadd dX6_two__37 ?_
      obtain ⟨b3, eb3, h⟩ := mh_b_some h
      refine mw_nmi eb3 ?_
      refine mw_istore dX6_two__38 (by decide) rfl ?_
      refine mw_loc [1, 2, 3, 4, 5, 6, 0] rfl ?_
      refine t_X6_two__l40  _ _ _ _ _ h (fun v13 v14 I15 h => ?_)
      obtain ⟨b16, eb16, h⟩ := mh_b_some h
      refine mw_iinc (v := b16) dX6_two__109 5 rfl (by rw [← eb16]; rfl) (by decide) rfl ?_
      refine mw_goto (tgt := 27) dX6_two__112 (by decide) ?_
      refine mw_loc [1, 2, 3, 4, 5, 0] rfl ?_
      exact ih _ _ _ _ h
def X6_two_ (p1 : Int32) (p2 : Int32) (I : mh_I) : Option (Int32 × mh_I) := (X6_isPull p1).bind (fun q1 => if q1 = 0 then some ((-2 : Int32), I) else (X6_in p2 (0 : Int32) (2 : Int32)).bind (fun q2 => if q2 = 0 then some ((-2 : Int32), I) else X6_two__l27 p1 (fun (v18 : Int32) (v19 : Int32) (I20 : mh_I) => if p2 = 0 then some (v18, I20) else if p2 = (1 : Int32) then some (v19, I20) else (X6_alone (v18 / (100 : Int32)) (mh_rem v18 (100 : Int32)) p1 I20).bind (fun q21 => some ((v19 - q21.1), q21.2))) mh_fuel (0 : Int32) (-1 : Int32) (0 : Int32) I))
set_option maxHeartbeats 4000000 in
set_option maxRecDepth 100000 in
theorem t_X6_two_ {L : mh_L} {I : mh_I} {p1 : Int32} {p2 : Int32} {res : Int32 × mh_I} (h : X6_two_ p1 p2 I = some res) : mh_CT yX6_two_ cX6_two_ 7 (some .int) (mh_rm 8) SHM I L [.ref 0, .int p1, .int p2] (mh_ret (some (.int res.1)) SHM res.2 L) := by
  refine mh_ofW (ini := false) RX6 rfl (by decide) (fun h => by cases h) (Nat.le_of_ble_eq_true rfl) ?_
  show w_X6_two_ SHM (mh_ret (some (.int res.1)) SHM res.2 L) I L 0 [(0, .ref 0), (1, .int p1), (2, .int p2)] []
  unfold X6_two_ at h
  refine mw_iload_n dX6_two__0 1 rfl ?_
  obtain ⟨q1, hq1, h⟩ := mh_bind h
  refine mw_sz (dc := 1) cs_X6_158 wd_879 dX6_two__1 [.int p1] [.int p1] rfl rfl (t_X6_isPull hq1) ⟨by decide, by decide⟩ (Nat.le_of_ble_eq_true rfl) ⟨rfl, rfl⟩ (fun zq1 => ?_)
  refine mw_if_eq (tgt := 16) dX6_two__4 (by decide) (fun hc25 => ?_) (fun hc25 => ?_)
  · replace h := mh_ifp hc25 h
    refine mw_bipush (v := -2) dX6_two__16 (by decide) ?_
    obtain rfl := Option.some.inj h
    exact mw_iret dX6_two__18 rfl rfl (Nat.le_of_ble_eq_true rfl) (Nat.le_refl 0) mh_ret_rfl
  · replace h := mh_ifn hc25 h
    refine mw_iload_n dX6_two__7 2 rfl ?_
    refine mw_iconst (v := 0) dX6_two__8 (by decide) ?_
    refine mw_iconst (v := 2) dX6_two__9 (by decide) ?_
    obtain ⟨q2, hq2, h⟩ := mh_bind h
    refine mw_sz (dc := 0) cs_X6_69 wd_722 dX6_two__10 [.int p2, .int (0 : Int32), .int (2 : Int32)] [.int (2 : Int32), .int (0 : Int32), .int p2] rfl rfl (t_X6_in hq2) ⟨by decide, by decide⟩ (Nat.le_of_ble_eq_true rfl) ⟨rfl, rfl⟩ (fun zq2 => ?_)
    refine mw_if_ne (tgt := 19) dX6_two__13 (by decide) (fun hc24 => ?_) (fun hc24 => ?_)
    · replace h := mh_ifn hc24 h
      refine mw_iconst (v := 0) dX6_two__19 (by decide) ?_
      refine mw_istore_n dX6_two__20 (by decide) rfl ?_
      refine mw_iconst (v := -1) dX6_two__21 (by decide) ?_
      refine mw_istore dX6_two__22 (by decide) rfl ?_
      refine mw_iconst (v := 0) dX6_two__24 (by decide) ?_
      refine mw_istore dX6_two__25 (by decide) rfl ?_
      refine mw_loc [3, 4, 5, 2, 1, 0] rfl ?_
      refine t_X6_two__l27  _ _ _ _ _ h (fun v18 v19 I20 h => ?_)
      refine mw_iload_n dX6_two__115 2 rfl ?_
      refine mw_if_ne (tgt := 123) dX6_two__116 (by decide) (fun hc23 => ?_) (fun hc23 => ?_)
      · replace h := mh_ifn hc23 h
        refine mw_iload_n dX6_two__123 2 rfl ?_
        refine mw_iconst (v := 1) dX6_two__124 (by decide) ?_
        refine mw_icmp_ne (tgt := 133) dX6_two__125 (by decide) (fun hc22 => ?_) (fun hc22 => ?_)
        · replace h := mh_ifn hc22 h
          refine mw_iload dX6_two__133 4 rfl ?_
          refine mw_aload_n dX6_two__135 0 rfl ?_
          refine mw_iload_n dX6_two__136 3 rfl ?_
          refine mw_bipush (v := 100) dX6_two__137 (by decide) ?_
          refine mw_idiv dX6_two__139 (by decide) ?_
          refine mw_iload_n dX6_two__140 3 rfl ?_
          refine mw_bipush (v := 100) dX6_two__141 (by decide) ?_
          refine mw_irem dX6_two__143 (by decide) ?_
          refine mw_iload_n dX6_two__144 1 rfl ?_
          obtain ⟨q21, hq21, h⟩ := mh_bind h
          refine mw_vr (dc := 7) (ci := 6) (fs := fsX6) (T := TX6) (N := 30) cv_X6_227 wd_1020 dX6_two__145 [.int (v18 / (100 : Int32)), .int (mh_rem v18 (100 : Int32)), .int p1] [.int p1, .int (mh_rem v18 (100 : Int32)), .int (v18 / (100 : Int32)), .ref 0, .int v19] rfl rfl rfl rfl (t_X6_alone hq21) ⟨by decide, by decide⟩ (Nat.le_of_ble_eq_true rfl) ⟨rfl, rfl⟩ ?_
          refine mw_isub dX6_two__148 ?_
          obtain rfl := Option.some.inj h
          exact mw_iret dX6_two__149 rfl rfl (Nat.le_of_ble_eq_true rfl) (Nat.le_refl 0) mh_ret_rfl
        · replace h := mh_ifp hc22 h
          refine mw_iload dX6_two__128 4 rfl ?_
          refine mw_goto (tgt := 149) dX6_two__130 (by decide) ?_
          obtain rfl := Option.some.inj h
          exact mw_iret dX6_two__149 rfl rfl (Nat.le_of_ble_eq_true rfl) (Nat.le_refl 0) mh_ret_rfl
      · replace h := mh_ifp hc23 h
        refine mw_iload_n dX6_two__119 3 rfl ?_
        refine mw_goto (tgt := 149) dX6_two__120 (by decide) ?_
        obtain rfl := Option.some.inj h
        exact mw_iret dX6_two__149 rfl rfl (Nat.le_of_ble_eq_true rfl) (Nat.le_refl 0) mh_ret_rfl
    · replace h := mh_ifp hc24 h
      refine mw_bipush (v := -2) dX6_two__16 (by decide) ?_
      obtain rfl := Option.some.inj h
      exact mw_iret dX6_two__18 rfl rfl (Nat.le_of_ble_eq_true rfl) (Nat.le_refl 0) mh_ret_rfl
abbrev w_X6_all (sh : List mh_C) (Φ : mh_P) (I : mh_I) (L : mh_L) (pc : Nat) (lv : List (Nat × Value)) (st : List Value) : Prop := mh_W RX6 cX6_all 6 (some .int) false (mh_rm 7) 18 0 0 mh_noX Φ 0 sh I L pc lv st
def X6_all_l32 (u1 : Int32) (u2 : Int32) : Nat → Int32 → Int32 → Int32 → mh_I → Option (Int32 × mh_I)
  | 0, _, _, _, _ => none
  | n + 1, u3, u4, u5, I => if u5 < 0 then some (u3, I) else if u4 = 0 then some (u3, I) else (X6_runsFrom u1 u5 I).bind (fun q4 => mh_j (fun (s5 : Int32) => mh_j (fun (s8 : Int32) => mh_b (u5 + (-1 : Int32)) (fun b11 => (X6_all_l32 u1 u2 n s8 s5 b11 q4))) (fun J9 => if s5 = 0 then (J9 u3) else (J9 u5))) (fun J6 => if (q4 0 29) < u2 then (J6 (0 : Int32)) else (J6 (1 : Int32))))
set_option maxHeartbeats 4000000 in
set_option maxRecDepth 100000 in
theorem t_X6_all_l32 {u1 : Int32} {u2 : Int32} {L : mh_L} {res : Int32 × mh_I} (n : Nat) (u3 : Int32) (u4 : Int32) (u5 : Int32) (I : mh_I) (h : X6_all_l32 u1 u2 n u3 u4 u5 I = some res)  : w_X6_all SHM (mh_ret (some (.int res.1)) SHM res.2 L) I L 32 [(0, .ref 0), (1, .int u1), (2, .int u2), (3, .int u3), (4, .int u4), (5, .int u5)] [] := by
  induction n generalizing u3 u4 u5 I with
  | zero => rw [X6_all_l32] at h; cases h
  | succ n ih =>
    rw [X6_all_l32] at h
    refine mw_iload dX6_all_32 5 rfl ?_
    refine mw_if_lt (tgt := 82) dX6_all_34 (by decide) (fun hc13 => ?_) (fun hc13 => ?_)
    · replace h := mh_ifp hc13 h
      refine mw_iload_n dX6_all_82 3 rfl ?_
      obtain rfl := Option.some.inj h
      exact mw_iret dX6_all_83 rfl rfl (Nat.le_of_ble_eq_true rfl) (Nat.le_refl 0) mh_ret_rfl
    · replace h := mh_ifn hc13 h
      refine mw_iload dX6_all_37 4 rfl ?_
      refine mw_if_eq (tgt := 82) dX6_all_39 (by decide) (fun hc12 => ?_) (fun hc12 => ?_)
      · replace h := mh_ifp hc12 h
        refine mw_iload_n dX6_all_82 3 rfl ?_
        obtain rfl := Option.some.inj h
        exact mw_iret dX6_all_83 rfl rfl (Nat.le_of_ble_eq_true rfl) (Nat.le_refl 0) mh_ret_rfl
      · replace h := mh_ifn hc12 h
        refine mw_aload_n dX6_all_42 0 rfl ?_
        refine mw_iload_n dX6_all_43 1 rfl ?_
        refine mw_iload dX6_all_44 5 rfl ?_
        obtain ⟨q4, hq4, h⟩ := mh_bind h
        refine mw_vv (dc := 6) (ci := 6) (fs := fsX6) (T := TX6) (N := 30) cv_X6_213 wd_964 dX6_all_46 [.int u1, .int u5] [.int u5, .int u1, .ref 0] rfl rfl rfl rfl (t_X6_runsFrom hq4) ⟨by decide, by decide⟩ (Nat.le_of_ble_eq_true rfl) ⟨rfl, rfl⟩ ?_
        refine mw_aload_n dX6_all_49 0 rfl ?_
        refine mw_geti (fs := fsX6) gf_X6_202 dX6_all_50 rfl rfl ?_
        refine mw_iload_n dX6_all_53 2 rfl ?_
        refine mh_jw (fun J6 => ∀ (s5 : Int32), J6 s5 = some res → w_X6_all SHM (mh_ret (some (.int res.1)) SHM res.2 L) q4 L 62 [(0, .ref 0), (1, .int u1), (2, .int u2), (3, .int u3), (5, .int u5)] [.int s5]) h (fun s5 h => ?_) (fun J6 hJ6 h => ?_)
        · refine mw_istore dX6_all_62 (by decide) rfl ?_
          refine mw_iload dX6_all_64 0 rfl ?_
          refine mh_jw (fun J9 => ∀ (s8 : Int32), J9 s8 = some res → w_X6_all SHM (mh_ret (some (.int res.1)) SHM res.2 L) q4 L 75 [(0, .ref 0), (1, .int u1), (2, .int u2), (4, .int s5), (5, .int u5)] [.int s8]) h (fun s8 h => ?_) (fun J9 hJ9 h => ?_)
          · refine mw_istore_n dX6_all_75 (by decide) rfl ?_
            obtain ⟨b11, eb11, h⟩ := mh_b_some h
            refine mw_iinc (v := b11) dX6_all_76 5 rfl (by rw [← eb11]; rfl) (by decide) rfl ?_
            refine mw_goto (tgt := 32) dX6_all_79 (by decide) ?_
            refine mw_loc [2, 3, 4, 1, 5, 0] rfl ?_
            exact ih _ _ _ _ h
          · refine mw_if_eq (tgt := 74) dX6_all_66 (by decide) (fun hc10 => ?_) (fun hc10 => ?_)
            · replace h := mh_ifp hc10 h
              refine mw_iload_n dX6_all_74 4 rfl ?_
              refine mw_loc [1, 2, 3, 0, 5] rfl ?_
              exact hJ9 _ h
            · replace h := mh_ifn hc10 h
              refine mw_iload dX6_all_69 5 rfl ?_
              refine mw_goto (tgt := 75) dX6_all_71 (by decide) ?_
              refine mw_loc [1, 2, 3, 0, 5] rfl ?_
              exact hJ9 _ h
        · refine mw_icmp_lt (tgt := 61) dX6_all_54 (by decide) (fun hc7 => ?_) (fun hc7 => ?_)
          · replace h := mh_ifp hc7 h
            refine mw_iconst (v := 0) dX6_all_61 (by decide) ?_
            refine mw_loc [0, 1, 2, 3, 5] rfl ?_
            exact hJ6 _ h
          · replace h := mh_ifn hc7 h
            refine mw_iconst (v := 1) dX6_all_57 (by decide) ?_
            refine mw_goto (tgt := 62) dX6_all_58 (by decide) ?_
            refine mw_loc [0, 1, 2, 3, 5] rfl ?_
            exact hJ6 _ h
def X6_all (p1 : Int32) (I : mh_I) : Option (Int32 × mh_I) := (X6_isLoop p1).bind (fun q1 => if q1 = 0 then some ((-5 : Int32), I) else (X6_runsFrom p1 (99 : Int32) I).bind (fun q2 => mh_b (q2 0 29) (fun b3 => X6_all_l32 p1 b3 mh_fuel (99 : Int32) (1 : Int32) (98 : Int32) q2)))
set_option maxHeartbeats 4000000 in
set_option maxRecDepth 100000 in
theorem t_X6_all {L : mh_L} {I : mh_I} {p1 : Int32} {res : Int32 × mh_I} (h : X6_all p1 I = some res) : mh_CT yX6_all cX6_all 6 (some .int) (mh_rm 7) SHM I L [.ref 0, .int p1] (mh_ret (some (.int res.1)) SHM res.2 L) := by
  refine mh_ofW (ini := false) RX6 rfl (by decide) (fun h => by cases h) (Nat.le_of_ble_eq_true rfl) ?_
  show w_X6_all SHM (mh_ret (some (.int res.1)) SHM res.2 L) I L 0 [(0, .ref 0), (1, .int p1)] []
  unfold X6_all at h
  refine mw_iload_n dX6_all_0 1 rfl ?_
  obtain ⟨q1, hq1, h⟩ := mh_bind h
  refine mw_sz (dc := 1) cs_X6_155 wd_876 dX6_all_1 [.int p1] [.int p1] rfl rfl (t_X6_isLoop hq1) ⟨by decide, by decide⟩ (Nat.le_of_ble_eq_true rfl) ⟨rfl, rfl⟩ (fun zq1 => ?_)
  refine mw_if_ne (tgt := 10) dX6_all_4 (by decide) (fun hc14 => ?_) (fun hc14 => ?_)
  · replace h := mh_ifn hc14 h
    refine mw_aload_n dX6_all_10 0 rfl ?_
    refine mw_iload_n dX6_all_11 1 rfl ?_
    refine mw_bipush (v := 99) dX6_all_12 (by decide) ?_
    obtain ⟨q2, hq2, h⟩ := mh_bind h
    refine mw_vv (dc := 6) (ci := 6) (fs := fsX6) (T := TX6) (N := 30) cv_X6_213 wd_964 dX6_all_14 [.int p1, .int (99 : Int32)] [.int (99 : Int32), .int p1, .ref 0] rfl rfl rfl rfl (t_X6_runsFrom hq2) ⟨by decide, by decide⟩ (Nat.le_of_ble_eq_true rfl) ⟨rfl, rfl⟩ ?_
    refine mw_aload_n dX6_all_17 0 rfl ?_
    refine mw_geti (fs := fsX6) gf_X6_202 dX6_all_18 rfl rfl ?_
    obtain ⟨b3, eb3, h⟩ := mh_b_some h
    refine mw_nmi eb3 ?_
    refine mw_istore_n dX6_all_21 (by decide) rfl ?_
    refine mw_bipush (v := 99) dX6_all_22 (by decide) ?_
    refine mw_istore_n dX6_all_24 (by decide) rfl ?_
    refine mw_iconst (v := 1) dX6_all_25 (by decide) ?_
    refine mw_istore dX6_all_26 (by decide) rfl ?_
    refine mw_bipush (v := 98) dX6_all_28 (by decide) ?_
    refine mw_istore dX6_all_30 (by decide) rfl ?_
    refine mw_loc [4, 5, 3, 2, 1, 0] rfl ?_
    exact t_X6_all_l32  _ _ _ _ _ h 
  · replace h := mh_ifp hc14 h
    refine mw_bipush (v := -5) dX6_all_7 (by decide) ?_
    obtain rfl := Option.some.inj h
    exact mw_iret dX6_all_9 rfl rfl (Nat.le_of_ble_eq_true rfl) (Nat.le_refl 0) mh_ret_rfl
abbrev w_X6_countIn (sh : List mh_C) (Φ : mh_P) (I : mh_I) (L : mh_L) (pc : Nat) (lv : List (Nat × Value)) (st : List Value) : Prop := mh_W RX6 cX6_countIn 7 (some .int) false (mh_rm 3) 18 0 0 mh_noX Φ 0 sh I L pc lv st
def X6_countIn_l11 (u1 : Int32) (u2 : Int32) (I : mh_I) (k102 : (Int32 → Int32 → Option (Int32))) : Nat → Int32 → Int32 → Int32 → Option (Int32)
  | 0, _, _, _ => none
  | n + 1, u3, u4, u5 => if (((6 : Int32) * u1) + (6 : Int32)) ≤ u5 then (k102 u3 u4) else mh_j (fun (s2 : Int32) => mh_b (u4 ||| s2) (fun b6 => (X6_through u5 I).bind (fun q7 => mh_j (fun (s8 : Int32) => mh_b (u3 + s8) (fun b16 => mh_b (u5 + (1 : Int32)) (fun b17 => (X6_countIn_l11 u1 u2 I k102 n b16 b6 b17)))) (fun J9 => if u2 = 0 then (X6_uppers u5 I).bind (fun q13 => if (lg_cmp q13 (0 : Int64)) = 0 then (J9 (0 : Int32)) else (J9 (1 : Int32))) else mh_j ((J9 (1 : Int32))) (fun J10 => if q7 = 0 then J10 else if (q7 &&& (q7 - (1 : Int32))) = 0 then (J9 (0 : Int32)) else J10))))) (fun J3 => if u1 = 0 then (J3 (0 : Int32)) else (X6_through u5 I).bind (fun q4 => (J3 q4)))
set_option maxHeartbeats 4000000 in
set_option maxRecDepth 100000 in
theorem t_X6_countIn_l11 {u1 : Int32} {u2 : Int32} {k102 : (Int32 → Int32 → Option (Int32))} {I : mh_I} {L : mh_L} {res : Int32} (n : Nat) (u3 : Int32) (u4 : Int32) (u5 : Int32) (h : X6_countIn_l11 u1 u2 I k102 n u3 u4 u5 = some res) (hk102 : ∀ (u3 : Int32) (u4 : Int32), k102 u3 u4 = some res → w_X6_countIn SHM (mh_ret (some (.int res)) SHM I L) I L 102 [(2, .int u2), (3, .int u3), (4, .int u4)] []) : w_X6_countIn SHM (mh_ret (some (.int res)) SHM I L) I L 11 [(0, .ref 0), (1, .int u1), (2, .int u2), (3, .int u3), (4, .int u4), (5, .int u5)] [] := by
  induction n generalizing u3 u4 u5 with
  | zero => rw [X6_countIn_l11] at h; cases h
  | succ n ih =>
    rw [X6_countIn_l11] at h
    refine mw_iload dX6_countIn_11 5 rfl ?_
    refine mw_bipush (v := 6) dX6_countIn_13 (by decide) ?_
    refine mw_iload_n dX6_countIn_15 1 rfl ?_
    refine mw_imul dX6_countIn_16 ?_
    refine mw_bipush (v := 6) dX6_countIn_17 (by decide) ?_
    refine mw_iadd dX6_countIn_19 ?_
    refine mw_icmp_ge (tgt := 102) dX6_countIn_20 (by decide) (fun hc18 => ?_) (fun hc18 => ?_)
    · replace h := mh_ifp hc18 h
      refine mw_loc [2, 3, 4] rfl ?_
      exact hk102 _ _ h
    · replace h := mh_ifn hc18 h
      refine mw_iload dX6_countIn_23 4 rfl ?_
      refine mw_iload_n dX6_countIn_25 1 rfl ?_
      refine mh_jw (fun J3 => ∀ (s2 : Int32), J3 s2 = some res → w_X6_countIn SHM (mh_ret (some (.int res)) SHM I L) I L 39 [(0, .ref 0), (1, .int u1), (2, .int u2), (3, .int u3), (5, .int u5)] [.int s2, .int u4]) h (fun s2 h => ?_) (fun J3 hJ3 h => ?_)
      · refine mw_ior dX6_countIn_39 ?_
        obtain ⟨b6, eb6, h⟩ := mh_b_some h
        refine mw_nmi eb6 ?_
        refine mw_istore dX6_countIn_40 (by decide) rfl ?_
        refine mw_aload_n dX6_countIn_42 1 rfl ?_
        refine mw_iload dX6_countIn_43 5 rfl ?_
        obtain ⟨q7, hq7, h⟩ := mh_bind h
        refine mw_vr (dc := 0) (ci := 6) (fs := fsX6) (T := TX6) (N := 30) cv_X6_171 wd_916 dX6_countIn_45 [.int u5] [.int u5, .ref 0] rfl rfl rfl rfl (t_X6_through hq7) ⟨by decide, by decide⟩ (Nat.le_of_ble_eq_true rfl) ⟨rfl, rfl⟩ ?_
        refine mw_istore dX6_countIn_48 (by decide) rfl ?_
        refine mw_iload_n dX6_countIn_50 5 rfl ?_
        refine mw_iload_n dX6_countIn_51 4 rfl ?_
        refine mh_jw (fun J9 => ∀ (s8 : Int32), J9 s8 = some res → w_X6_countIn SHM (mh_ret (some (.int res)) SHM I L) I L 94 [(0, .ref 0), (1, .int u1), (2, .int u2), (4, .int b6), (5, .int u5)] [.int s8, .int u3]) h (fun s8 h => ?_) (fun J9 hJ9 h => ?_)
        · refine mw_iadd dX6_countIn_94 ?_
          obtain ⟨b16, eb16, h⟩ := mh_b_some h
          refine mw_nmi eb16 ?_
          refine mw_istore_n dX6_countIn_95 (by decide) rfl ?_
          obtain ⟨b17, eb17, h⟩ := mh_b_some h
          refine mw_iinc (v := b17) dX6_countIn_96 5 rfl (by rw [← eb17]; rfl) (by decide) rfl ?_
          refine mw_goto (tgt := 11) dX6_countIn_99 (by decide) ?_
          refine mw_loc [2, 3, 4, 1, 5, 0] rfl ?_
          exact ih _ _ _ h
        · refine mw_if_ne (tgt := 74) dX6_countIn_52 (by decide) (fun hc15 => ?_) (fun hc15 => ?_)
          · replace h := mh_ifn hc15 h
            refine mw_iload dX6_countIn_74 0 rfl ?_
            refine mh_jw (fun J10 => J10 = some res → w_X6_countIn SHM (mh_ret (some (.int res)) SHM I L) I L 89 [(0, .ref 0), (1, .int u1), (2, .int u2), (4, .int b6), (5, .int u5)] [.int u3]) h (fun h => ?_) (fun J10 hJ10 h => ?_)
            · refine mw_iconst (v := 1) dX6_countIn_89 (by decide) ?_
              refine mw_goto (tgt := 94) dX6_countIn_90 (by decide) ?_
              refine mw_loc [0, 1, 2, 3, 4] rfl ?_
              exact hJ9 _ h
            · refine mw_if_eq (tgt := 89) dX6_countIn_76 (by decide) (fun hc12 => ?_) (fun hc12 => ?_)
              · replace h := mh_ifp hc12 h
                refine mw_loc [2, 3, 4, 1, 6] rfl ?_
                exact hJ10  h
              · replace h := mh_ifn hc12 h
                refine mw_iload dX6_countIn_79 0 rfl ?_
                refine mw_iload dX6_countIn_81 0 rfl ?_
                refine mw_iconst (v := 1) dX6_countIn_83 (by decide) ?_
                refine mw_isub dX6_countIn_84 ?_
                refine mw_iand dX6_countIn_85 ?_
                refine mw_if_eq (tgt := 93) dX6_countIn_86 (by decide) (fun hc11 => ?_) (fun hc11 => ?_)
                · replace h := mh_ifp hc11 h
                  refine mw_iconst (v := 0) dX6_countIn_93 (by decide) ?_
                  refine mw_loc [2, 3, 4, 1, 6] rfl ?_
                  exact hJ9 _ h
                · replace h := mh_ifn hc11 h
                  refine mw_loc [2, 3, 4, 1, 6] rfl ?_
                  exact hJ10  h
          · replace h := mh_ifp hc15 h
            refine mw_aload_n dX6_countIn_55 2 rfl ?_
            refine mw_iload dX6_countIn_56 6 rfl ?_
            obtain ⟨q13, hq13, h⟩ := mh_bind h
            refine mw_vr (dc := 2) (ci := 6) (fs := fsX6) (T := TX6) (N := 30) cv_X6_177 wd_933 dX6_countIn_58 [.int u5] [.int u5, .ref 0, .int u3] rfl rfl rfl rfl (t_X6_uppers hq13) ⟨by decide, by decide⟩ (Nat.le_of_ble_eq_true rfl) ⟨rfl, rfl⟩ ?_
            refine mw_lconst (v := 0) dX6_countIn_61 (by decide) ?_
            refine mw_lcmp dX6_countIn_62 ?_
            refine mw_if_eq (tgt := 70) dX6_countIn_63 (by decide) (fun hc14 => ?_) (fun hc14 => ?_)
            · replace h := mh_ifp hc14 h
              refine mw_iconst (v := 0) dX6_countIn_70 (by decide) ?_
              refine mw_goto (tgt := 94) dX6_countIn_71 (by decide) ?_
              refine mw_loc [2, 3, 4, 1, 6] rfl ?_
              exact hJ9 _ h
            · replace h := mh_ifn hc14 h
              refine mw_iconst (v := 1) dX6_countIn_66 (by decide) ?_
              refine mw_goto (tgt := 94) dX6_countIn_67 (by decide) ?_
              refine mw_loc [2, 3, 4, 1, 6] rfl ?_
              exact hJ9 _ h
      · refine mw_if_ne (tgt := 33) dX6_countIn_26 (by decide) (fun hc5 => ?_) (fun hc5 => ?_)
        · replace h := mh_ifn hc5 h
          refine mw_aload_n dX6_countIn_33 0 rfl ?_
          refine mw_iload dX6_countIn_34 5 rfl ?_
          obtain ⟨q4, hq4, h⟩ := mh_bind h
          refine mw_vr (dc := 0) (ci := 6) (fs := fsX6) (T := TX6) (N := 30) cv_X6_171 wd_916 dX6_countIn_36 [.int u5] [.int u5, .ref 0, .int u4] rfl rfl rfl rfl (t_X6_through hq4) ⟨by decide, by decide⟩ (Nat.le_of_ble_eq_true rfl) ⟨rfl, rfl⟩ ?_
          refine mw_loc [0, 1, 2, 3, 5] rfl ?_
          exact hJ3 _ h
        · replace h := mh_ifp hc5 h
          refine mw_iconst (v := 0) dX6_countIn_29 (by decide) ?_
          refine mw_goto (tgt := 39) dX6_countIn_30 (by decide) ?_
          refine mw_loc [0, 1, 2, 3, 5] rfl ?_
          exact hJ3 _ h
def X6_countIn (p1 : Int32) (p2 : Int32) (I : mh_I) : Option (Int32) := mh_b ((6 : Int32) * p1) (fun b1 => X6_countIn_l11 p1 p2 I (fun (v19 : Int32) (v20 : Int32) => if p2 = (1 : Int32) then (X6_bitsOf (v20.toInt64)).bind (fun q21 => some q21) else some v19) mh_fuel (0 : Int32) (0 : Int32) b1)
set_option maxHeartbeats 4000000 in
set_option maxRecDepth 100000 in
theorem t_X6_countIn {L : mh_L} {I : mh_I} {p1 : Int32} {p2 : Int32} {res : Int32} (h : X6_countIn p1 p2 I = some res) : mh_CT yX6_countIn cX6_countIn 7 (some .int) (mh_rm 3) SHM I L [.ref 0, .int p1, .int p2] (mh_ret (some (.int res)) SHM I L) := by
  refine mh_ofW (ini := false) RX6 rfl (by decide) (fun h => by cases h) (Nat.le_of_ble_eq_true rfl) ?_
  show w_X6_countIn SHM (mh_ret (some (.int res)) SHM I L) I L 0 [(0, .ref 0), (1, .int p1), (2, .int p2)] []
  unfold X6_countIn at h
  refine mw_iconst (v := 0) dX6_countIn_0 (by decide) ?_
  refine mw_istore_n dX6_countIn_1 (by decide) rfl ?_
  refine mw_iconst (v := 0) dX6_countIn_2 (by decide) ?_
  refine mw_istore dX6_countIn_3 (by decide) rfl ?_
  refine mw_bipush (v := 6) dX6_countIn_5 (by decide) ?_
  refine mw_iload_n dX6_countIn_7 3 rfl ?_
  refine mw_imul dX6_countIn_8 ?_
  obtain ⟨b1, eb1, h⟩ := mh_b_some h
  refine mw_nmi eb1 ?_
  refine mw_istore dX6_countIn_9 (by decide) rfl ?_
  refine mw_loc [3, 4, 5, 2, 1, 0] rfl ?_
  refine t_X6_countIn_l11  _ _ _ _ h (fun v19 v20 h => ?_)
  refine mw_iload_n dX6_countIn_102 0 rfl ?_
  refine mw_iconst (v := 1) dX6_countIn_103 (by decide) ?_
  refine mw_icmp_ne (tgt := 116) dX6_countIn_104 (by decide) (fun hc22 => ?_) (fun hc22 => ?_)
  · replace h := mh_ifn hc22 h
    refine mw_iload_n dX6_countIn_116 1 rfl ?_
    obtain rfl := Option.some.inj h
    exact mw_iret dX6_countIn_117 rfl rfl (Nat.le_of_ble_eq_true rfl) (Nat.le_refl 0) mh_ret_rfl
  · replace h := mh_ifp hc22 h
    refine mw_iload dX6_countIn_107 2 rfl ?_
    refine mw_i2l dX6_countIn_109 ?_
    obtain ⟨q21, hq21, h⟩ := mh_bind h
    refine mw_sr (dc := 0) cs_X6_192 wd_956 dX6_countIn_110 [.long (v20.toInt64)] [.long (v20.toInt64)] rfl rfl (t_X6_bitsOf hq21) ⟨by decide, by decide⟩ (Nat.le_of_ble_eq_true rfl) ⟨rfl, rfl⟩ ?_
    refine mw_goto (tgt := 117) dX6_countIn_113 (by decide) ?_
    obtain rfl := Option.some.inj h
    exact mw_iret dX6_countIn_117 rfl rfl (Nat.le_of_ble_eq_true rfl) (Nat.le_refl 0) mh_ret_rfl
abbrev w_X6_counts (sh : List mh_C) (Φ : mh_P) (I : mh_I) (L : mh_L) (pc : Nat) (lv : List (Nat × Value)) (st : List Value) : Prop := mh_W RX6 cX6_counts 3 (some .int) false (mh_rm 4) 18 0 0 mh_noX Φ 0 sh I L pc lv st
def X6_counts (p1 : Int32) (p2 : Int32) (I : mh_I) : Option (Int32) := (X6_in p1 (0 : Int32) (7 : Int32)).bind (fun q1 => if q1 = 0 then some (-5 : Int32) else (X6_in p2 (0 : Int32) (2 : Int32)).bind (fun q2 => if q2 = 0 then some (-7 : Int32) else (X6_countIn p1 p2 I).bind (fun q3 => some q3)))
set_option maxHeartbeats 4000000 in
set_option maxRecDepth 100000 in
theorem t_X6_counts {L : mh_L} {I : mh_I} {p1 : Int32} {p2 : Int32} {res : Int32} (h : X6_counts p1 p2 I = some res) : mh_CT yX6_counts cX6_counts 3 (some .int) (mh_rm 4) SHM I L [.ref 0, .int p1, .int p2] (mh_ret (some (.int res)) SHM I L) := by
  refine mh_ofW (ini := false) RX6 rfl (by decide) (fun h => by cases h) (Nat.le_of_ble_eq_true rfl) ?_
  show w_X6_counts SHM (mh_ret (some (.int res)) SHM I L) I L 0 [(0, .ref 0), (1, .int p1), (2, .int p2)] []
  unfold X6_counts at h
  refine mw_iload_n dX6_counts_0 1 rfl ?_
  refine mw_iconst (v := 0) dX6_counts_1 (by decide) ?_
  refine mw_bipush (v := 7) dX6_counts_2 (by decide) ?_
  obtain ⟨q1, hq1, h⟩ := mh_bind h
  refine mw_sz (dc := 0) cs_X6_69 wd_722 dX6_counts_4 [.int p1, .int (0 : Int32), .int (7 : Int32)] [.int (7 : Int32), .int (0 : Int32), .int p1] rfl rfl (t_X6_in hq1) ⟨by decide, by decide⟩ (Nat.le_of_ble_eq_true rfl) ⟨rfl, rfl⟩ (fun zq1 => ?_)
  refine mw_if_ne (tgt := 13) dX6_counts_7 (by decide) (fun hc5 => ?_) (fun hc5 => ?_)
  · replace h := mh_ifn hc5 h
    refine mw_iload_n dX6_counts_13 2 rfl ?_
    refine mw_iconst (v := 0) dX6_counts_14 (by decide) ?_
    refine mw_iconst (v := 2) dX6_counts_15 (by decide) ?_
    obtain ⟨q2, hq2, h⟩ := mh_bind h
    refine mw_sz (dc := 0) cs_X6_69 wd_722 dX6_counts_16 [.int p2, .int (0 : Int32), .int (2 : Int32)] [.int (2 : Int32), .int (0 : Int32), .int p2] rfl rfl (t_X6_in hq2) ⟨by decide, by decide⟩ (Nat.le_of_ble_eq_true rfl) ⟨rfl, rfl⟩ (fun zq2 => ?_)
    refine mw_if_eq (tgt := 31) dX6_counts_19 (by decide) (fun hc4 => ?_) (fun hc4 => ?_)
    · replace h := mh_ifp hc4 h
      refine mw_bipush (v := -7) dX6_counts_31 (by decide) ?_
      obtain rfl := Option.some.inj h
      exact mw_iret dX6_counts_33 rfl rfl (Nat.le_of_ble_eq_true rfl) (Nat.le_refl 0) mh_ret_rfl
    · replace h := mh_ifn hc4 h
      refine mw_aload_n dX6_counts_22 0 rfl ?_
      refine mw_iload_n dX6_counts_23 1 rfl ?_
      refine mw_iload_n dX6_counts_24 2 rfl ?_
      obtain ⟨q3, hq3, h⟩ := mh_bind h
      refine mw_vr (dc := 3) (ci := 6) (fs := fsX6) (T := TX6) (N := 30) cv_X6_230 wd_1036 dX6_counts_25 [.int p1, .int p2] [.int p2, .int p1, .ref 0] rfl rfl rfl rfl (t_X6_countIn hq3) ⟨by decide, by decide⟩ (Nat.le_of_ble_eq_true rfl) ⟨rfl, rfl⟩ ?_
      refine mw_goto (tgt := 33) dX6_counts_28 (by decide) ?_
      obtain rfl := Option.some.inj h
      exact mw_iret dX6_counts_33 rfl rfl (Nat.le_of_ble_eq_true rfl) (Nat.le_refl 0) mh_ret_rfl
  · replace h := mh_ifp hc5 h
    refine mw_bipush (v := -5) dX6_counts_10 (by decide) ?_
    obtain rfl := Option.some.inj h
    exact mw_iret dX6_counts_12 rfl rfl (Nat.le_of_ble_eq_true rfl) (Nat.le_refl 0) mh_ret_rfl
abbrev w_X6_sheetWrong (sh : List mh_C) (Φ : mh_P) (I : mh_I) (L : mh_L) (pc : Nat) (lv : List (Nat × Value)) (st : List Value) : Prop := mh_W RX6 cX6_sheetWrong 3 (some .int) false (mh_rm 1) 18 0 0 mh_noX Φ 0 sh I L pc lv st
def X6_sheetWrong (p1 : Int32) (p2 : Int32) (I : mh_I) : Option (Int32) := (X6_in p1 (0 : Int32) (3 : Int32)).bind (fun q1 => if q1 = 0 then some (-2 : Int32) else mh_ix p1 4 (fun k2 => if (I 9 k2) = (-1 : Int32) then some (-11 : Int32) else mh_ix p1 4 (fun k4 => if (I 10 k4) = p2 then some (0 : Int32) else some (-2 : Int32))))
set_option maxHeartbeats 4000000 in
set_option maxRecDepth 100000 in
theorem t_X6_sheetWrong {L : mh_L} {I : mh_I} {p1 : Int32} {p2 : Int32} {res : Int32} (h : X6_sheetWrong p1 p2 I = some res) : mh_CT yX6_sheetWrong cX6_sheetWrong 3 (some .int) (mh_rm 1) SHM I L [.ref 0, .int p1, .int p2] (mh_ret (some (.int res)) SHM I L) := by
  refine mh_ofW (ini := false) RX6 rfl (by decide) (fun h => by cases h) (Nat.le_of_ble_eq_true rfl) ?_
  show w_X6_sheetWrong SHM (mh_ret (some (.int res)) SHM I L) I L 0 [(0, .ref 0), (1, .int p1), (2, .int p2)] []
  unfold X6_sheetWrong at h
  refine mw_iload_n dX6_sheetWrong_0 1 rfl ?_
  refine mw_iconst (v := 0) dX6_sheetWrong_1 (by decide) ?_
  refine mw_iconst (v := 3) dX6_sheetWrong_2 (by decide) ?_
  obtain ⟨q1, hq1, h⟩ := mh_bind h
  refine mw_sz (dc := 0) cs_X6_69 wd_722 dX6_sheetWrong_3 [.int p1, .int (0 : Int32), .int (3 : Int32)] [.int (3 : Int32), .int (0 : Int32), .int p1] rfl rfl (t_X6_in hq1) ⟨by decide, by decide⟩ (Nat.le_of_ble_eq_true rfl) ⟨rfl, rfl⟩ (fun zq1 => ?_)
  refine mw_if_ne (tgt := 12) dX6_sheetWrong_6 (by decide) (fun hc8 => ?_) (fun hc8 => ?_)
  · replace h := mh_ifn hc8 h
    refine mw_aload_n dX6_sheetWrong_12 0 rfl ?_
    refine mw_getr (b := 9) (fs := fsX6) gf_X6_34 dX6_sheetWrong_13 rfl rfl ?_
    refine mw_iload_n dX6_sheetWrong_16 1 rfl ?_
    obtain ⟨k2, hk3, hk3n, hk3l, h⟩ := mh_ix_some h
    refine mw_xiald dX6_sheetWrong_17 rfl hk3 hk3n ?_
    refine mw_iconst (v := -1) dX6_sheetWrong_18 (by decide) ?_
    refine mw_icmp_ne (tgt := 25) dX6_sheetWrong_19 (by decide) (fun hc7 => ?_) (fun hc7 => ?_)
    · replace h := mh_ifn hc7 h
      refine mw_aload_n dX6_sheetWrong_25 0 rfl ?_
      refine mw_getr (b := 10) (fs := fsX6) gf_X6_37 dX6_sheetWrong_26 rfl rfl ?_
      refine mw_iload_n dX6_sheetWrong_29 1 rfl ?_
      obtain ⟨k4, hk5, hk5n, hk5l, h⟩ := mh_ix_some h
      refine mw_xiald dX6_sheetWrong_30 rfl hk5 hk5n ?_
      refine mw_iload_n dX6_sheetWrong_31 2 rfl ?_
      refine mw_icmp_ne (tgt := 39) dX6_sheetWrong_32 (by decide) (fun hc6 => ?_) (fun hc6 => ?_)
      · replace h := mh_ifn hc6 h
        refine mw_bipush (v := -2) dX6_sheetWrong_39 (by decide) ?_
        obtain rfl := Option.some.inj h
        exact mw_iret dX6_sheetWrong_41 rfl rfl (Nat.le_of_ble_eq_true rfl) (Nat.le_refl 0) mh_ret_rfl
      · replace h := mh_ifp hc6 h
        refine mw_iconst (v := 0) dX6_sheetWrong_35 (by decide) ?_
        refine mw_goto (tgt := 41) dX6_sheetWrong_36 (by decide) ?_
        obtain rfl := Option.some.inj h
        exact mw_iret dX6_sheetWrong_41 rfl rfl (Nat.le_of_ble_eq_true rfl) (Nat.le_refl 0) mh_ret_rfl
    · replace h := mh_ifp hc7 h
      refine mw_bipush (v := -11) dX6_sheetWrong_22 (by decide) ?_
      obtain rfl := Option.some.inj h
      exact mw_iret dX6_sheetWrong_24 rfl rfl (Nat.le_of_ble_eq_true rfl) (Nat.le_refl 0) mh_ret_rfl
  · replace h := mh_ifp hc8 h
    refine mw_bipush (v := -2) dX6_sheetWrong_9 (by decide) ?_
    obtain rfl := Option.some.inj h
    exact mw_iret dX6_sheetWrong_11 rfl rfl (Nat.le_of_ble_eq_true rfl) (Nat.le_refl 0) mh_ret_rfl
abbrev w_X6_slip (sh : List mh_C) (Φ : mh_P) (I : mh_I) (L : mh_L) (pc : Nat) (lv : List (Nat × Value)) (st : List Value) : Prop := mh_W RX6 cX6_slip 4 (some .int) false (mh_rm 4) 18 0 0 mh_noX Φ 0 sh I L pc lv st
def X6_slip_l16 (u1 : Int32) (I : mh_I) : Nat → Int32 → Option (Int32)
  | 0, _ => none
  | n + 1, u3 => if (8 : Int32) ≤ u3 then some (-1 : Int32) else mh_ix (((48 : Int32) * u1) + u3) 192 (fun k2 => (X6_countIn u3 (1 : Int32) I).bind (fun q4 => if (I 11 k2) = q4 then mh_b (u3 + (1 : Int32)) (fun b5 => (X6_slip_l16 u1 I n b5)) else some u3))
set_option maxHeartbeats 4000000 in
set_option maxRecDepth 100000 in
theorem t_X6_slip_l16 {u1 : Int32} {I : mh_I} {L : mh_L} {res : Int32} (n : Nat) (u3 : Int32) (h : X6_slip_l16 u1 I n u3 = some res)  : w_X6_slip SHM (mh_ret (some (.int res)) SHM I L) I L 16 [(0, .ref 0), (1, .int u1), (3, .int u3)] [] := by
  induction n generalizing u3 with
  | zero => rw [X6_slip_l16] at h; cases h
  | succ n ih =>
    rw [X6_slip_l16] at h
    refine mw_iload_n dX6_slip_16 2 rfl ?_
    refine mw_bipush (v := 8) dX6_slip_17 (by decide) ?_
    refine mw_icmp_ge (tgt := 50) dX6_slip_19 (by decide) (fun hc7 => ?_) (fun hc7 => ?_)
    · replace h := mh_ifp hc7 h
      refine mw_iconst (v := -1) dX6_slip_50 (by decide) ?_
      obtain rfl := Option.some.inj h
      exact mw_iret dX6_slip_51 rfl rfl (Nat.le_of_ble_eq_true rfl) (Nat.le_refl 0) mh_ret_rfl
    · replace h := mh_ifn hc7 h
      refine mw_aload_n dX6_slip_22 0 rfl ?_
      refine mw_getr (b := 11) (fs := fsX6) gf_X6_40 dX6_slip_23 rfl rfl ?_
      refine mw_bipush (v := 48) dX6_slip_26 (by decide) ?_
      refine mw_iload_n dX6_slip_28 1 rfl ?_
      refine mw_imul dX6_slip_29 ?_
      refine mw_iload_n dX6_slip_30 2 rfl ?_
      refine mw_iadd dX6_slip_31 ?_
      obtain ⟨k2, hk3, hk3n, hk3l, h⟩ := mh_ix_some h
      refine mw_xiald dX6_slip_32 rfl hk3 hk3n ?_
      refine mw_aload_n dX6_slip_33 0 rfl ?_
      refine mw_iload_n dX6_slip_34 2 rfl ?_
      refine mw_iconst (v := 1) dX6_slip_35 (by decide) ?_
      obtain ⟨q4, hq4, h⟩ := mh_bind h
      refine mw_vr (dc := 3) (ci := 6) (fs := fsX6) (T := TX6) (N := 30) cv_X6_230 wd_1036 dX6_slip_36 [.int u3, .int (1 : Int32)] [.int (1 : Int32), .int u3, .ref 0, .int (I 11 k2)] rfl rfl rfl rfl (t_X6_countIn hq4) ⟨by decide, by decide⟩ (Nat.le_of_ble_eq_true rfl) ⟨rfl, rfl⟩ ?_
      refine mw_icmp_eq (tgt := 44) dX6_slip_39 (by decide) (fun hc6 => ?_) (fun hc6 => ?_)
      · replace h := mh_ifp hc6 h
        obtain ⟨b5, eb5, h⟩ := mh_b_some h
        refine mw_iinc (v := b5) dX6_slip_44 2 rfl (by rw [← eb5]; rfl) (by decide) rfl ?_
        refine mw_goto (tgt := 16) dX6_slip_47 (by decide) ?_
        refine mw_loc [1, 2, 0] rfl ?_
        exact ih _ h
      · replace h := mh_ifn hc6 h
        refine mw_iload_n dX6_slip_42 2 rfl ?_
        obtain rfl := Option.some.inj h
        exact mw_iret dX6_slip_43 rfl rfl (Nat.le_of_ble_eq_true rfl) (Nat.le_refl 0) mh_ret_rfl
def X6_slip (p1 : Int32) (I : mh_I) : Option (Int32) := (X6_sheetWrong p1 (8 : Int32) I).bind (fun q1 => if q1 = 0 then X6_slip_l16 p1 I mh_fuel (1 : Int32) else some q1)
set_option maxHeartbeats 4000000 in
set_option maxRecDepth 100000 in
theorem t_X6_slip {L : mh_L} {I : mh_I} {p1 : Int32} {res : Int32} (h : X6_slip p1 I = some res) : mh_CT yX6_slip cX6_slip 4 (some .int) (mh_rm 4) SHM I L [.ref 0, .int p1] (mh_ret (some (.int res)) SHM I L) := by
  refine mh_ofW (ini := false) RX6 rfl (by decide) (fun h => by cases h) (Nat.le_of_ble_eq_true rfl) ?_
  show w_X6_slip SHM (mh_ret (some (.int res)) SHM I L) I L 0 [(0, .ref 0), (1, .int p1)] []
  unfold X6_slip at h
  refine mw_aload_n dX6_slip_0 0 rfl ?_
  refine mw_iload_n dX6_slip_1 1 rfl ?_
  refine mw_bipush (v := 8) dX6_slip_2 (by decide) ?_
  obtain ⟨q1, hq1, h⟩ := mh_bind h
  refine mw_vr (dc := 1) (ci := 6) (fs := fsX6) (T := TX6) (N := 30) cv_X6_233 wd_1044 dX6_slip_4 [.int p1, .int (8 : Int32)] [.int (8 : Int32), .int p1, .ref 0] rfl rfl rfl rfl (t_X6_sheetWrong hq1) ⟨by decide, by decide⟩ (Nat.le_of_ble_eq_true rfl) ⟨rfl, rfl⟩ ?_
  refine mw_istore_n dX6_slip_7 (by decide) rfl ?_
  refine mw_iload_n dX6_slip_8 0 rfl ?_
  refine mw_if_eq (tgt := 14) dX6_slip_9 (by decide) (fun hc8 => ?_) (fun hc8 => ?_)
  · replace h := mh_ifp hc8 h
    refine mw_iconst (v := 1) dX6_slip_14 (by decide) ?_
    refine mw_istore_n dX6_slip_15 (by decide) rfl ?_
    refine mw_loc [2, 3, 0] rfl ?_
    exact t_X6_slip_l16  _ _ h 
  · replace h := mh_ifn hc8 h
    refine mw_iload_n dX6_slip_12 0 rfl ?_
    obtain rfl := Option.some.inj h
    exact mw_iret dX6_slip_13 rfl rfl (Nat.le_of_ble_eq_true rfl) (Nat.le_refl 0) mh_ret_rfl
abbrev w_X6_wrong (sh : List mh_C) (Φ : mh_P) (I : mh_I) (L : mh_L) (pc : Nat) (lv : List (Nat × Value)) (st : List Value) : Prop := mh_W RX6 cX6_wrong 3 (some .int) false (mh_rm 4) 18 0 0 mh_noX Φ 0 sh I L pc lv st
def X6_wrong_l4 (I : mh_I) : Nat → Int32 → Int32 → Option (Int32)
  | 0, _, _ => none
  | n + 1, u1, u2 => if (48 : Int32) ≤ u2 then some u1 else (X6_isLoose u2 I).bind (fun q1 => mh_j (fun (s2 : Int32) => mh_b (u1 ||| s2) (fun b5 => mh_b (u2 + (1 : Int32)) (fun b6 => (X6_wrong_l4 I n b5 b6)))) (fun J3 => if q1 = 0 then (J3 (0 : Int32)) else (J3 ((1 : Int32) <<< ((u2 / (6 : Int32)) &&& 31)))))
set_option maxHeartbeats 4000000 in
set_option maxRecDepth 100000 in
theorem t_X6_wrong_l4 {I : mh_I} {L : mh_L} {res : Int32} (n : Nat) (u1 : Int32) (u2 : Int32) (h : X6_wrong_l4 I n u1 u2 = some res)  : w_X6_wrong SHM (mh_ret (some (.int res)) SHM I L) I L 4 [(0, .ref 0), (1, .int u1), (2, .int u2)] [] := by
  induction n generalizing u1 u2 with
  | zero => rw [X6_wrong_l4] at h; cases h
  | succ n ih =>
    rw [X6_wrong_l4] at h
    refine mw_iload_n dX6_wrong_4 2 rfl ?_
    refine mw_bipush (v := 48) dX6_wrong_5 (by decide) ?_
    refine mw_icmp_ge (tgt := 37) dX6_wrong_7 (by decide) (fun hc7 => ?_) (fun hc7 => ?_)
    · replace h := mh_ifp hc7 h
      refine mw_iload_n dX6_wrong_37 1 rfl ?_
      obtain rfl := Option.some.inj h
      exact mw_iret dX6_wrong_38 rfl rfl (Nat.le_of_ble_eq_true rfl) (Nat.le_refl 0) mh_ret_rfl
    · replace h := mh_ifn hc7 h
      refine mw_iload_n dX6_wrong_10 1 rfl ?_
      refine mw_aload_n dX6_wrong_11 0 rfl ?_
      refine mw_iload_n dX6_wrong_12 2 rfl ?_
      obtain ⟨q1, hq1, h⟩ := mh_bind h
      refine mw_vz (dc := 3) (ci := 6) (fs := fsX6) (T := TX6) (N := 30) cv_X6_189 wd_945 dX6_wrong_13 [.int u2] [.int u2, .ref 0, .int u1] rfl rfl rfl rfl (t_X6_isLoose hq1) ⟨by decide, by decide⟩ (Nat.le_of_ble_eq_true rfl) ⟨rfl, rfl⟩ (fun zq1 => ?_)
      refine mh_jw (fun J3 => ∀ (s2 : Int32), J3 s2 = some res → w_X6_wrong SHM (mh_ret (some (.int res)) SHM I L) I L 29 [(0, .ref 0), (2, .int u2)] [.int s2, .int u1]) h (fun s2 h => ?_) (fun J3 hJ3 h => ?_)
      · refine mw_ior dX6_wrong_29 ?_
        obtain ⟨b5, eb5, h⟩ := mh_b_some h
        refine mw_nmi eb5 ?_
        refine mw_istore_n dX6_wrong_30 (by decide) rfl ?_
        obtain ⟨b6, eb6, h⟩ := mh_b_some h
        refine mw_iinc (v := b6) dX6_wrong_31 2 rfl (by rw [← eb6]; rfl) (by decide) rfl ?_
        refine mw_goto (tgt := 4) dX6_wrong_34 (by decide) ?_
        refine mw_loc [2, 1, 0] rfl ?_
        exact ih _ _ h
      · refine mw_if_eq (tgt := 28) dX6_wrong_16 (by decide) (fun hc4 => ?_) (fun hc4 => ?_)
        · replace h := mh_ifp hc4 h
          refine mw_iconst (v := 0) dX6_wrong_28 (by decide) ?_
          refine mw_loc [0, 2] rfl ?_
          exact hJ3 _ h
        · replace h := mh_ifn hc4 h
          refine mw_iconst (v := 1) dX6_wrong_19 (by decide) ?_
          refine mw_iload_n dX6_wrong_20 2 rfl ?_
          refine mw_bipush (v := 6) dX6_wrong_21 (by decide) ?_
          refine mw_idiv dX6_wrong_23 (by decide) ?_
          refine mw_ishl dX6_wrong_24 ?_
          refine mw_goto (tgt := 29) dX6_wrong_25 (by decide) ?_
          refine mw_loc [0, 2] rfl ?_
          exact hJ3 _ h
def X6_wrong (I : mh_I) : Option (Int32) := X6_wrong_l4 I mh_fuel (0 : Int32) (0 : Int32)
set_option maxHeartbeats 4000000 in
set_option maxRecDepth 100000 in
theorem t_X6_wrong {L : mh_L} {I : mh_I} {res : Int32} (h : X6_wrong I = some res) : mh_CT yX6_wrong cX6_wrong 3 (some .int) (mh_rm 4) SHM I L [.ref 0] (mh_ret (some (.int res)) SHM I L) := by
  refine mh_ofW (ini := false) RX6 rfl (by decide) (fun h => by cases h) (Nat.le_of_ble_eq_true rfl) ?_
  show w_X6_wrong SHM (mh_ret (some (.int res)) SHM I L) I L 0 [(0, .ref 0)] []
  unfold X6_wrong at h
  refine mw_iconst (v := 0) dX6_wrong_0 (by decide) ?_
  refine mw_istore_n dX6_wrong_1 (by decide) rfl ?_
  refine mw_iconst (v := 0) dX6_wrong_2 (by decide) ?_
  refine mw_istore_n dX6_wrong_3 (by decide) rfl ?_
  refine mw_loc [2, 1, 0] rfl ?_
  exact t_X6_wrong_l4  _ _ _ h 
abbrev w_X6_isHeld (sh : List mh_C) (Φ : mh_P) (I : mh_I) (L : mh_L) (pc : Nat) (lv : List (Nat × Value)) (st : List Value) : Prop := mh_W RX6 cX6_isHeld 4 (some .boolean) false (mh_rm 7) 18 0 0 mh_noX Φ 0 sh I L pc lv st
def X6_isHeld (p1 : Int32) (p2 : Int32) (p3 : Int32) (I : mh_I) : Option (Int32 × mh_I) := (X6_runsFrom p1 p2 I).bind (fun q1 => if p3 < (q1 0 29) then some ((0 : Int32), q1) else some ((1 : Int32), q1))
set_option maxHeartbeats 4000000 in
set_option maxRecDepth 100000 in
theorem t_X6_isHeld {L : mh_L} {I : mh_I} {p1 : Int32} {p2 : Int32} {p3 : Int32} {res : Int32 × mh_I} (h : X6_isHeld p1 p2 p3 I = some res) : mh_CT yX6_isHeld cX6_isHeld 4 (some .boolean) (mh_rm 7) SHM I L [.ref 0, .int p1, .int p2, .int p3] (mh_retz res.1 SHM res.2 L) := by
  refine mh_ofW (ini := false) RX6 rfl (by decide) (fun h => by cases h) (Nat.le_of_ble_eq_true rfl) ?_
  show w_X6_isHeld SHM (mh_retz res.1 SHM res.2 L) I L 0 [(0, .ref 0), (1, .int p1), (2, .int p2), (3, .int p3)] []
  unfold X6_isHeld at h
  refine mw_aload_n dX6_isHeld_0 0 rfl ?_
  refine mw_iload_n dX6_isHeld_1 1 rfl ?_
  refine mw_iload_n dX6_isHeld_2 2 rfl ?_
  obtain ⟨q1, hq1, h⟩ := mh_bind h
  refine mw_vv (dc := 6) (ci := 6) (fs := fsX6) (T := TX6) (N := 30) cv_X6_213 wd_964 dX6_isHeld_3 [.int p1, .int p2] [.int p2, .int p1, .ref 0] rfl rfl rfl rfl (t_X6_runsFrom hq1) ⟨by decide, by decide⟩ (Nat.le_of_ble_eq_true rfl) ⟨rfl, rfl⟩ ?_
  refine mw_aload_n dX6_isHeld_6 0 rfl ?_
  refine mw_geti (fs := fsX6) gf_X6_202 dX6_isHeld_7 rfl rfl ?_
  refine mw_iload_n dX6_isHeld_10 3 rfl ?_
  refine mw_icmp_gt (tgt := 18) dX6_isHeld_11 (by decide) (fun hc2 => ?_) (fun hc2 => ?_)
  · replace h := mh_ifp hc2 h
    refine mw_iconst (v := 0) dX6_isHeld_18 (by decide) ?_
    obtain rfl := Option.some.inj h
    exact mw_zret dX6_isHeld_19 rfl (Or.inl rfl) (Nat.le_of_ble_eq_true rfl) (Nat.le_refl 0) (mh_retz_rfl (Or.inl rfl))
  · replace h := mh_ifn hc2 h
    refine mw_iconst (v := 1) dX6_isHeld_14 (by decide) ?_
    refine mw_goto (tgt := 19) dX6_isHeld_15 (by decide) ?_
    obtain rfl := Option.some.inj h
    exact mw_zret dX6_isHeld_19 rfl (Or.inr rfl) (Nat.le_of_ble_eq_true rfl) (Nat.le_refl 0) (mh_retz_rfl (Or.inr rfl))
