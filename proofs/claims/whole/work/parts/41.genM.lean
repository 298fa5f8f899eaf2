abbrev w_X6_slips (sh : List mh_C) (Φ : mh_P) (I : mh_I) (L : mh_L) (pc : Nat) (lv : List (Nat × Value)) (st : List Value) : Prop := mh_W RX6 cX6_slips 5 (some .int) false (mh_rm 7) 18 0 0 mh_noX Φ 0 sh I L pc lv st
def X6_slips (p1 : Int32) (p2 : Int32) (p3 : Int32) (p4 : Int32) (I : mh_I) : Option (Int32 × mh_I) := (X6_isLoop p2).bind (fun q1 => if q1 = 0 then some ((-5 : Int32), I) else (X6_isSeed p1).bind (fun q2 => if q2 = 0 then some ((-7 : Int32), I) else (X6_isPull p3).bind (fun q3 => if q3 = 0 then some ((-7 : Int32), I) else (X6_in p4 (0 : Int32) (100 : Int32)).bind (fun q4 => if q4 = 0 then some ((-7 : Int32), I) else (X6_runsFrom p2 p3 I).bind (fun q5 => (X6_missed p1 p4 q5).bind (fun q6 => some (q6, q5)))))))
set_option maxHeartbeats 4000000 in
set_option maxRecDepth 100000 in
theorem t_X6_slips {L : mh_L} {I : mh_I} {p1 : Int32} {p2 : Int32} {p3 : Int32} {p4 : Int32} {res : Int32 × mh_I} (h : X6_slips p1 p2 p3 p4 I = some res) : mh_CT yX6_slips cX6_slips 5 (some .int) (mh_rm 7) SHM I L [.ref 0, .int p1, .int p2, .int p3, .int p4] (mh_ret (some (.int res.1)) SHM res.2 L) := by
  refine mh_ofW (ini := false) RX6 rfl (by decide) (fun h => by cases h) (Nat.le_of_ble_eq_true rfl) ?_
  show w_X6_slips SHM (mh_ret (some (.int res.1)) SHM res.2 L) I L 0 [(0, .ref 0), (1, .int p1), (2, .int p2), (3, .int p3), (4, .int p4)] []
  unfold X6_slips at h
  refine mw_iload_n dX6_slips_0 2 rfl ?_
  obtain ⟨q1, hq1, h⟩ := mh_bind h
  refine mw_sz (dc := 1) cs_X6_155 wd_876 dX6_slips_1 [.int p2] [.int p2] rfl rfl (t_X6_isLoop hq1) ⟨by decide, by decide⟩ (Nat.le_of_ble_eq_true rfl) ⟨rfl, rfl⟩ (fun zq1 => ?_)
  refine mw_if_ne (tgt := 10) dX6_slips_4 (by decide) (fun hc10 => ?_) (fun hc10 => ?_)
  · replace h := mh_ifn hc10 h
    refine mw_iload_n dX6_slips_10 1 rfl ?_
    obtain ⟨q2, hq2, h⟩ := mh_bind h
    refine mw_sz (dc := 1) cs_X6_256 wd_1115 dX6_slips_11 [.int p1] [.int p1] rfl rfl (t_X6_isSeed hq2) ⟨by decide, by decide⟩ (Nat.le_of_ble_eq_true rfl) ⟨rfl, rfl⟩ (fun zq2 => ?_)
    refine mw_if_eq (tgt := 35) dX6_slips_14 (by decide) (fun hc9 => ?_) (fun hc9 => ?_)
    · replace h := mh_ifp hc9 h
      refine mw_bipush (v := -7) dX6_slips_35 (by decide) ?_
      obtain rfl := Option.some.inj h
      exact mw_iret dX6_slips_37 rfl rfl (Nat.le_of_ble_eq_true rfl) (Nat.le_refl 0) mh_ret_rfl
    · replace h := mh_ifn hc9 h
      refine mw_iload_n dX6_slips_17 3 rfl ?_
      obtain ⟨q3, hq3, h⟩ := mh_bind h
      refine mw_sz (dc := 1) cs_X6_158 wd_879 dX6_slips_18 [.int p3] [.int p3] rfl rfl (t_X6_isPull hq3) ⟨by decide, by decide⟩ (Nat.le_of_ble_eq_true rfl) ⟨rfl, rfl⟩ (fun zq3 => ?_)
      refine mw_if_eq (tgt := 35) dX6_slips_21 (by decide) (fun hc8 => ?_) (fun hc8 => ?_)
      · replace h := mh_ifp hc8 h
        refine mw_bipush (v := -7) dX6_slips_35 (by decide) ?_
        obtain rfl := Option.some.inj h
        exact mw_iret dX6_slips_37 rfl rfl (Nat.le_of_ble_eq_true rfl) (Nat.le_refl 0) mh_ret_rfl
      · replace h := mh_ifn hc8 h
        refine mw_iload dX6_slips_24 4 rfl ?_
        refine mw_iconst (v := 0) dX6_slips_26 (by decide) ?_
        refine mw_bipush (v := 100) dX6_slips_27 (by decide) ?_
        obtain ⟨q4, hq4, h⟩ := mh_bind h
        refine mw_sz (dc := 0) cs_X6_69 wd_722 dX6_slips_29 [.int p4, .int (0 : Int32), .int (100 : Int32)] [.int (100 : Int32), .int (0 : Int32), .int p4] rfl rfl (t_X6_in hq4) ⟨by decide, by decide⟩ (Nat.le_of_ble_eq_true rfl) ⟨rfl, rfl⟩ (fun zq4 => ?_)
        refine mw_if_ne (tgt := 38) dX6_slips_32 (by decide) (fun hc7 => ?_) (fun hc7 => ?_)
        · replace h := mh_ifn hc7 h
          refine mw_aload_n dX6_slips_38 0 rfl ?_
          refine mw_iload_n dX6_slips_39 2 rfl ?_
          refine mw_iload_n dX6_slips_40 3 rfl ?_
          obtain ⟨q5, hq5, h⟩ := mh_bind h
          refine mw_vv (dc := 6) (ci := 6) (fs := fsX6) (T := TX6) (N := 30) cv_X6_213 wd_964 dX6_slips_41 [.int p2, .int p3] [.int p3, .int p2, .ref 0] rfl rfl rfl rfl (t_X6_runsFrom hq5) ⟨by decide, by decide⟩ (Nat.le_of_ble_eq_true rfl) ⟨rfl, rfl⟩ ?_
          refine mw_aload_n dX6_slips_44 0 rfl ?_
          refine mw_iload_n dX6_slips_45 1 rfl ?_
          refine mw_iload dX6_slips_46 4 rfl ?_
          obtain ⟨q6, hq6, h⟩ := mh_bind h
          refine mw_vr (dc := 0) (ci := 6) (fs := fsX6) (T := TX6) (N := 30) cv_X6_259 wd_1120 dX6_slips_48 [.int p1, .int p4] [.int p4, .int p1, .ref 0] rfl rfl rfl rfl (t_X6_missed hq6) ⟨by decide, by decide⟩ (Nat.le_of_ble_eq_true rfl) ⟨rfl, rfl⟩ ?_
          obtain rfl := Option.some.inj h
          exact mw_iret dX6_slips_51 rfl rfl (Nat.le_of_ble_eq_true rfl) (Nat.le_refl 0) mh_ret_rfl
        · replace h := mh_ifp hc7 h
          refine mw_bipush (v := -7) dX6_slips_35 (by decide) ?_
          obtain rfl := Option.some.inj h
          exact mw_iret dX6_slips_37 rfl rfl (Nat.le_of_ble_eq_true rfl) (Nat.le_refl 0) mh_ret_rfl
  · replace h := mh_ifp hc10 h
    refine mw_bipush (v := -5) dX6_slips_7 (by decide) ?_
    obtain rfl := Option.some.inj h
    exact mw_iret dX6_slips_9 rfl rfl (Nat.le_of_ble_eq_true rfl) (Nat.le_refl 0) mh_ret_rfl
abbrev w_X6_lowest_ (sh : List mh_C) (Φ : mh_P) (I : mh_I) (L : mh_L) (pc : Nat) (lv : List (Nat × Value)) (st : List Value) : Prop := mh_W RX6 cX6_lowest_ 11 (some .long) false (mh_rm 0) 18 0 0 mh_noX Φ 0 sh I L pc lv st
def X6_lowest__l16 (k41 : (Int64 → Option (Int64))) : Nat → Int64 → Int64 → Option (Int64)
  | 0, _, _ => none
  | n + 1, u5, u7 => if (lg_cmp u7 (0 : Int64)) = 0 then (k41 u5) else mh_dvl u7 (mh_b (mh_reml u5 u7) (fun b2 => (X6_lowest__l16 k41 n u7 b2)))
set_option maxHeartbeats 4000000 in
set_option maxRecDepth 100000 in
theorem t_X6_lowest__l16 {u0 : Int64} {u2 : Int64} {u4 : Int32} {k41 : (Int64 → Option (Int64))} {I : mh_I} {L : mh_L} {res : Int64} (n : Nat) (u5 : Int64) (u7 : Int64) (h : X6_lowest__l16 k41 n u5 u7 = some res) (hk41 : ∀ (u5 : Int64), k41 u5 = some res → w_X6_lowest_ SHM (mh_ret (some (.long res)) SHM I L) I L 41 [(0, .long u0), (2, .long u2), (4, .int u4), (5, .long u5)] []) : w_X6_lowest_ SHM (mh_ret (some (.long res)) SHM I L) I L 16 [(0, .long u0), (2, .long u2), (4, .int u4), (5, .long u5), (7, .long u7)] [] := by
  induction n generalizing u5 u7 with
  | zero => rw [X6_lowest__l16] at h; cases h
  | succ n ih =>
    rw [X6_lowest__l16] at h
    refine mw_lload dX6_lowest__16 4 rfl ?_
    refine mw_lconst (v := 0) dX6_lowest__18 (by decide) ?_
    refine mw_lcmp dX6_lowest__19 ?_
    refine mw_if_eq (tgt := 41) dX6_lowest__20 (by decide) (fun hc3 => ?_) (fun hc3 => ?_)
    · replace h := mh_ifp hc3 h
      refine mw_loc [0, 1, 2, 3] rfl ?_
      exact hk41 _ h
    · replace h := mh_ifn hc3 h
      refine mw_lload dX6_lowest__23 3 rfl ?_
      refine mw_lload dX6_lowest__25 4 rfl ?_
      obtain ⟨hn1, h⟩ := mh_dvl_some h
      refine mw_lrem dX6_lowest__27 hn1 ?_
      obtain ⟨b2, eb2, h⟩ := mh_b_some h
      refine mw_nml eb2 ?_
      refine mw_lstore dX6_lowest__28 (by decide) rfl ?_
      refine mw_lload dX6_lowest__30 5 rfl ?_
      refine mw_lstore dX6_lowest__32 (by decide) rfl ?_
      refine mw_lload dX6_lowest__34 1 rfl ?_
      refine mw_lstore dX6_lowest__36 (by decide) rfl ?_
      refine mw_goto (tgt := 16) dX6_lowest__38 (by decide) ?_
      refine mw_loc [3, 4, 5, 1, 0] rfl ?_
      exact ih _ _ h
def X6_lowest_ (p0 : Int64) (p2 : Int64) (p4 : Int32) : Option (Int64) := if (lg_cmp p0 (0 : Int64)) = 0 then some (p4.toInt64) else X6_lowest__l16 (fun (v4 : Int64) => if p4 = 0 then mh_dvl v4 (some (p0 / v4)) else mh_dvl v4 (some (p2 / v4))) mh_fuel p0 p2
set_option maxHeartbeats 4000000 in
set_option maxRecDepth 100000 in
theorem t_X6_lowest_ {L : mh_L} {I : mh_I} {p0 : Int64} {p2 : Int64} {p4 : Int32} {res : Int64} (h : X6_lowest_ p0 p2 p4 = some res) : mh_CT yX6_lowest_ cX6_lowest_ 11 (some .long) (mh_rm 0) SHM I L [.long p0, .long p2, .int p4] (mh_ret (some (.long res)) SHM I L) := by
  refine mh_ofW (ini := false) RX6 rfl (by decide) (fun h => by cases h) (Nat.le_of_ble_eq_true rfl) ?_
  show w_X6_lowest_ SHM (mh_ret (some (.long res)) SHM I L) I L 0 [(0, .long p0), (2, .long p2), (4, .int p4)] []
  unfold X6_lowest_ at h
  refine mw_lload_n dX6_lowest__0 0 rfl ?_
  refine mw_lconst (v := 0) dX6_lowest__1 (by decide) ?_
  refine mw_lcmp dX6_lowest__2 ?_
  refine mw_if_ne (tgt := 10) dX6_lowest__3 (by decide) (fun hc8 => ?_) (fun hc8 => ?_)
  · replace h := mh_ifn hc8 h
    refine mw_lload_n dX6_lowest__10 0 rfl ?_
    refine mw_lstore dX6_lowest__11 (by decide) rfl ?_
    refine mw_lload_n dX6_lowest__13 2 rfl ?_
    refine mw_lstore dX6_lowest__14 (by decide) rfl ?_
    refine mw_loc [2, 3, 4, 1, 0] rfl ?_
    refine t_X6_lowest__l16  _ _ _ h (fun v4 h => ?_)
    refine mw_iload dX6_lowest__41 2 rfl ?_
    refine mw_if_ne (tgt := 50) dX6_lowest__43 (by decide) (fun hc7 => ?_) (fun hc7 => ?_)
    · replace h := mh_ifn hc7 h
      refine mw_lload_n dX6_lowest__50 1 rfl ?_
      refine mw_lload dX6_lowest__51 3 rfl ?_
      obtain ⟨hn5, h⟩ := mh_dvl_some h
      refine mw_ldiv dX6_lowest__53 hn5 ?_
      obtain rfl := Option.some.inj h
      exact mw_lret dX6_lowest__54 rfl (Nat.le_of_ble_eq_true rfl) (Nat.le_refl 0) mh_ret_rfl
    · replace h := mh_ifp hc7 h
      refine mw_lload_n dX6_lowest__46 0 rfl ?_
      refine mw_goto (tgt := 51) dX6_lowest__47 (by decide) ?_
      refine mw_lload dX6_lowest__51 3 rfl ?_
      obtain ⟨hn6, h⟩ := mh_dvl_some h
      refine mw_ldiv dX6_lowest__53 hn6 ?_
      obtain rfl := Option.some.inj h
      exact mw_lret dX6_lowest__54 rfl (Nat.le_of_ble_eq_true rfl) (Nat.le_refl 0) mh_ret_rfl
  · replace h := mh_ifp hc8 h
    refine mw_iload dX6_lowest__6 2 rfl ?_
    refine mw_i2l dX6_lowest__8 ?_
    obtain rfl := Option.some.inj h
    exact mw_lret dX6_lowest__9 rfl (Nat.le_of_ble_eq_true rfl) (Nat.le_refl 0) mh_ret_rfl
abbrev w_X6_odds (sh : List mh_C) (Φ : mh_P) (I : mh_I) (L : mh_L) (pc : Nat) (lv : List (Nat × Value)) (st : List Value) : Prop := mh_W RX6 cX6_odds 10 (some .long) false (mh_rm 7) 18 0 0 mh_noX Φ 0 sh I L pc lv st
def X6_odds_l70 (u1 : Int32) (u2 : Int32) (u5 : Int32) (I : mh_I) (k105 : (Int64 → Option (Int64 × mh_I))) : Nat → Int64 → Int32 → Option (Int64 × mh_I)
  | 0, _, _ => none
  | n + 1, u7, u9 => if u2 ≤ u9 then (k105 u7) else (X6_missed (u1 + u9) u5 I).bind (fun q8 => mh_j (fun (s9 : Int64) => mh_b (u7 + s9) (fun b12 => mh_b (u9 + (1 : Int32)) (fun b13 => (X6_odds_l70 u1 u2 u5 I k105 n b12 b13)))) (fun J10 => if q8 = 0 then (J10 (1 : Int64)) else (J10 (0 : Int64))))
set_option maxHeartbeats 4000000 in
set_option maxRecDepth 100000 in
theorem t_X6_odds_l70 {u1 : Int32} {u2 : Int32} {u5 : Int32} {u6 : Int32} {k105 : (Int64 → Option (Int64 × mh_I))} {I : mh_I} {L : mh_L} {res : Int64 × mh_I} (n : Nat) (u7 : Int64) (u9 : Int32) (h : X6_odds_l70 u1 u2 u5 I k105 n u7 u9 = some res) (hk105 : ∀ (u7 : Int64), k105 u7 = some res → w_X6_odds SHM (mh_ret (some (.long res.1)) SHM res.2 L) I L 105 [(2, .int u2), (6, .int u6), (7, .long u7)] []) : w_X6_odds SHM (mh_ret (some (.long res.1)) SHM res.2 L) I L 70 [(0, .ref 0), (1, .int u1), (2, .int u2), (5, .int u5), (6, .int u6), (7, .long u7), (9, .int u9)] [] := by
  induction n generalizing u7 u9 with
  | zero => rw [X6_odds_l70] at h; cases h
  | succ n ih =>
    rw [X6_odds_l70] at h
    refine mw_iload dX6_odds_70 6 rfl ?_
    refine mw_iload_n dX6_odds_72 2 rfl ?_
    refine mw_icmp_ge (tgt := 105) dX6_odds_73 (by decide) (fun hc14 => ?_) (fun hc14 => ?_)
    · replace h := mh_ifp hc14 h
      refine mw_loc [2, 4, 5] rfl ?_
      exact hk105 _ h
    · replace h := mh_ifn hc14 h
      refine mw_lload dX6_odds_76 5 rfl ?_
      refine mw_aload_n dX6_odds_78 0 rfl ?_
      refine mw_iload_n dX6_odds_79 1 rfl ?_
      refine mw_iload dX6_odds_80 6 rfl ?_
      refine mw_iadd dX6_odds_82 ?_
      refine mw_iload dX6_odds_83 3 rfl ?_
      obtain ⟨q8, hq8, h⟩ := mh_bind h
      refine mw_vr (dc := 0) (ci := 6) (fs := fsX6) (T := TX6) (N := 30) cv_X6_259 wd_1120 dX6_odds_85 [.int (u1 + u9), .int u5] [.int u5, .int (u1 + u9), .ref 0, .long u7] rfl rfl rfl rfl (t_X6_missed hq8) ⟨by decide, by decide⟩ (Nat.le_of_ble_eq_true rfl) ⟨rfl, rfl⟩ ?_
      refine mh_jw (fun J10 => ∀ (s9 : Int64), J10 s9 = some res → w_X6_odds SHM (mh_ret (some (.long res.1)) SHM res.2 L) I L 96 [(0, .ref 0), (1, .int u1), (2, .int u2), (5, .int u5), (6, .int u6), (9, .int u9)] [.long s9, .long u7]) h (fun s9 h => ?_) (fun J10 hJ10 h => ?_)
      · refine mw_ladd dX6_odds_96 ?_
        obtain ⟨b12, eb12, h⟩ := mh_b_some h
        refine mw_nml eb12 ?_
        refine mw_lstore dX6_odds_97 (by decide) rfl ?_
        obtain ⟨b13, eb13, h⟩ := mh_b_some h
        refine mw_iinc (v := b13) dX6_odds_99 6 rfl (by rw [← eb13]; rfl) (by decide) rfl ?_
        refine mw_goto (tgt := 70) dX6_odds_102 (by decide) ?_
        refine mw_loc [2, 3, 4, 5, 6, 1, 0] rfl ?_
        exact ih _ _ h
      · refine mw_if_ne (tgt := 95) dX6_odds_88 (by decide) (fun hc11 => ?_) (fun hc11 => ?_)
        · replace h := mh_ifn hc11 h
          refine mw_lconst (v := 0) dX6_odds_95 (by decide) ?_
          refine mw_loc [0, 1, 2, 3, 4, 6] rfl ?_
          exact hJ10 _ h
        · replace h := mh_ifp hc11 h
          refine mw_lconst (v := 1) dX6_odds_91 (by decide) ?_
          refine mw_goto (tgt := 96) dX6_odds_92 (by decide) ?_
          refine mw_loc [0, 1, 2, 3, 4, 6] rfl ?_
          exact hJ10 _ h
def X6_odds (p1 : Int32) (p2 : Int32) (p3 : Int32) (p4 : Int32) (p5 : Int32) (p6 : Int32) (I : mh_I) : Option (Int64 × mh_I) := (X6_isSeed p1).bind (fun q1 => if q1 = 0 then some ((-4611686018427387904 : Int64), I) else (X6_in p2 (1 : Int32) (50 : Int32)).bind (fun q2 => if q2 = 0 then some ((-4611686018427387904 : Int64), I) else (X6_isLoop p3).bind (fun q3 => if q3 = 0 then some ((-4611686018427387904 : Int64), I) else (X6_isPull p4).bind (fun q4 => if q4 = 0 then some ((-4611686018427387904 : Int64), I) else (X6_in p5 (0 : Int32) (100 : Int32)).bind (fun q5 => if q5 = 0 then some ((-4611686018427387904 : Int64), I) else (X6_in p6 (0 : Int32) (1 : Int32)).bind (fun q6 => if q6 = 0 then some ((-4611686018427387904 : Int64), I) else (X6_runsFrom p3 p4 I).bind (fun q7 => X6_odds_l70 p1 p2 p5 q7 (fun (v15 : Int64) => (X6_lowest_ v15 (p2.toInt64) p6).bind (fun q16 => some (q16, q7))) mh_fuel (0 : Int64) (0 : Int32))))))))
set_option maxHeartbeats 4000000 in
set_option maxRecDepth 100000 in
theorem t_X6_odds {L : mh_L} {I : mh_I} {p1 : Int32} {p2 : Int32} {p3 : Int32} {p4 : Int32} {p5 : Int32} {p6 : Int32} {res : Int64 × mh_I} (h : X6_odds p1 p2 p3 p4 p5 p6 I = some res) : mh_CT yX6_odds cX6_odds 10 (some .long) (mh_rm 7) SHM I L [.ref 0, .int p1, .int p2, .int p3, .int p4, .int p5, .int p6] (mh_ret (some (.long res.1)) SHM res.2 L) := by
  refine mh_ofW (ini := false) RX6 rfl (by decide) (fun h => by cases h) (Nat.le_of_ble_eq_true rfl) ?_
  show w_X6_odds SHM (mh_ret (some (.long res.1)) SHM res.2 L) I L 0 [(0, .ref 0), (1, .int p1), (2, .int p2), (3, .int p3), (4, .int p4), (5, .int p5), (6, .int p6)] []
  unfold X6_odds at h
  refine mw_iload_n dX6_odds_0 1 rfl ?_
  obtain ⟨q1, hq1, h⟩ := mh_bind h
  refine mw_sz (dc := 1) cs_X6_256 wd_1115 dX6_odds_1 [.int p1] [.int p1] rfl rfl (t_X6_isSeed hq1) ⟨by decide, by decide⟩ (Nat.le_of_ble_eq_true rfl) ⟨rfl, rfl⟩ (fun zq1 => ?_)
  refine mw_if_eq (tgt := 53) dX6_odds_4 (by decide) (fun hc22 => ?_) (fun hc22 => ?_)
  · replace h := mh_ifp hc22 h
    refine mw_ldc2 dX6_odds_53 wd_925 ?_
    obtain rfl := Option.some.inj h
    exact mw_lret dX6_odds_56 rfl (Nat.le_of_ble_eq_true rfl) (Nat.le_refl 0) mh_ret_rfl
  · replace h := mh_ifn hc22 h
    refine mw_iload_n dX6_odds_7 2 rfl ?_
    refine mw_iconst (v := 1) dX6_odds_8 (by decide) ?_
    refine mw_bipush (v := 50) dX6_odds_9 (by decide) ?_
    obtain ⟨q2, hq2, h⟩ := mh_bind h
    refine mw_sz (dc := 0) cs_X6_69 wd_722 dX6_odds_11 [.int p2, .int (1 : Int32), .int (50 : Int32)] [.int (50 : Int32), .int (1 : Int32), .int p2] rfl rfl (t_X6_in hq2) ⟨by decide, by decide⟩ (Nat.le_of_ble_eq_true rfl) ⟨rfl, rfl⟩ (fun zq2 => ?_)
    refine mw_if_eq (tgt := 53) dX6_odds_14 (by decide) (fun hc21 => ?_) (fun hc21 => ?_)
    · replace h := mh_ifp hc21 h
      refine mw_ldc2 dX6_odds_53 wd_925 ?_
      obtain rfl := Option.some.inj h
      exact mw_lret dX6_odds_56 rfl (Nat.le_of_ble_eq_true rfl) (Nat.le_refl 0) mh_ret_rfl
    · replace h := mh_ifn hc21 h
      refine mw_iload_n dX6_odds_17 3 rfl ?_
      obtain ⟨q3, hq3, h⟩ := mh_bind h
      refine mw_sz (dc := 1) cs_X6_155 wd_876 dX6_odds_18 [.int p3] [.int p3] rfl rfl (t_X6_isLoop hq3) ⟨by decide, by decide⟩ (Nat.le_of_ble_eq_true rfl) ⟨rfl, rfl⟩ (fun zq3 => ?_)
      refine mw_if_eq (tgt := 53) dX6_odds_21 (by decide) (fun hc20 => ?_) (fun hc20 => ?_)
      · replace h := mh_ifp hc20 h
        refine mw_ldc2 dX6_odds_53 wd_925 ?_
        obtain rfl := Option.some.inj h
        exact mw_lret dX6_odds_56 rfl (Nat.le_of_ble_eq_true rfl) (Nat.le_refl 0) mh_ret_rfl
      · replace h := mh_ifn hc20 h
        refine mw_iload dX6_odds_24 4 rfl ?_
        obtain ⟨q4, hq4, h⟩ := mh_bind h
        refine mw_sz (dc := 1) cs_X6_158 wd_879 dX6_odds_26 [.int p4] [.int p4] rfl rfl (t_X6_isPull hq4) ⟨by decide, by decide⟩ (Nat.le_of_ble_eq_true rfl) ⟨rfl, rfl⟩ (fun zq4 => ?_)
        refine mw_if_eq (tgt := 53) dX6_odds_29 (by decide) (fun hc19 => ?_) (fun hc19 => ?_)
        · replace h := mh_ifp hc19 h
          refine mw_ldc2 dX6_odds_53 wd_925 ?_
          obtain rfl := Option.some.inj h
          exact mw_lret dX6_odds_56 rfl (Nat.le_of_ble_eq_true rfl) (Nat.le_refl 0) mh_ret_rfl
        · replace h := mh_ifn hc19 h
          refine mw_iload dX6_odds_32 5 rfl ?_
          refine mw_iconst (v := 0) dX6_odds_34 (by decide) ?_
          refine mw_bipush (v := 100) dX6_odds_35 (by decide) ?_
          obtain ⟨q5, hq5, h⟩ := mh_bind h
          refine mw_sz (dc := 0) cs_X6_69 wd_722 dX6_odds_37 [.int p5, .int (0 : Int32), .int (100 : Int32)] [.int (100 : Int32), .int (0 : Int32), .int p5] rfl rfl (t_X6_in hq5) ⟨by decide, by decide⟩ (Nat.le_of_ble_eq_true rfl) ⟨rfl, rfl⟩ (fun zq5 => ?_)
          refine mw_if_eq (tgt := 53) dX6_odds_40 (by decide) (fun hc18 => ?_) (fun hc18 => ?_)
          · replace h := mh_ifp hc18 h
            refine mw_ldc2 dX6_odds_53 wd_925 ?_
            obtain rfl := Option.some.inj h
            exact mw_lret dX6_odds_56 rfl (Nat.le_of_ble_eq_true rfl) (Nat.le_refl 0) mh_ret_rfl
          · replace h := mh_ifn hc18 h
            refine mw_iload dX6_odds_43 6 rfl ?_
            refine mw_iconst (v := 0) dX6_odds_45 (by decide) ?_
            refine mw_iconst (v := 1) dX6_odds_46 (by decide) ?_
            obtain ⟨q6, hq6, h⟩ := mh_bind h
            refine mw_sz (dc := 0) cs_X6_69 wd_722 dX6_odds_47 [.int p6, .int (0 : Int32), .int (1 : Int32)] [.int (1 : Int32), .int (0 : Int32), .int p6] rfl rfl (t_X6_in hq6) ⟨by decide, by decide⟩ (Nat.le_of_ble_eq_true rfl) ⟨rfl, rfl⟩ (fun zq6 => ?_)
            refine mw_if_ne (tgt := 57) dX6_odds_50 (by decide) (fun hc17 => ?_) (fun hc17 => ?_)
            · replace h := mh_ifn hc17 h
              refine mw_aload_n dX6_odds_57 0 rfl ?_
              refine mw_iload_n dX6_odds_58 3 rfl ?_
              refine mw_iload dX6_odds_59 4 rfl ?_
              obtain ⟨q7, hq7, h⟩ := mh_bind h
              refine mw_vv (dc := 6) (ci := 6) (fs := fsX6) (T := TX6) (N := 30) cv_X6_213 wd_964 dX6_odds_61 [.int p3, .int p4] [.int p4, .int p3, .ref 0] rfl rfl rfl rfl (t_X6_runsFrom hq7) ⟨by decide, by decide⟩ (Nat.le_of_ble_eq_true rfl) ⟨rfl, rfl⟩ ?_
              refine mw_lconst (v := 0) dX6_odds_64 (by decide) ?_
              refine mw_lstore dX6_odds_65 (by decide) rfl ?_
              refine mw_iconst (v := 0) dX6_odds_67 (by decide) ?_
              refine mw_istore dX6_odds_68 (by decide) rfl ?_
              refine mw_loc [2, 3, 4, 7, 8, 1, 0] rfl ?_
              refine t_X6_odds_l70  _ _ _ h (fun v15 h => ?_)
              refine mw_lload dX6_odds_105 2 rfl ?_
              refine mw_iload_n dX6_odds_107 0 rfl ?_
              refine mw_i2l dX6_odds_108 ?_
              refine mw_iload dX6_odds_109 1 rfl ?_
              obtain ⟨q16, hq16, h⟩ := mh_bind h
              refine mw_sr (dc := 0) cs_X6_262 wd_1130 dX6_odds_111 [.long v15, .long (p2.toInt64), .int p6] [.int p6, .long (p2.toInt64), .long v15] rfl rfl (t_X6_lowest_ hq16) ⟨by decide, by decide⟩ (Nat.le_of_ble_eq_true rfl) ⟨rfl, rfl⟩ ?_
              obtain rfl := Option.some.inj h
              exact mw_lret dX6_odds_114 rfl (Nat.le_of_ble_eq_true rfl) (Nat.le_refl 0) mh_ret_rfl
            · replace h := mh_ifp hc17 h
              refine mw_ldc2 dX6_odds_53 wd_925 ?_
              obtain rfl := Option.some.inj h
              exact mw_lret dX6_odds_56 rfl (Nat.le_of_ble_eq_true rfl) (Nat.le_refl 0) mh_ret_rfl
abbrev w_X6_image (sh : List mh_C) (Φ : mh_P) (I : mh_I) (L : mh_L) (pc : Nat) (lv : List (Nat × Value)) (st : List Value) : Prop := mh_W RX6 cX6_image 2 (some .int) false (mh_rm 1) 18 0 0 mh_noX Φ 0 sh I L pc lv st
def X6_image_l15 (k85 : (mh_I → Option (Int32 × mh_I))) : Nat → Int32 → mh_I → Option (Int32 × mh_I)
  | 0, _, _ => none
  | n + 1, u1, I => if (48 : Int32) ≤ u1 then (k85 I) else mh_ix u1 48 (fun k1 => mh_ix u1 192 (fun k3 => mh_ix u1 48 (fun k5 => mh_ix ((48 : Int32) + u1) 192 (fun k7 => mh_ix u1 48 (fun k9 => mh_ix ((96 : Int32) + u1) 192 (fun k11 => mh_ix u1 48 (fun k13 => mh_ix ((144 : Int32) + u1) 192 (fun k15 => mh_b (u1 + (1 : Int32)) (fun b17 => (X6_image_l15 k85 n b17 (mh_u (mh_u (mh_u (mh_u I 8 k3 (I 1 k1)) 8 k7 ((mh_u I 8 k3 (I 1 k1)) 2 k5)) 8 k11 ((mh_u (mh_u I 8 k3 (I 1 k1)) 8 k7 ((mh_u I 8 k3 (I 1 k1)) 2 k5)) 3 k9)) 8 k15 ((mh_u (mh_u (mh_u I 8 k3 (I 1 k1)) 8 k7 ((mh_u I 8 k3 (I 1 k1)) 2 k5)) 8 k11 ((mh_u (mh_u I 8 k3 (I 1 k1)) 8 k7 ((mh_u I 8 k3 (I 1 k1)) 2 k5)) 3 k9)) 4 k13))))))))))))
set_option maxHeartbeats 4000000 in
set_option maxRecDepth 100000 in
theorem t_X6_image_l15 {k85 : (mh_I → Option (Int32 × mh_I))} {L : mh_L} {res : Int32 × mh_I} (n : Nat) (u1 : Int32) (I : mh_I) (h : X6_image_l15 k85 n u1 I = some res) (hk85 : ∀ (I : mh_I), k85 I = some res → w_X6_image SHM (mh_ret (some (.int res.1)) SHM res.2 L) I L 85 [(0, .ref 0)] []) : w_X6_image SHM (mh_ret (some (.int res.1)) SHM res.2 L) I L 15 [(0, .ref 0), (1, .int u1)] [] := by
  induction n generalizing u1 I with
  | zero => rw [X6_image_l15] at h; cases h
  | succ n ih =>
    rw [X6_image_l15] at h
    refine mw_iload_n dX6_image_15 1 rfl ?_
    refine mw_bipush (v := 48) dX6_image_16 (by decide) ?_
    refine mw_icmp_ge (tgt := 85) dX6_image_18 (by decide) (fun hc18 => ?_) (fun hc18 => ?_)
    · replace h := mh_ifp hc18 h
      refine mw_loc [0] rfl ?_
      exact hk85 _ h
    · replace h := mh_ifn hc18 h
      refine mw_aload_n dX6_image_21 0 rfl ?_
      refine mw_getr (b := 8) (fs := fsX6) gf_X6_31 dX6_image_22 rfl rfl ?_
      refine mw_iload_n dX6_image_25 1 rfl ?_
      refine mw_aload_n dX6_image_26 0 rfl ?_
      refine mw_getr (b := 1) (fs := fsX6) gf_X6_7 dX6_image_27 rfl rfl ?_
      refine mw_iload_n dX6_image_30 1 rfl ?_
      obtain ⟨k1, hk2, hk2n, hk2l, h⟩ := mh_ix_some h
      refine mw_xiald dX6_image_31 rfl hk2 hk2n ?_
      obtain ⟨k3, hk4, hk4n, hk4l, h⟩ := mh_ix_some h
      refine mw_xiast dX6_image_32 rfl hk4 hk4n ?_
      refine mw_aload_n dX6_image_33 0 rfl ?_
      refine mw_getr (b := 8) (fs := fsX6) gf_X6_31 dX6_image_34 rfl rfl ?_
      refine mw_bipush (v := 48) dX6_image_37 (by decide) ?_
      refine mw_iload_n dX6_image_39 1 rfl ?_
      refine mw_iadd dX6_image_40 ?_
      refine mw_aload_n dX6_image_41 0 rfl ?_
      refine mw_getr (b := 2) (fs := fsX6) gf_X6_13 dX6_image_42 rfl rfl ?_
      refine mw_iload_n dX6_image_45 1 rfl ?_
      obtain ⟨k5, hk6, hk6n, hk6l, h⟩ := mh_ix_some h
      refine mw_xiald dX6_image_46 rfl hk6 hk6n ?_
      obtain ⟨k7, hk8, hk8n, hk8l, h⟩ := mh_ix_some h
      refine mw_xiast dX6_image_47 rfl hk8 hk8n ?_
      refine mw_aload_n dX6_image_48 0 rfl ?_
      refine mw_getr (b := 8) (fs := fsX6) gf_X6_31 dX6_image_49 rfl rfl ?_
      refine mw_bipush (v := 96) dX6_image_52 (by decide) ?_
      refine mw_iload_n dX6_image_54 1 rfl ?_
      refine mw_iadd dX6_image_55 ?_
      refine mw_aload_n dX6_image_56 0 rfl ?_
      refine mw_getr (b := 3) (fs := fsX6) gf_X6_16 dX6_image_57 rfl rfl ?_
      refine mw_iload_n dX6_image_60 1 rfl ?_
      obtain ⟨k9, hk10, hk10n, hk10l, h⟩ := mh_ix_some h
      refine mw_xiald dX6_image_61 rfl hk10 hk10n ?_
      obtain ⟨k11, hk12, hk12n, hk12l, h⟩ := mh_ix_some h
      refine mw_xiast dX6_image_62 rfl hk12 hk12n ?_
      refine mw_aload_n dX6_image_63 0 rfl ?_
      refine mw_getr (b := 8) (fs := fsX6) gf_X6_31 dX6_image_64 rfl rfl ?_
      refine mw_sipush (v := 144) dX6_image_67 (by decide) ?_
      refine mw_iload_n dX6_image_70 1 rfl ?_
      refine mw_iadd dX6_image_71 ?_
      refine mw_aload_n dX6_image_72 0 rfl ?_
      refine mw_getr (b := 4) (fs := fsX6) gf_X6_19 dX6_image_73 rfl rfl ?_
      refine mw_iload_n dX6_image_76 1 rfl ?_
      obtain ⟨k13, hk14, hk14n, hk14l, h⟩ := mh_ix_some h
      refine mw_xiald dX6_image_77 rfl hk14 hk14n ?_
      obtain ⟨k15, hk16, hk16n, hk16l, h⟩ := mh_ix_some h
      refine mw_xiast dX6_image_78 rfl hk16 hk16n ?_
      obtain ⟨b17, eb17, h⟩ := mh_b_some h
      refine mw_iinc (v := b17) dX6_image_79 1 rfl (by rw [← eb17]; rfl) (by decide) rfl ?_
      refine mw_goto (tgt := 15) dX6_image_82 (by decide) ?_
      refine mw_loc [1, 0] rfl ?_
      exact ih _ _ h
def X6_image (I : mh_I) : Option (Int32 × mh_I) := X6_image_l15 (fun (I19 : mh_I) => (X6_manyIn (0 : Int32) I19).bind (fun q20 => some (q20, I19))) mh_fuel (0 : Int32) (mh_u (mh_u I 0 10 (1 : Int32)) 0 11 ((mh_u I 0 10 (1 : Int32)) 0 9))
set_option maxHeartbeats 4000000 in
set_option maxRecDepth 100000 in
theorem t_X6_image {L : mh_L} {I : mh_I} {res : Int32 × mh_I} (h : X6_image I = some res) : mh_CT yX6_image cX6_image 2 (some .int) (mh_rm 1) SHM I L [.ref 0] (mh_ret (some (.int res.1)) SHM res.2 L) := by
  refine mh_ofW (ini := false) RX6 rfl (by decide) (fun h => by cases h) (Nat.le_of_ble_eq_true rfl) ?_
  show w_X6_image SHM (mh_ret (some (.int res.1)) SHM res.2 L) I L 0 [(0, .ref 0)] []
  unfold X6_image at h
  refine mw_aload_n dX6_image_0 0 rfl ?_
  refine mw_iconst (v := 1) dX6_image_1 (by decide) ?_
  refine mw_puti (fs := fsX6) pf_X6_265 (fun h => by cases h) rfl rfl dX6_image_2 rfl rfl ?_
  refine mw_aload_n dX6_image_5 0 rfl ?_
  refine mw_aload_n dX6_image_6 0 rfl ?_
  refine mw_geti (fs := fsX6) gf_X6_80 dX6_image_7 rfl rfl ?_
  refine mw_puti (fs := fsX6) pf_X6_269 (fun h => by cases h) rfl rfl dX6_image_10 rfl rfl ?_
  refine mw_iconst (v := 0) dX6_image_13 (by decide) ?_
  refine mw_istore_n dX6_image_14 (by decide) rfl ?_
  refine mw_loc [1, 0] rfl ?_
  refine t_X6_image_l15  _ _ _ h (fun I19 h => ?_)
  refine mw_aload_n dX6_image_85 0 rfl ?_
  refine mw_iconst (v := 0) dX6_image_86 (by decide) ?_
  obtain ⟨q20, hq20, h⟩ := mh_bind h
  refine mw_vr (dc := 0) (ci := 6) (fs := fsX6) (T := TX6) (N := 30) cv_X6_73 wd_857 dX6_image_87 [.int (0 : Int32)] [.int (0 : Int32), .ref 0] rfl rfl rfl rfl (t_X6_manyIn hq20) ⟨by decide, by decide⟩ (Nat.le_of_ble_eq_true rfl) ⟨rfl, rfl⟩ ?_
  obtain rfl := Option.some.inj h
  exact mw_iret dX6_image_90 rfl rfl (Nat.le_of_ble_eq_true rfl) (Nat.le_refl 0) mh_ret_rfl
abbrev w_X6_restore (sh : List mh_C) (Φ : mh_P) (I : mh_I) (L : mh_L) (pc : Nat) (lv : List (Nat × Value)) (st : List Value) : Prop := mh_W RX6 cX6_restore 2 (some .int) false (mh_rm 1) 18 0 0 mh_noX Φ 0 sh I L pc lv st
def X6_restore_l20 (k90 : (mh_I → Option (Int32 × mh_I))) : Nat → Int32 → mh_I → Option (Int32 × mh_I)
  | 0, _, _ => none
  | n + 1, u1, I => if (48 : Int32) ≤ u1 then (k90 I) else mh_ix u1 192 (fun k1 => mh_ix u1 48 (fun k3 => mh_ix ((48 : Int32) + u1) 192 (fun k5 => mh_ix u1 48 (fun k7 => mh_ix ((96 : Int32) + u1) 192 (fun k9 => mh_ix u1 48 (fun k11 => mh_ix ((144 : Int32) + u1) 192 (fun k13 => mh_ix u1 48 (fun k15 => mh_b (u1 + (1 : Int32)) (fun b17 => (X6_restore_l20 k90 n b17 (mh_u (mh_u (mh_u (mh_u I 1 k3 (I 8 k1)) 2 k7 ((mh_u I 1 k3 (I 8 k1)) 8 k5)) 3 k11 ((mh_u (mh_u I 1 k3 (I 8 k1)) 2 k7 ((mh_u I 1 k3 (I 8 k1)) 8 k5)) 8 k9)) 4 k15 ((mh_u (mh_u (mh_u I 1 k3 (I 8 k1)) 2 k7 ((mh_u I 1 k3 (I 8 k1)) 8 k5)) 3 k11 ((mh_u (mh_u I 1 k3 (I 8 k1)) 2 k7 ((mh_u I 1 k3 (I 8 k1)) 8 k5)) 8 k9)) 8 k13))))))))))))
set_option maxHeartbeats 4000000 in
set_option maxRecDepth 100000 in
theorem t_X6_restore_l20 {k90 : (mh_I → Option (Int32 × mh_I))} {L : mh_L} {res : Int32 × mh_I} (n : Nat) (u1 : Int32) (I : mh_I) (h : X6_restore_l20 k90 n u1 I = some res) (hk90 : ∀ (I : mh_I), k90 I = some res → w_X6_restore SHM (mh_ret (some (.int res.1)) SHM res.2 L) I L 90 [(0, .ref 0)] []) : w_X6_restore SHM (mh_ret (some (.int res.1)) SHM res.2 L) I L 20 [(0, .ref 0), (1, .int u1)] [] := by
  induction n generalizing u1 I with
  | zero => rw [X6_restore_l20] at h; cases h
  | succ n ih =>
    rw [X6_restore_l20] at h
    refine mw_iload_n dX6_restore_20 1 rfl ?_
    refine mw_bipush (v := 48) dX6_restore_21 (by decide) ?_
    refine mw_icmp_ge (tgt := 90) dX6_restore_23 (by decide) (fun hc18 => ?_) (fun hc18 => ?_)
    · replace h := mh_ifp hc18 h
      refine mw_loc [0] rfl ?_
      exact hk90 _ h
    · replace h := mh_ifn hc18 h
      refine mw_aload_n dX6_restore_26 0 rfl ?_
      refine mw_getr (b := 1) (fs := fsX6) gf_X6_7 dX6_restore_27 rfl rfl ?_
      refine mw_iload_n dX6_restore_30 1 rfl ?_
      refine mw_aload_n dX6_restore_31 0 rfl ?_
      refine mw_getr (b := 8) (fs := fsX6) gf_X6_31 dX6_restore_32 rfl rfl ?_
      refine mw_iload_n dX6_restore_35 1 rfl ?_
      obtain ⟨k1, hk2, hk2n, hk2l, h⟩ := mh_ix_some h
      refine mw_xiald dX6_restore_36 rfl hk2 hk2n ?_
      obtain ⟨k3, hk4, hk4n, hk4l, h⟩ := mh_ix_some h
      refine mw_xiast dX6_restore_37 rfl hk4 hk4n ?_
      refine mw_aload_n dX6_restore_38 0 rfl ?_
      refine mw_getr (b := 2) (fs := fsX6) gf_X6_13 dX6_restore_39 rfl rfl ?_
      refine mw_iload_n dX6_restore_42 1 rfl ?_
      refine mw_aload_n dX6_restore_43 0 rfl ?_
      refine mw_getr (b := 8) (fs := fsX6) gf_X6_31 dX6_restore_44 rfl rfl ?_
      refine mw_bipush (v := 48) dX6_restore_47 (by decide) ?_
      refine mw_iload_n dX6_restore_49 1 rfl ?_
      refine mw_iadd dX6_restore_50 ?_
      obtain ⟨k5, hk6, hk6n, hk6l, h⟩ := mh_ix_some h
      refine mw_xiald dX6_restore_51 rfl hk6 hk6n ?_
      obtain ⟨k7, hk8, hk8n, hk8l, h⟩ := mh_ix_some h
      refine mw_xiast dX6_restore_52 rfl hk8 hk8n ?_
      refine mw_aload_n dX6_restore_53 0 rfl ?_
      refine mw_getr (b := 3) (fs := fsX6) gf_X6_16 dX6_restore_54 rfl rfl ?_
      refine mw_iload_n dX6_restore_57 1 rfl ?_
      refine mw_aload_n dX6_restore_58 0 rfl ?_
      refine mw_getr (b := 8) (fs := fsX6) gf_X6_31 dX6_restore_59 rfl rfl ?_
      refine mw_bipush (v := 96) dX6_restore_62 (by decide) ?_
      refine mw_iload_n dX6_restore_64 1 rfl ?_
      refine mw_iadd dX6_restore_65 ?_
      obtain ⟨k9, hk10, hk10n, hk10l, h⟩ := mh_ix_some h
      refine mw_xiald dX6_restore_66 rfl hk10 hk10n ?_
      obtain ⟨k11, hk12, hk12n, hk12l, h⟩ := mh_ix_some h
      refine mw_xiast dX6_restore_67 rfl hk12 hk12n ?_
      refine mw_aload_n dX6_restore_68 0 rfl ?_
      refine mw_getr (b := 4) (fs := fsX6) gf_X6_19 dX6_restore_69 rfl rfl ?_
      refine mw_iload_n dX6_restore_72 1 rfl ?_
      refine mw_aload_n dX6_restore_73 0 rfl ?_
      refine mw_getr (b := 8) (fs := fsX6) gf_X6_31 dX6_restore_74 rfl rfl ?_
      refine mw_sipush (v := 144) dX6_restore_77 (by decide) ?_
      refine mw_iload_n dX6_restore_80 1 rfl ?_
      refine mw_iadd dX6_restore_81 ?_
      obtain ⟨k13, hk14, hk14n, hk14l, h⟩ := mh_ix_some h
      refine mw_xiald dX6_restore_82 rfl hk14 hk14n ?_
      obtain ⟨k15, hk16, hk16n, hk16l, h⟩ := mh_ix_some h
      refine mw_xiast dX6_restore_83 rfl hk16 hk16n ?_
      obtain ⟨b17, eb17, h⟩ := mh_b_some h
      refine mw_iinc (v := b17) dX6_restore_84 1 rfl (by rw [← eb17]; rfl) (by decide) rfl ?_
      refine mw_goto (tgt := 20) dX6_restore_87 (by decide) ?_
      refine mw_loc [1, 0] rfl ?_
      exact ih _ _ h
def X6_restore (I : mh_I) : Option (Int32 × mh_I) := if (I 0 10) = 0 then some ((-3 : Int32), I) else X6_restore_l20 (fun (I19 : mh_I) => (X6_manyIn (0 : Int32) I19).bind (fun q20 => some (q20, I19))) mh_fuel (0 : Int32) (mh_u I 0 9 (I 0 11))
set_option maxHeartbeats 4000000 in
set_option maxRecDepth 100000 in
theorem t_X6_restore {L : mh_L} {I : mh_I} {res : Int32 × mh_I} (h : X6_restore I = some res) : mh_CT yX6_restore cX6_restore 2 (some .int) (mh_rm 1) SHM I L [.ref 0] (mh_ret (some (.int res.1)) SHM res.2 L) := by
  refine mh_ofW (ini := false) RX6 rfl (by decide) (fun h => by cases h) (Nat.le_of_ble_eq_true rfl) ?_
  show w_X6_restore SHM (mh_ret (some (.int res.1)) SHM res.2 L) I L 0 [(0, .ref 0)] []
  unfold X6_restore at h
  refine mw_aload_n dX6_restore_0 0 rfl ?_
  refine mw_geti (fs := fsX6) gf_X6_265 dX6_restore_1 rfl rfl ?_
  refine mw_if_ne (tgt := 10) dX6_restore_4 (by decide) (fun hc21 => ?_) (fun hc21 => ?_)
  · replace h := mh_ifn hc21 h
    refine mw_aload_n dX6_restore_10 0 rfl ?_
    refine mw_aload_n dX6_restore_11 0 rfl ?_
    refine mw_geti (fs := fsX6) gf_X6_269 dX6_restore_12 rfl rfl ?_
    refine mw_puti (fs := fsX6) pf_X6_80 (fun h => by cases h) rfl rfl dX6_restore_15 rfl rfl ?_
    refine mw_iconst (v := 0) dX6_restore_18 (by decide) ?_
    refine mw_istore_n dX6_restore_19 (by decide) rfl ?_
    refine mw_loc [1, 0] rfl ?_
    refine t_X6_restore_l20  _ _ _ h (fun I19 h => ?_)
    refine mw_aload_n dX6_restore_90 0 rfl ?_
    refine mw_iconst (v := 0) dX6_restore_91 (by decide) ?_
    obtain ⟨q20, hq20, h⟩ := mh_bind h
    refine mw_vr (dc := 0) (ci := 6) (fs := fsX6) (T := TX6) (N := 30) cv_X6_73 wd_857 dX6_restore_92 [.int (0 : Int32)] [.int (0 : Int32), .ref 0] rfl rfl rfl rfl (t_X6_manyIn hq20) ⟨by decide, by decide⟩ (Nat.le_of_ble_eq_true rfl) ⟨rfl, rfl⟩ ?_
    obtain rfl := Option.some.inj h
    exact mw_iret dX6_restore_95 rfl rfl (Nat.le_of_ble_eq_true rfl) (Nat.le_refl 0) mh_ret_rfl
  · replace h := mh_ifp hc21 h
    refine mw_bipush (v := -3) dX6_restore_7 (by decide) ?_
    obtain rfl := Option.some.inj h
    exact mw_iret dX6_restore_9 rfl rfl (Nat.le_of_ble_eq_true rfl) (Nat.le_refl 0) mh_ret_rfl
abbrev w_X6_sheet (sh : List mh_C) (Φ : mh_P) (I : mh_I) (L : mh_L) (pc : Nat) (lv : List (Nat × Value)) (st : List Value) : Prop := mh_W RX6 cX6_sheet 5 (some .int) false (mh_rm 1) 18 0 0 mh_noX Φ 0 sh I L pc lv st
def X6_sheet_l70 (u1 : Int32) : Nat → Int32 → mh_I → Option (Int32 × mh_I)
  | 0, _, _ => none
  | n + 1, u4, I => if (48 : Int32) ≤ u4 then some ((1 : Int32), I) else mh_ix (((48 : Int32) * u1) + u4) 192 (fun k16 => mh_b (u4 + (1 : Int32)) (fun b18 => (X6_sheet_l70 u1 n b18 (mh_u I 11 k16 (0 : Int32)))))
set_option maxHeartbeats 4000000 in
set_option maxRecDepth 100000 in
theorem t_X6_sheet_l70 {u1 : Int32} {L : mh_L} {res : Int32 × mh_I} (n : Nat) (u4 : Int32) (I : mh_I) (h : X6_sheet_l70 u1 n u4 I = some res)  : w_X6_sheet SHM (mh_ret (some (.int res.1)) SHM res.2 L) I L 70 [(0, .ref 0), (1, .int u1), (4, .int u4)] [] := by
  induction n generalizing u4 I with
  | zero => rw [X6_sheet_l70] at h; cases h
  | succ n ih =>
    rw [X6_sheet_l70] at h
    refine mw_iload dX6_sheet_70 2 rfl ?_
    refine mw_bipush (v := 48) dX6_sheet_72 (by decide) ?_
    refine mw_icmp_ge (tgt := 96) dX6_sheet_74 (by decide) (fun hc19 => ?_) (fun hc19 => ?_)
    · replace h := mh_ifp hc19 h
      refine mw_iconst (v := 1) dX6_sheet_96 (by decide) ?_
      obtain rfl := Option.some.inj h
      exact mw_iret dX6_sheet_97 rfl rfl (Nat.le_of_ble_eq_true rfl) (Nat.le_refl 0) mh_ret_rfl
    · replace h := mh_ifn hc19 h
      refine mw_aload_n dX6_sheet_77 0 rfl ?_
      refine mw_getr (b := 11) (fs := fsX6) gf_X6_40 dX6_sheet_78 rfl rfl ?_
      refine mw_bipush (v := 48) dX6_sheet_81 (by decide) ?_
      refine mw_iload_n dX6_sheet_83 1 rfl ?_
      refine mw_imul dX6_sheet_84 ?_
      refine mw_iload dX6_sheet_85 2 rfl ?_
      refine mw_iadd dX6_sheet_87 ?_
      refine mw_iconst (v := 0) dX6_sheet_88 (by decide) ?_
      obtain ⟨k16, hk17, hk17n, hk17l, h⟩ := mh_ix_some h
      refine mw_xiast dX6_sheet_89 rfl hk17 hk17n ?_
      obtain ⟨b18, eb18, h⟩ := mh_b_some h
      refine mw_iinc (v := b18) dX6_sheet_90 2 rfl (by rw [← eb18]; rfl) (by decide) rfl ?_
      refine mw_goto (tgt := 70) dX6_sheet_93 (by decide) ?_
      refine mw_loc [1, 2, 0] rfl ?_
      exact ih _ _ h
def X6_sheet (p1 : Int32) (p2 : Int32) (p3 : Int32) (I : mh_I) : Option (Int32 × mh_I) := (X6_in p1 (0 : Int32) (3 : Int32)).bind (fun q1 => if q1 = 0 then some ((-2 : Int32), I) else (X6_in p2 (-1 : Int32) (2 : Int32)).bind (fun q2 => if q2 = 0 then some ((-2 : Int32), I) else mh_j (mh_j (mh_ix p1 4 (fun k9 => mh_j (fun (s11 : Int32) => mh_ix p1 4 (fun k14 => X6_sheet_l70 p1 mh_fuel (0 : Int32) (mh_u (mh_u I 9 k9 p2) 10 k14 s11))) (fun J12 => if p2 = (-1 : Int32) then (J12 (0 : Int32)) else (J12 p3)))) (fun J6 => if p2 = (-1 : Int32) then J6 else if 0 ≤ p3 then J6 else some ((-14 : Int32), I))) (fun J3 => if p2 = (-1 : Int32) then J3 else if p3 ≤ (48 : Int32) then J3 else some ((-2 : Int32), I))))
set_option maxHeartbeats 4000000 in
set_option maxRecDepth 100000 in
theorem t_X6_sheet {L : mh_L} {I : mh_I} {p1 : Int32} {p2 : Int32} {p3 : Int32} {res : Int32 × mh_I} (h : X6_sheet p1 p2 p3 I = some res) : mh_CT yX6_sheet cX6_sheet 5 (some .int) (mh_rm 1) SHM I L [.ref 0, .int p1, .int p2, .int p3] (mh_ret (some (.int res.1)) SHM res.2 L) := by
  refine mh_ofW (ini := false) RX6 rfl (by decide) (fun h => by cases h) (Nat.le_of_ble_eq_true rfl) ?_
  show w_X6_sheet SHM (mh_ret (some (.int res.1)) SHM res.2 L) I L 0 [(0, .ref 0), (1, .int p1), (2, .int p2), (3, .int p3)] []
  unfold X6_sheet at h
  refine mw_iload_n dX6_sheet_0 1 rfl ?_
  refine mw_iconst (v := 0) dX6_sheet_1 (by decide) ?_
  refine mw_iconst (v := 3) dX6_sheet_2 (by decide) ?_
  obtain ⟨q1, hq1, h⟩ := mh_bind h
  refine mw_sz (dc := 0) cs_X6_69 wd_722 dX6_sheet_3 [.int p1, .int (0 : Int32), .int (3 : Int32)] [.int (3 : Int32), .int (0 : Int32), .int p1] rfl rfl (t_X6_in hq1) ⟨by decide, by decide⟩ (Nat.le_of_ble_eq_true rfl) ⟨rfl, rfl⟩ (fun zq1 => ?_)
  refine mw_if_eq (tgt := 29) dX6_sheet_6 (by decide) (fun hc21 => ?_) (fun hc21 => ?_)
  · replace h := mh_ifp hc21 h
    refine mw_bipush (v := -2) dX6_sheet_29 (by decide) ?_
    obtain rfl := Option.some.inj h
    exact mw_iret dX6_sheet_31 rfl rfl (Nat.le_of_ble_eq_true rfl) (Nat.le_refl 0) mh_ret_rfl
  · replace h := mh_ifn hc21 h
    refine mw_iload_n dX6_sheet_9 2 rfl ?_
    refine mw_iconst (v := -1) dX6_sheet_10 (by decide) ?_
    refine mw_iconst (v := 2) dX6_sheet_11 (by decide) ?_
    obtain ⟨q2, hq2, h⟩ := mh_bind h
    refine mw_sz (dc := 0) cs_X6_69 wd_722 dX6_sheet_12 [.int p2, .int (-1 : Int32), .int (2 : Int32)] [.int (2 : Int32), .int (-1 : Int32), .int p2] rfl rfl (t_X6_in hq2) ⟨by decide, by decide⟩ (Nat.le_of_ble_eq_true rfl) ⟨rfl, rfl⟩ (fun zq2 => ?_)
    refine mw_if_eq (tgt := 29) dX6_sheet_15 (by decide) (fun hc20 => ?_) (fun hc20 => ?_)
    · replace h := mh_ifp hc20 h
      refine mw_bipush (v := -2) dX6_sheet_29 (by decide) ?_
      obtain rfl := Option.some.inj h
      exact mw_iret dX6_sheet_31 rfl rfl (Nat.le_of_ble_eq_true rfl) (Nat.le_refl 0) mh_ret_rfl
    · replace h := mh_ifn hc20 h
      refine mw_iload_n dX6_sheet_18 2 rfl ?_
      refine mw_iconst (v := -1) dX6_sheet_19 (by decide) ?_
      refine mh_jw (fun J3 => J3 = some res → w_X6_sheet SHM (mh_ret (some (.int res.1)) SHM res.2 L) I L 32 [(0, .ref 0), (1, .int p1), (2, .int p2), (3, .int p3)] []) h (fun h => ?_) (fun J3 hJ3 h => ?_)
      · refine mw_iload_n dX6_sheet_32 2 rfl ?_
        refine mw_iconst (v := -1) dX6_sheet_33 (by decide) ?_
        refine mh_jw (fun J6 => J6 = some res → w_X6_sheet SHM (mh_ret (some (.int res.1)) SHM res.2 L) I L 44 [(0, .ref 0), (1, .int p1), (2, .int p2), (3, .int p3)] []) h (fun h => ?_) (fun J6 hJ6 h => ?_)
        · refine mw_aload_n dX6_sheet_44 0 rfl ?_
          refine mw_getr (b := 9) (fs := fsX6) gf_X6_34 dX6_sheet_45 rfl rfl ?_
          refine mw_iload_n dX6_sheet_48 1 rfl ?_
          refine mw_iload_n dX6_sheet_49 2 rfl ?_
          obtain ⟨k9, hk10, hk10n, hk10l, h⟩ := mh_ix_some h
          refine mw_xiast dX6_sheet_50 rfl hk10 hk10n ?_
          refine mw_aload_n dX6_sheet_51 0 rfl ?_
          refine mw_getr (b := 10) (fs := fsX6) gf_X6_37 dX6_sheet_52 rfl rfl ?_
          refine mw_iload_n dX6_sheet_55 1 rfl ?_
          refine mw_iload_n dX6_sheet_56 2 rfl ?_
          refine mw_iconst (v := -1) dX6_sheet_57 (by decide) ?_
          refine mh_jw (fun J12 => ∀ (s11 : Int32), J12 s11 = some res → w_X6_sheet SHM (mh_ret (some (.int res.1)) SHM res.2 L) (mh_u I 9 k9 p2) L 66 [(0, .ref 0), (1, .int p1)] [.int s11, .int p1, .ref 10]) h (fun s11 h => ?_) (fun J12 hJ12 h => ?_)
          · obtain ⟨k14, hk15, hk15n, hk15l, h⟩ := mh_ix_some h
            refine mw_xiast dX6_sheet_66 rfl hk15 hk15n ?_
            refine mw_iconst (v := 0) dX6_sheet_67 (by decide) ?_
            refine mw_istore dX6_sheet_68 (by decide) rfl ?_
            refine mw_loc [1, 2, 0] rfl ?_
            exact t_X6_sheet_l70  _ _ _ h 
          · refine mw_icmp_ne (tgt := 65) dX6_sheet_58 (by decide) (fun hc13 => ?_) (fun hc13 => ?_)
            · replace h := mh_ifn hc13 h
              refine mw_iload_n dX6_sheet_65 3 rfl ?_
              refine mw_loc [0, 1] rfl ?_
              exact hJ12 _ h
            · replace h := mh_ifp hc13 h
              refine mw_iconst (v := 0) dX6_sheet_61 (by decide) ?_
              refine mw_goto (tgt := 66) dX6_sheet_62 (by decide) ?_
              refine mw_loc [0, 1] rfl ?_
              exact hJ12 _ h
        · refine mw_icmp_eq (tgt := 44) dX6_sheet_34 (by decide) (fun hc8 => ?_) (fun hc8 => ?_)
          · replace h := mh_ifp hc8 h
            refine mw_loc [0, 1, 2, 3] rfl ?_
            exact hJ6  h
          · replace h := mh_ifn hc8 h
            refine mw_iload_n dX6_sheet_37 3 rfl ?_
            refine mw_if_ge (tgt := 44) dX6_sheet_38 (by decide) (fun hc7 => ?_) (fun hc7 => ?_)
            · replace h := mh_ifp hc7 h
              refine mw_loc [0, 1, 2, 3] rfl ?_
              exact hJ6  h
            · replace h := mh_ifn hc7 h
              refine mw_bipush (v := -14) dX6_sheet_41 (by decide) ?_
              obtain rfl := Option.some.inj h
              exact mw_iret dX6_sheet_43 rfl rfl (Nat.le_of_ble_eq_true rfl) (Nat.le_refl 0) mh_ret_rfl
      · refine mw_icmp_eq (tgt := 32) dX6_sheet_20 (by decide) (fun hc5 => ?_) (fun hc5 => ?_)
        · replace h := mh_ifp hc5 h
          refine mw_loc [0, 1, 2, 3] rfl ?_
          exact hJ3  h
        · replace h := mh_ifn hc5 h
          refine mw_iload_n dX6_sheet_23 3 rfl ?_
          refine mw_bipush (v := 48) dX6_sheet_24 (by decide) ?_
          refine mw_icmp_le (tgt := 32) dX6_sheet_26 (by decide) (fun hc4 => ?_) (fun hc4 => ?_)
          · replace h := mh_ifp hc4 h
            refine mw_loc [0, 1, 2, 3] rfl ?_
            exact hJ3  h
          · replace h := mh_ifn hc4 h
            refine mw_bipush (v := -2) dX6_sheet_29 (by decide) ?_
            obtain rfl := Option.some.inj h
            exact mw_iret dX6_sheet_31 rfl rfl (Nat.le_of_ble_eq_true rfl) (Nat.le_refl 0) mh_ret_rfl
abbrev w_X6_cell (sh : List mh_C) (Φ : mh_P) (I : mh_I) (L : mh_L) (pc : Nat) (lv : List (Nat × Value)) (st : List Value) : Prop := mh_W RX6 cX6_cell 4 (some .int) false (mh_rm 1) 18 0 0 mh_noX Φ 0 sh I L pc lv st
def X6_cell (p1 : Int32) (p2 : Int32) (p3 : Int32) (I : mh_I) : Option (Int32 × mh_I) := (X6_in p1 (0 : Int32) (3 : Int32)).bind (fun q1 => if q1 = 0 then some ((-2 : Int32), I) else mh_ix p1 4 (fun k2 => if (I 9 k2) = (-1 : Int32) then some ((-11 : Int32), I) else mh_ix p1 4 (fun k4 => (X6_in p2 (0 : Int32) ((I 10 k4) - (1 : Int32))).bind (fun q6 => if q6 = 0 then some ((-12 : Int32), I) else mh_ix p1 4 (fun k7 => mh_j (fun (s9 : Int32) => mh_ix (((48 : Int32) * p1) + p2) 192 (fun k15 => some ((1 : Int32), (mh_u I 11 k15 s9)))) (fun J10 => if (I 9 k7) = 0 then (J10 (p3.toInt8.toInt32)) else mh_ix p1 4 (fun k11 => if (I 9 k11) = (1 : Int32) then (J10 (p3.toInt16.toInt32)) else (J10 p3))))))))
set_option maxHeartbeats 4000000 in
set_option maxRecDepth 100000 in
theorem t_X6_cell {L : mh_L} {I : mh_I} {p1 : Int32} {p2 : Int32} {p3 : Int32} {res : Int32 × mh_I} (h : X6_cell p1 p2 p3 I = some res) : mh_CT yX6_cell cX6_cell 4 (some .int) (mh_rm 1) SHM I L [.ref 0, .int p1, .int p2, .int p3] (mh_ret (some (.int res.1)) SHM res.2 L) := by
  refine mh_ofW (ini := false) RX6 rfl (by decide) (fun h => by cases h) (Nat.le_of_ble_eq_true rfl) ?_
  show w_X6_cell SHM (mh_ret (some (.int res.1)) SHM res.2 L) I L 0 [(0, .ref 0), (1, .int p1), (2, .int p2), (3, .int p3)] []
  unfold X6_cell at h
  refine mw_iload_n dX6_cell_0 1 rfl ?_
  refine mw_iconst (v := 0) dX6_cell_1 (by decide) ?_
  refine mw_iconst (v := 3) dX6_cell_2 (by decide) ?_
  obtain ⟨q1, hq1, h⟩ := mh_bind h
  refine mw_sz (dc := 0) cs_X6_69 wd_722 dX6_cell_3 [.int p1, .int (0 : Int32), .int (3 : Int32)] [.int (3 : Int32), .int (0 : Int32), .int p1] rfl rfl (t_X6_in hq1) ⟨by decide, by decide⟩ (Nat.le_of_ble_eq_true rfl) ⟨rfl, rfl⟩ (fun zq1 => ?_)
  refine mw_if_ne (tgt := 12) dX6_cell_6 (by decide) (fun hc19 => ?_) (fun hc19 => ?_)
  · replace h := mh_ifn hc19 h
    refine mw_aload_n dX6_cell_12 0 rfl ?_
    refine mw_getr (b := 9) (fs := fsX6) gf_X6_34 dX6_cell_13 rfl rfl ?_
    refine mw_iload_n dX6_cell_16 1 rfl ?_
    obtain ⟨k2, hk3, hk3n, hk3l, h⟩ := mh_ix_some h
    refine mw_xiald dX6_cell_17 rfl hk3 hk3n ?_
    refine mw_iconst (v := -1) dX6_cell_18 (by decide) ?_
    refine mw_icmp_ne (tgt := 25) dX6_cell_19 (by decide) (fun hc18 => ?_) (fun hc18 => ?_)
    · replace h := mh_ifn hc18 h
      refine mw_iload_n dX6_cell_25 2 rfl ?_
      refine mw_iconst (v := 0) dX6_cell_26 (by decide) ?_
      refine mw_aload_n dX6_cell_27 0 rfl ?_
      refine mw_getr (b := 10) (fs := fsX6) gf_X6_37 dX6_cell_28 rfl rfl ?_
      refine mw_iload_n dX6_cell_31 1 rfl ?_
      obtain ⟨k4, hk5, hk5n, hk5l, h⟩ := mh_ix_some h
      refine mw_xiald dX6_cell_32 rfl hk5 hk5n ?_
      refine mw_iconst (v := 1) dX6_cell_33 (by decide) ?_
      refine mw_isub dX6_cell_34 ?_
      obtain ⟨q6, hq6, h⟩ := mh_bind h
      refine mw_sz (dc := 0) cs_X6_69 wd_722 dX6_cell_35 [.int p2, .int (0 : Int32), .int ((I 10 k4) - (1 : Int32))] [.int ((I 10 k4) - (1 : Int32)), .int (0 : Int32), .int p2] rfl rfl (t_X6_in hq6) ⟨by decide, by decide⟩ (Nat.le_of_ble_eq_true rfl) ⟨rfl, rfl⟩ (fun zq6 => ?_)
      refine mw_if_ne (tgt := 44) dX6_cell_38 (by decide) (fun hc17 => ?_) (fun hc17 => ?_)
      · replace h := mh_ifn hc17 h
        refine mw_aload_n dX6_cell_44 0 rfl ?_
        refine mw_getr (b := 11) (fs := fsX6) gf_X6_40 dX6_cell_45 rfl rfl ?_
        refine mw_bipush (v := 48) dX6_cell_48 (by decide) ?_
        refine mw_iload_n dX6_cell_50 1 rfl ?_
        refine mw_imul dX6_cell_51 ?_
        refine mw_iload_n dX6_cell_52 2 rfl ?_
        refine mw_iadd dX6_cell_53 ?_
        refine mw_aload_n dX6_cell_54 0 rfl ?_
        refine mw_getr (b := 9) (fs := fsX6) gf_X6_34 dX6_cell_55 rfl rfl ?_
        refine mw_iload_n dX6_cell_58 1 rfl ?_
        obtain ⟨k7, hk8, hk8n, hk8l, h⟩ := mh_ix_some h
        refine mw_xiald dX6_cell_59 rfl hk8 hk8n ?_
        refine mh_jw (fun J10 => ∀ (s9 : Int32), J10 s9 = some res → w_X6_cell SHM (mh_ret (some (.int res.1)) SHM res.2 L) I L 84 [] [.int s9, .int (((48 : Int32) * p1) + p2), .ref 11]) h (fun s9 h => ?_) (fun J10 hJ10 h => ?_)
        · obtain ⟨k15, hk16, hk16n, hk16l, h⟩ := mh_ix_some h
          refine mw_xiast dX6_cell_84 rfl hk16 hk16n ?_
          refine mw_iconst (v := 1) dX6_cell_85 (by decide) ?_
          obtain rfl := Option.some.inj h
          exact mw_iret dX6_cell_86 rfl rfl (Nat.le_of_ble_eq_true rfl) (Nat.le_refl 0) mh_ret_rfl
        · refine mw_if_ne (tgt := 68) dX6_cell_60 (by decide) (fun hc14 => ?_) (fun hc14 => ?_)
          · replace h := mh_ifn hc14 h
            refine mw_aload_n dX6_cell_68 0 rfl ?_
            refine mw_getr (b := 9) (fs := fsX6) gf_X6_34 dX6_cell_69 rfl rfl ?_
            refine mw_iload_n dX6_cell_72 1 rfl ?_
            obtain ⟨k11, hk12, hk12n, hk12l, h⟩ := mh_ix_some h
            refine mw_xiald dX6_cell_73 rfl hk12 hk12n ?_
            refine mw_iconst (v := 1) dX6_cell_74 (by decide) ?_
            refine mw_icmp_ne (tgt := 83) dX6_cell_75 (by decide) (fun hc13 => ?_) (fun hc13 => ?_)
            · replace h := mh_ifn hc13 h
              refine mw_iload_n dX6_cell_83 3 rfl ?_
              refine mw_loc [] rfl ?_
              exact hJ10 _ h
            · replace h := mh_ifp hc13 h
              refine mw_iload_n dX6_cell_78 3 rfl ?_
              refine mw_i2s dX6_cell_79 ?_
              refine mw_goto (tgt := 84) dX6_cell_80 (by decide) ?_
              refine mw_loc [] rfl ?_
              exact hJ10 _ h
          · replace h := mh_ifp hc14 h
            refine mw_iload_n dX6_cell_63 3 rfl ?_
            refine mw_i2b dX6_cell_64 ?_
            refine mw_goto (tgt := 84) dX6_cell_65 (by decide) ?_
            refine mw_loc [] rfl ?_
            exact hJ10 _ h
      · replace h := mh_ifp hc17 h
        refine mw_bipush (v := -12) dX6_cell_41 (by decide) ?_
        obtain rfl := Option.some.inj h
        exact mw_iret dX6_cell_43 rfl rfl (Nat.le_of_ble_eq_true rfl) (Nat.le_refl 0) mh_ret_rfl
    · replace h := mh_ifp hc18 h
      refine mw_bipush (v := -11) dX6_cell_22 (by decide) ?_
      obtain rfl := Option.some.inj h
      exact mw_iret dX6_cell_24 rfl rfl (Nat.le_of_ble_eq_true rfl) (Nat.le_refl 0) mh_ret_rfl
  · replace h := mh_ifp hc19 h
    refine mw_bipush (v := -2) dX6_cell_9 (by decide) ?_
    obtain rfl := Option.some.inj h
    exact mw_iret dX6_cell_11 rfl rfl (Nat.le_of_ble_eq_true rfl) (Nat.le_refl 0) mh_ret_rfl
abbrev w_X6_copy (sh : List mh_C) (Φ : mh_P) (I : mh_I) (L : mh_L) (pc : Nat) (lv : List (Nat × Value)) (st : List Value) : Prop := mh_W RX6 cX6_copy 10 (some .int) false (mh_rm 1) 18 0 0 mh_noX Φ 0 sh I L pc lv st
def X6_copy_l147 (u5 : Int32) (u6 : Int32) (u7 : Int32) : Nat → Int32 → mh_I → Option (Int32 × mh_I)
  | 0, _, _ => none
  | n + 1, u8, I => if u5 ≤ u8 then some (u5, I) else mh_j (fun (s21 : Int32) => mh_ix (u6 + s21) 192 (fun k24 => mh_ix (u7 + s21) 192 (fun k26 => mh_b (u8 + (1 : Int32)) (fun b28 => (X6_copy_l147 u5 u6 u7 n b28 (mh_u I 11 k26 (I 11 k24))))))) (fun J22 => if u7 ≤ u6 then (J22 u8) else (J22 ((u5 - (1 : Int32)) - u8)))
set_option maxHeartbeats 4000000 in
set_option maxRecDepth 100000 in
theorem t_X6_copy_l147 {u5 : Int32} {u6 : Int32} {u7 : Int32} {L : mh_L} {res : Int32 × mh_I} (n : Nat) (u8 : Int32) (I : mh_I) (h : X6_copy_l147 u5 u6 u7 n u8 I = some res)  : w_X6_copy SHM (mh_ret (some (.int res.1)) SHM res.2 L) I L 147 [(0, .ref 0), (5, .int u5), (6, .int u6), (7, .int u7), (8, .int u8)] [] := by
  induction n generalizing u8 I with
  | zero => rw [X6_copy_l147] at h; cases h
  | succ n ih =>
    rw [X6_copy_l147] at h
    refine mw_iload dX6_copy_147 4 rfl ?_
    refine mw_iload dX6_copy_149 1 rfl ?_
    refine mw_icmp_ge (tgt := 201) dX6_copy_151 (by decide) (fun hc29 => ?_) (fun hc29 => ?_)
    · replace h := mh_ifp hc29 h
      refine mw_iload dX6_copy_201 1 rfl ?_
      obtain rfl := Option.some.inj h
      exact mw_iret dX6_copy_203 rfl rfl (Nat.le_of_ble_eq_true rfl) (Nat.le_refl 0) mh_ret_rfl
    · replace h := mh_ifn hc29 h
      refine mw_iload dX6_copy_154 2 rfl ?_
      refine mw_iload dX6_copy_156 3 rfl ?_
      refine mh_jw (fun J22 => ∀ (s21 : Int32), J22 s21 = some res → w_X6_copy SHM (mh_ret (some (.int res.1)) SHM res.2 L) I L 173 [(0, .ref 0), (5, .int u5), (6, .int u6), (7, .int u7), (8, .int u8)] [.int s21]) h (fun s21 h => ?_) (fun J22 hJ22 h => ?_)
      · refine mw_istore dX6_copy_173 (by decide) rfl ?_
        refine mw_aload_n dX6_copy_175 1 rfl ?_
        refine mw_getr (b := 11) (fs := fsX6) gf_X6_40 dX6_copy_176 rfl rfl ?_
        refine mw_iload dX6_copy_179 4 rfl ?_
        refine mw_iload dX6_copy_181 0 rfl ?_
        refine mw_iadd dX6_copy_183 ?_
        refine mw_aload_n dX6_copy_184 1 rfl ?_
        refine mw_getr (b := 11) (fs := fsX6) gf_X6_40 dX6_copy_185 rfl rfl ?_
        refine mw_iload dX6_copy_188 3 rfl ?_
        refine mw_iload dX6_copy_190 0 rfl ?_
        refine mw_iadd dX6_copy_192 ?_
        obtain ⟨k24, hk25, hk25n, hk25l, h⟩ := mh_ix_some h
        refine mw_xiald dX6_copy_193 rfl hk25 hk25n ?_
        obtain ⟨k26, hk27, hk27n, hk27l, h⟩ := mh_ix_some h
        refine mw_xiast dX6_copy_194 rfl hk27 hk27n ?_
        obtain ⟨b28, eb28, h⟩ := mh_b_some h
        refine mw_iinc (v := b28) dX6_copy_195 5 rfl (by rw [← eb28]; rfl) (by decide) rfl ?_
        refine mw_goto (tgt := 147) dX6_copy_198 (by decide) ?_
        refine mw_loc [2, 3, 4, 5, 0] rfl ?_
        exact ih _ _ h
      · refine mw_icmp_ge (tgt := 171) dX6_copy_158 (by decide) (fun hc23 => ?_) (fun hc23 => ?_)
        · replace h := mh_ifp hc23 h
          refine mw_iload dX6_copy_171 4 rfl ?_
          refine mw_loc [0, 1, 2, 3, 4] rfl ?_
          exact hJ22 _ h
        · replace h := mh_ifn hc23 h
          refine mw_iload dX6_copy_161 1 rfl ?_
          refine mw_iconst (v := 1) dX6_copy_163 (by decide) ?_
          refine mw_isub dX6_copy_164 ?_
          refine mw_iload dX6_copy_165 4 rfl ?_
          refine mw_isub dX6_copy_167 ?_
          refine mw_goto (tgt := 173) dX6_copy_168 (by decide) ?_
          refine mw_loc [0, 1, 2, 3, 4] rfl ?_
          exact hJ22 _ h
def X6_copy (p1 : Int32) (p2 : Int32) (p3 : Int32) (p4 : Int32) (p5 : Int32) (I : mh_I) : Option (Int32 × mh_I) := (X6_in p1 (0 : Int32) (3 : Int32)).bind (fun q1 => if q1 = 0 then some ((-2 : Int32), I) else (X6_in p3 (0 : Int32) (3 : Int32)).bind (fun q2 => if q2 = 0 then some ((-2 : Int32), I) else mh_ix p1 4 (fun k3 => if (I 9 k3) = (-1 : Int32) then some ((-11 : Int32), I) else mh_ix p3 4 (fun k5 => if (I 9 k5) = (-1 : Int32) then some ((-11 : Int32), I) else mh_ix p1 4 (fun k7 => mh_ix p3 4 (fun k9 => if (I 9 k7) = (I 9 k9) then if p5 < 0 then some ((-12 : Int32), I) else if p2 < 0 then some ((-12 : Int32), I) else if p4 < 0 then some ((-12 : Int32), I) else mh_ix p1 4 (fun k11 => if (I 10 k11) < p2 then some ((-12 : Int32), I) else mh_ix p3 4 (fun k13 => if (I 10 k13) < p4 then some ((-12 : Int32), I) else mh_ix p1 4 (fun k15 => if ((I 10 k15) - p2) < p5 then some ((-12 : Int32), I) else mh_ix p3 4 (fun k17 => if p5 ≤ ((I 10 k17) - p4) then mh_b (((48 : Int32) * p1) + p2) (fun b19 => mh_b (((48 : Int32) * p3) + p4) (fun b20 => X6_copy_l147 p5 b19 b20 mh_fuel (0 : Int32) I)) else some ((-12 : Int32), I))))) else some ((-13 : Int32), I)))))))
set_option maxHeartbeats 4000000 in
set_option maxRecDepth 100000 in
theorem t_X6_copy {L : mh_L} {I : mh_I} {p1 : Int32} {p2 : Int32} {p3 : Int32} {p4 : Int32} {p5 : Int32} {res : Int32 × mh_I} (h : X6_copy p1 p2 p3 p4 p5 I = some res) : mh_CT yX6_copy cX6_copy 10 (some .int) (mh_rm 1) SHM I L [.ref 0, .int p1, .int p2, .int p3, .int p4, .int p5] (mh_ret (some (.int res.1)) SHM res.2 L) := by
  refine mh_ofW (ini := false) RX6 rfl (by decide) (fun h => by cases h) (Nat.le_of_ble_eq_true rfl) ?_
  show w_X6_copy SHM (mh_ret (some (.int res.1)) SHM res.2 L) I L 0 [(0, .ref 0), (1, .int p1), (2, .int p2), (3, .int p3), (4, .int p4), (5, .int p5)] []
  unfold X6_copy at h
  refine mw_iload_n dX6_copy_0 1 rfl ?_
  refine mw_iconst (v := 0) dX6_copy_1 (by decide) ?_
  refine mw_iconst (v := 3) dX6_copy_2 (by decide) ?_
  obtain ⟨q1, hq1, h⟩ := mh_bind h
  refine mw_sz (dc := 0) cs_X6_69 wd_722 dX6_copy_3 [.int p1, .int (0 : Int32), .int (3 : Int32)] [.int (3 : Int32), .int (0 : Int32), .int p1] rfl rfl (t_X6_in hq1) ⟨by decide, by decide⟩ (Nat.le_of_ble_eq_true rfl) ⟨rfl, rfl⟩ (fun zq1 => ?_)
  refine mw_if_eq (tgt := 18) dX6_copy_6 (by decide) (fun hc41 => ?_) (fun hc41 => ?_)
  · replace h := mh_ifp hc41 h
    refine mw_bipush (v := -2) dX6_copy_18 (by decide) ?_
    obtain rfl := Option.some.inj h
    exact mw_iret dX6_copy_20 rfl rfl (Nat.le_of_ble_eq_true rfl) (Nat.le_refl 0) mh_ret_rfl
  · replace h := mh_ifn hc41 h
    refine mw_iload_n dX6_copy_9 3 rfl ?_
    refine mw_iconst (v := 0) dX6_copy_10 (by decide) ?_
    refine mw_iconst (v := 3) dX6_copy_11 (by decide) ?_
    obtain ⟨q2, hq2, h⟩ := mh_bind h
    refine mw_sz (dc := 0) cs_X6_69 wd_722 dX6_copy_12 [.int p3, .int (0 : Int32), .int (3 : Int32)] [.int (3 : Int32), .int (0 : Int32), .int p3] rfl rfl (t_X6_in hq2) ⟨by decide, by decide⟩ (Nat.le_of_ble_eq_true rfl) ⟨rfl, rfl⟩ (fun zq2 => ?_)
    refine mw_if_ne (tgt := 21) dX6_copy_15 (by decide) (fun hc40 => ?_) (fun hc40 => ?_)
    · replace h := mh_ifn hc40 h
      refine mw_aload_n dX6_copy_21 0 rfl ?_
      refine mw_getr (b := 9) (fs := fsX6) gf_X6_34 dX6_copy_22 rfl rfl ?_
      refine mw_iload_n dX6_copy_25 1 rfl ?_
      obtain ⟨k3, hk4, hk4n, hk4l, h⟩ := mh_ix_some h
      refine mw_xiald dX6_copy_26 rfl hk4 hk4n ?_
      refine mw_iconst (v := -1) dX6_copy_27 (by decide) ?_
      refine mw_icmp_eq (tgt := 41) dX6_copy_28 (by decide) (fun hc39 => ?_) (fun hc39 => ?_)
      · replace h := mh_ifp hc39 h
        refine mw_bipush (v := -11) dX6_copy_41 (by decide) ?_
        obtain rfl := Option.some.inj h
        exact mw_iret dX6_copy_43 rfl rfl (Nat.le_of_ble_eq_true rfl) (Nat.le_refl 0) mh_ret_rfl
      · replace h := mh_ifn hc39 h
        refine mw_aload_n dX6_copy_31 0 rfl ?_
        refine mw_getr (b := 9) (fs := fsX6) gf_X6_34 dX6_copy_32 rfl rfl ?_
        refine mw_iload_n dX6_copy_35 3 rfl ?_
        obtain ⟨k5, hk6, hk6n, hk6l, h⟩ := mh_ix_some h
        refine mw_xiald dX6_copy_36 rfl hk6 hk6n ?_
        refine mw_iconst (v := -1) dX6_copy_37 (by decide) ?_
        refine mw_icmp_ne (tgt := 44) dX6_copy_38 (by decide) (fun hc38 => ?_) (fun hc38 => ?_)
        · replace h := mh_ifn hc38 h
          refine mw_aload_n dX6_copy_44 0 rfl ?_
          refine mw_getr (b := 9) (fs := fsX6) gf_X6_34 dX6_copy_45 rfl rfl ?_
          refine mw_iload_n dX6_copy_48 1 rfl ?_
          obtain ⟨k7, hk8, hk8n, hk8l, h⟩ := mh_ix_some h
          refine mw_xiald dX6_copy_49 rfl hk8 hk8n ?_
          refine mw_aload_n dX6_copy_50 0 rfl ?_
          refine mw_getr (b := 9) (fs := fsX6) gf_X6_34 dX6_copy_51 rfl rfl ?_
          refine mw_iload_n dX6_copy_54 3 rfl ?_
          obtain ⟨k9, hk10, hk10n, hk10l, h⟩ := mh_ix_some h
          refine mw_xiald dX6_copy_55 rfl hk10 hk10n ?_
          refine mw_icmp_eq (tgt := 62) dX6_copy_56 (by decide) (fun hc37 => ?_) (fun hc37 => ?_)
          · replace h := mh_ifp hc37 h
            refine mw_iload dX6_copy_62 5 rfl ?_
            refine mw_if_lt (tgt := 124) dX6_copy_64 (by decide) (fun hc36 => ?_) (fun hc36 => ?_)
            · replace h := mh_ifp hc36 h
              refine mw_bipush (v := -12) dX6_copy_124 (by decide) ?_
              obtain rfl := Option.some.inj h
              exact mw_iret dX6_copy_126 rfl rfl (Nat.le_of_ble_eq_true rfl) (Nat.le_refl 0) mh_ret_rfl
            · replace h := mh_ifn hc36 h
              refine mw_iload_n dX6_copy_67 2 rfl ?_
              refine mw_if_lt (tgt := 124) dX6_copy_68 (by decide) (fun hc35 => ?_) (fun hc35 => ?_)
              · replace h := mh_ifp hc35 h
                refine mw_bipush (v := -12) dX6_copy_124 (by decide) ?_
                obtain rfl := Option.some.inj h
                exact mw_iret dX6_copy_126 rfl rfl (Nat.le_of_ble_eq_true rfl) (Nat.le_refl 0) mh_ret_rfl
              · replace h := mh_ifn hc35 h
                refine mw_iload dX6_copy_71 4 rfl ?_
                refine mw_if_lt (tgt := 124) dX6_copy_73 (by decide) (fun hc34 => ?_) (fun hc34 => ?_)
                · replace h := mh_ifp hc34 h
                  refine mw_bipush (v := -12) dX6_copy_124 (by decide) ?_
                  obtain rfl := Option.some.inj h
                  exact mw_iret dX6_copy_126 rfl rfl (Nat.le_of_ble_eq_true rfl) (Nat.le_refl 0) mh_ret_rfl
                · replace h := mh_ifn hc34 h
                  refine mw_iload_n dX6_copy_76 2 rfl ?_
                  refine mw_aload_n dX6_copy_77 0 rfl ?_
                  refine mw_getr (b := 10) (fs := fsX6) gf_X6_37 dX6_copy_78 rfl rfl ?_
                  refine mw_iload_n dX6_copy_81 1 rfl ?_
                  obtain ⟨k11, hk12, hk12n, hk12l, h⟩ := mh_ix_some h
                  refine mw_xiald dX6_copy_82 rfl hk12 hk12n ?_
                  refine mw_icmp_gt (tgt := 124) dX6_copy_83 (by decide) (fun hc33 => ?_) (fun hc33 => ?_)
                  · replace h := mh_ifp hc33 h
                    refine mw_bipush (v := -12) dX6_copy_124 (by decide) ?_
                    obtain rfl := Option.some.inj h
                    exact mw_iret dX6_copy_126 rfl rfl (Nat.le_of_ble_eq_true rfl) (Nat.le_refl 0) mh_ret_rfl
                  · replace h := mh_ifn hc33 h
                    refine mw_iload dX6_copy_86 4 rfl ?_
                    refine mw_aload_n dX6_copy_88 0 rfl ?_
                    refine mw_getr (b := 10) (fs := fsX6) gf_X6_37 dX6_copy_89 rfl rfl ?_
                    refine mw_iload_n dX6_copy_92 3 rfl ?_
                    obtain ⟨k13, hk14, hk14n, hk14l, h⟩ := mh_ix_some h
                    refine mw_xiald dX6_copy_93 rfl hk14 hk14n ?_
                    refine mw_icmp_gt (tgt := 124) dX6_copy_94 (by decide) (fun hc32 => ?_) (fun hc32 => ?_)
                    · replace h := mh_ifp hc32 h
                      refine mw_bipush (v := -12) dX6_copy_124 (by decide) ?_
                      obtain rfl := Option.some.inj h
                      exact mw_iret dX6_copy_126 rfl rfl (Nat.le_of_ble_eq_true rfl) (Nat.le_refl 0) mh_ret_rfl
                    · replace h := mh_ifn hc32 h
                      refine mw_iload dX6_copy_97 5 rfl ?_
                      refine mw_aload_n dX6_copy_99 0 rfl ?_
                      refine mw_getr (b := 10) (fs := fsX6) gf_X6_37 dX6_copy_100 rfl rfl ?_
                      refine mw_iload_n dX6_copy_103 1 rfl ?_
                      obtain ⟨k15, hk16, hk16n, hk16l, h⟩ := mh_ix_some h
                      refine mw_xiald dX6_copy_104 rfl hk16 hk16n ?_
                      refine mw_iload_n dX6_copy_105 2 rfl ?_
                      refine mw_isub dX6_copy_106 ?_
                      refine mw_icmp_gt (tgt := 124) dX6_copy_107 (by decide) (fun hc31 => ?_) (fun hc31 => ?_)
                      · replace h := mh_ifp hc31 h
                        refine mw_bipush (v := -12) dX6_copy_124 (by decide) ?_
                        obtain rfl := Option.some.inj h
                        exact mw_iret dX6_copy_126 rfl rfl (Nat.le_of_ble_eq_true rfl) (Nat.le_refl 0) mh_ret_rfl
                      · replace h := mh_ifn hc31 h
                        refine mw_iload dX6_copy_110 5 rfl ?_
                        refine mw_aload_n dX6_copy_112 0 rfl ?_
                        refine mw_getr (b := 10) (fs := fsX6) gf_X6_37 dX6_copy_113 rfl rfl ?_
                        refine mw_iload_n dX6_copy_116 3 rfl ?_
                        obtain ⟨k17, hk18, hk18n, hk18l, h⟩ := mh_ix_some h
                        refine mw_xiald dX6_copy_117 rfl hk18 hk18n ?_
                        refine mw_iload dX6_copy_118 4 rfl ?_
                        refine mw_isub dX6_copy_120 ?_
                        refine mw_icmp_le (tgt := 127) dX6_copy_121 (by decide) (fun hc30 => ?_) (fun hc30 => ?_)
                        · replace h := mh_ifp hc30 h
                          refine mw_bipush (v := 48) dX6_copy_127 (by decide) ?_
                          refine mw_iload_n dX6_copy_129 1 rfl ?_
                          refine mw_imul dX6_copy_130 ?_
                          refine mw_iload_n dX6_copy_131 2 rfl ?_
                          refine mw_iadd dX6_copy_132 ?_
                          obtain ⟨b19, eb19, h⟩ := mh_b_some h
                          refine mw_nmi eb19 ?_
                          refine mw_istore dX6_copy_133 (by decide) rfl ?_
                          refine mw_bipush (v := 48) dX6_copy_135 (by decide) ?_
                          refine mw_iload_n dX6_copy_137 4 rfl ?_
                          refine mw_imul dX6_copy_138 ?_
                          refine mw_iload dX6_copy_139 5 rfl ?_
                          refine mw_iadd dX6_copy_141 ?_
                          obtain ⟨b20, eb20, h⟩ := mh_b_some h
                          refine mw_nmi eb20 ?_
                          refine mw_istore dX6_copy_142 (by decide) rfl ?_
                          refine mw_iconst (v := 0) dX6_copy_144 (by decide) ?_
                          refine mw_istore dX6_copy_145 (by decide) rfl ?_
                          refine mw_loc [3, 8, 2, 1, 0] rfl ?_
                          exact t_X6_copy_l147  _ _ _ h 
                        · replace h := mh_ifn hc30 h
                          refine mw_bipush (v := -12) dX6_copy_124 (by decide) ?_
                          obtain rfl := Option.some.inj h
                          exact mw_iret dX6_copy_126 rfl rfl (Nat.le_of_ble_eq_true rfl) (Nat.le_refl 0) mh_ret_rfl
          · replace h := mh_ifn hc37 h
            refine mw_bipush (v := -13) dX6_copy_59 (by decide) ?_
            obtain rfl := Option.some.inj h
            exact mw_iret dX6_copy_61 rfl rfl (Nat.le_of_ble_eq_true rfl) (Nat.le_refl 0) mh_ret_rfl
        · replace h := mh_ifp hc38 h
          refine mw_bipush (v := -11) dX6_copy_41 (by decide) ?_
          obtain rfl := Option.some.inj h
          exact mw_iret dX6_copy_43 rfl rfl (Nat.le_of_ble_eq_true rfl) (Nat.le_refl 0) mh_ret_rfl
    · replace h := mh_ifp hc40 h
      refine mw_bipush (v := -2) dX6_copy_18 (by decide) ?_
      obtain rfl := Option.some.inj h
      exact mw_iret dX6_copy_20 rfl rfl (Nat.le_of_ble_eq_true rfl) (Nat.le_refl 0) mh_ret_rfl
abbrev w_X6_knits (sh : List mh_C) (Φ : mh_P) (I : mh_I) (L : mh_L) (pc : Nat) (lv : List (Nat × Value)) (st : List Value) : Prop := mh_W RX6 cX6_knits 9 (some .int) false (mh_rm 3) 18 0 0 mh_noX Φ 0 sh I L pc lv st
def X6_knits_l64 (u1 : Int32) (u3 : Int32) (u4 : Int32) : Nat → Int32 → Int32 → mh_I → Option (Int32 × mh_I)
  | 0, _, _, _ => none
  | n + 1, u5, u6, I => if u4 ≤ u6 then some (u5, I) else mh_b (u3 + ((3 : Int32) * u6)) (fun b8 => if u3 < 0 then some ((-12 : Int32), I) else if b8 < u3 then some ((-12 : Int32), I) else mh_ix u1 4 (fun k9 => if b8 ≤ ((I 10 k9) - (3 : Int32)) then mh_b (((48 : Int32) * u1) + b8) (fun b11 => mh_ix b11 192 (fun k12 => mh_ix (b11 + (1 : Int32)) 192 (fun k14 => mh_ix (b11 + (2 : Int32)) 192 (fun k16 => (X6_knit (I 11 k12) (I 11 k14) (I 11 k16) I).bind (fun q18 => mh_j (fun (s19 : Int32) => mh_b (u5 + s19) (fun b22 => mh_b (u6 + (1 : Int32)) (fun b23 => (X6_knits_l64 u1 u3 u4 n b22 b23 q18.2)))) (fun J20 => if q18.1 < 0 then (J20 (0 : Int32)) else (J20 (1 : Int32)))))))) else some ((-12 : Int32), I)))
set_option maxHeartbeats 4000000 in
set_option maxRecDepth 100000 in
theorem t_X6_knits_l64 {u1 : Int32} {u3 : Int32} {u4 : Int32} {L : mh_L} {res : Int32 × mh_I} (n : Nat) (u5 : Int32) (u6 : Int32) (I : mh_I) (h : X6_knits_l64 u1 u3 u4 n u5 u6 I = some res)  : w_X6_knits SHM (mh_ret (some (.int res.1)) SHM res.2 L) I L 64 [(0, .ref 0), (1, .int u1), (3, .int u3), (4, .int u4), (5, .int u5), (6, .int u6)] [] := by
  induction n generalizing u5 u6 I with
  | zero => rw [X6_knits_l64] at h; cases h
  | succ n ih =>
    rw [X6_knits_l64] at h
    refine mw_iload dX6_knits_64 5 rfl ?_
    refine mw_iload dX6_knits_66 3 rfl ?_
    refine mw_icmp_ge (tgt := 162) dX6_knits_68 (by decide) (fun hc27 => ?_) (fun hc27 => ?_)
    · replace h := mh_ifp hc27 h
      refine mw_iload dX6_knits_162 4 rfl ?_
      obtain rfl := Option.some.inj h
      exact mw_iret dX6_knits_164 rfl rfl (Nat.le_of_ble_eq_true rfl) (Nat.le_refl 0) mh_ret_rfl
    · replace h := mh_ifn hc27 h
      refine mw_iload_n dX6_knits_71 2 rfl ?_
      refine mw_iconst (v := 3) dX6_knits_72 (by decide) ?_
      refine mw_iload dX6_knits_73 5 rfl ?_
      refine mw_imul dX6_knits_75 ?_
      refine mw_iadd dX6_knits_76 ?_
      obtain ⟨b8, eb8, h⟩ := mh_b_some h
      refine mw_nmi eb8 ?_
      refine mw_istore dX6_knits_77 (by decide) rfl ?_
      refine mw_iload_n dX6_knits_79 3 rfl ?_
      refine mw_if_lt (tgt := 102) dX6_knits_80 (by decide) (fun hc26 => ?_) (fun hc26 => ?_)
      · replace h := mh_ifp hc26 h
        refine mw_bipush (v := -12) dX6_knits_102 (by decide) ?_
        obtain rfl := Option.some.inj h
        exact mw_iret dX6_knits_104 rfl rfl (Nat.le_of_ble_eq_true rfl) (Nat.le_refl 0) mh_ret_rfl
      · replace h := mh_ifn hc26 h
        refine mw_iload dX6_knits_83 0 rfl ?_
        refine mw_iload_n dX6_knits_85 3 rfl ?_
        refine mw_icmp_lt (tgt := 102) dX6_knits_86 (by decide) (fun hc25 => ?_) (fun hc25 => ?_)
        · replace h := mh_ifp hc25 h
          refine mw_bipush (v := -12) dX6_knits_102 (by decide) ?_
          obtain rfl := Option.some.inj h
          exact mw_iret dX6_knits_104 rfl rfl (Nat.le_of_ble_eq_true rfl) (Nat.le_refl 0) mh_ret_rfl
        · replace h := mh_ifn hc25 h
          refine mw_iload dX6_knits_89 0 rfl ?_
          refine mw_aload_n dX6_knits_91 1 rfl ?_
          refine mw_getr (b := 10) (fs := fsX6) gf_X6_37 dX6_knits_92 rfl rfl ?_
          refine mw_iload_n dX6_knits_95 2 rfl ?_
          obtain ⟨k9, hk10, hk10n, hk10l, h⟩ := mh_ix_some h
          refine mw_xiald dX6_knits_96 rfl hk10 hk10n ?_
          refine mw_iconst (v := 3) dX6_knits_97 (by decide) ?_
          refine mw_isub dX6_knits_98 ?_
          refine mw_icmp_le (tgt := 105) dX6_knits_99 (by decide) (fun hc24 => ?_) (fun hc24 => ?_)
          · replace h := mh_ifp hc24 h
            refine mw_bipush (v := 48) dX6_knits_105 (by decide) ?_
            refine mw_iload_n dX6_knits_107 2 rfl ?_
            refine mw_imul dX6_knits_108 ?_
            refine mw_iload dX6_knits_109 0 rfl ?_
            refine mw_iadd dX6_knits_111 ?_
            obtain ⟨b11, eb11, h⟩ := mh_b_some h
            refine mw_nmi eb11 ?_
            refine mw_istore dX6_knits_112 (by decide) rfl ?_
            refine mw_iload dX6_knits_114 6 rfl ?_
            refine mw_aload_n dX6_knits_116 2 rfl ?_
            refine mw_aload_n dX6_knits_117 2 rfl ?_
            refine mw_getr (b := 11) (fs := fsX6) gf_X6_40 dX6_knits_118 rfl rfl ?_
            refine mw_iload dX6_knits_121 0 rfl ?_
            obtain ⟨k12, hk13, hk13n, hk13l, h⟩ := mh_ix_some h
            refine mw_xiald dX6_knits_123 rfl hk13 hk13n ?_
            refine mw_aload_n dX6_knits_124 2 rfl ?_
            refine mw_getr (b := 11) (fs := fsX6) gf_X6_40 dX6_knits_125 rfl rfl ?_
            refine mw_iload dX6_knits_128 0 rfl ?_
            refine mw_iconst (v := 1) dX6_knits_130 (by decide) ?_
            refine mw_iadd dX6_knits_131 ?_
            obtain ⟨k14, hk15, hk15n, hk15l, h⟩ := mh_ix_some h
            refine mw_xiald dX6_knits_132 rfl hk15 hk15n ?_
            refine mw_aload_n dX6_knits_133 2 rfl ?_
            refine mw_getr (b := 11) (fs := fsX6) gf_X6_40 dX6_knits_134 rfl rfl ?_
            refine mw_iload dX6_knits_137 0 rfl ?_
            refine mw_iconst (v := 2) dX6_knits_139 (by decide) ?_
            refine mw_iadd dX6_knits_140 ?_
            obtain ⟨k16, hk17, hk17n, hk17l, h⟩ := mh_ix_some h
            refine mw_xiald dX6_knits_141 rfl hk17 hk17n ?_
            obtain ⟨q18, hq18, h⟩ := mh_bind h
            refine mw_vr (dc := 2) (ci := 6) (fs := fsX6) (T := TX6) (N := 30) cv_X6_168 wd_900 dX6_knits_142 [.int (I 11 k12), .int (I 11 k14), .int (I 11 k16)] [.int (I 11 k16), .int (I 11 k14), .int (I 11 k12), .ref 0, .int u5] rfl rfl rfl rfl (t_X6_knit hq18) ⟨by decide, by decide⟩ (Nat.le_of_ble_eq_true rfl) ⟨rfl, rfl⟩ ?_
            refine mh_jw (fun J20 => ∀ (s19 : Int32), J20 s19 = some res → w_X6_knits SHM (mh_ret (some (.int res.1)) SHM res.2 L) q18.2 L 153 [(0, .ref 0), (1, .int u1), (3, .int u3), (4, .int u4), (6, .int u6)] [.int s19, .int u5]) h (fun s19 h => ?_) (fun J20 hJ20 h => ?_)
            · refine mw_iadd dX6_knits_153 ?_
              obtain ⟨b22, eb22, h⟩ := mh_b_some h
              refine mw_nmi eb22 ?_
              refine mw_istore dX6_knits_154 (by decide) rfl ?_
              obtain ⟨b23, eb23, h⟩ := mh_b_some h
              refine mw_iinc (v := b23) dX6_knits_156 5 rfl (by rw [← eb23]; rfl) (by decide) rfl ?_
              refine mw_goto (tgt := 64) dX6_knits_159 (by decide) ?_
              refine mw_loc [2, 3, 4, 5, 1, 0] rfl ?_
              exact ih _ _ _ h
            · refine mw_if_lt (tgt := 152) dX6_knits_145 (by decide) (fun hc21 => ?_) (fun hc21 => ?_)
              · replace h := mh_ifp hc21 h
                refine mw_iconst (v := 0) dX6_knits_152 (by decide) ?_
                refine mw_loc [2, 3, 4, 5, 7] rfl ?_
                exact hJ20 _ h
              · replace h := mh_ifn hc21 h
                refine mw_iconst (v := 1) dX6_knits_148 (by decide) ?_
                refine mw_goto (tgt := 153) dX6_knits_149 (by decide) ?_
                refine mw_loc [2, 3, 4, 5, 7] rfl ?_
                exact hJ20 _ h
          · replace h := mh_ifn hc24 h
            refine mw_bipush (v := -12) dX6_knits_102 (by decide) ?_
            obtain rfl := Option.some.inj h
            exact mw_iret dX6_knits_104 rfl rfl (Nat.le_of_ble_eq_true rfl) (Nat.le_refl 0) mh_ret_rfl
def X6_knits (p1 : Int32) (p2 : Int32) (p3 : Int32) (p4 : Int32) (I : mh_I) : Option (Int32 × mh_I) := (X6_in p1 (0 : Int32) (3 : Int32)).bind (fun q1 => if q1 = 0 then some ((-2 : Int32), I) else (X6_in p2 (0 : Int32) (2 : Int32)).bind (fun q2 => if q2 = 0 then some ((-2 : Int32), I) else (X6_in p4 (0 : Int32) (16 : Int32)).bind (fun q3 => if q3 = 0 then some ((-2 : Int32), I) else mh_ix p1 4 (fun k4 => if (I 9 k4) = (-1 : Int32) then some ((-11 : Int32), I) else mh_ix p1 4 (fun k6 => if (I 9 k6) = p2 then X6_knits_l64 p1 p3 p4 mh_fuel (0 : Int32) (0 : Int32) I else some ((-13 : Int32), I))))))
set_option maxHeartbeats 4000000 in
set_option maxRecDepth 100000 in
theorem t_X6_knits {L : mh_L} {I : mh_I} {p1 : Int32} {p2 : Int32} {p3 : Int32} {p4 : Int32} {res : Int32 × mh_I} (h : X6_knits p1 p2 p3 p4 I = some res) : mh_CT yX6_knits cX6_knits 9 (some .int) (mh_rm 3) SHM I L [.ref 0, .int p1, .int p2, .int p3, .int p4] (mh_ret (some (.int res.1)) SHM res.2 L) := by
  refine mh_ofW (ini := false) RX6 rfl (by decide) (fun h => by cases h) (Nat.le_of_ble_eq_true rfl) ?_
  show w_X6_knits SHM (mh_ret (some (.int res.1)) SHM res.2 L) I L 0 [(0, .ref 0), (1, .int p1), (2, .int p2), (3, .int p3), (4, .int p4)] []
  unfold X6_knits at h
  refine mw_iload_n dX6_knits_0 1 rfl ?_
  refine mw_iconst (v := 0) dX6_knits_1 (by decide) ?_
  refine mw_iconst (v := 3) dX6_knits_2 (by decide) ?_
  obtain ⟨q1, hq1, h⟩ := mh_bind h
  refine mw_sz (dc := 0) cs_X6_69 wd_722 dX6_knits_3 [.int p1, .int (0 : Int32), .int (3 : Int32)] [.int (3 : Int32), .int (0 : Int32), .int p1] rfl rfl (t_X6_in hq1) ⟨by decide, by decide⟩ (Nat.le_of_ble_eq_true rfl) ⟨rfl, rfl⟩ (fun zq1 => ?_)
  refine mw_if_eq (tgt := 29) dX6_knits_6 (by decide) (fun hc32 => ?_) (fun hc32 => ?_)
  · replace h := mh_ifp hc32 h
    refine mw_bipush (v := -2) dX6_knits_29 (by decide) ?_
    obtain rfl := Option.some.inj h
    exact mw_iret dX6_knits_31 rfl rfl (Nat.le_of_ble_eq_true rfl) (Nat.le_refl 0) mh_ret_rfl
  · replace h := mh_ifn hc32 h
    refine mw_iload_n dX6_knits_9 2 rfl ?_
    refine mw_iconst (v := 0) dX6_knits_10 (by decide) ?_
    refine mw_iconst (v := 2) dX6_knits_11 (by decide) ?_
    obtain ⟨q2, hq2, h⟩ := mh_bind h
    refine mw_sz (dc := 0) cs_X6_69 wd_722 dX6_knits_12 [.int p2, .int (0 : Int32), .int (2 : Int32)] [.int (2 : Int32), .int (0 : Int32), .int p2] rfl rfl (t_X6_in hq2) ⟨by decide, by decide⟩ (Nat.le_of_ble_eq_true rfl) ⟨rfl, rfl⟩ (fun zq2 => ?_)
    refine mw_if_eq (tgt := 29) dX6_knits_15 (by decide) (fun hc31 => ?_) (fun hc31 => ?_)
    · replace h := mh_ifp hc31 h
      refine mw_bipush (v := -2) dX6_knits_29 (by decide) ?_
      obtain rfl := Option.some.inj h
      exact mw_iret dX6_knits_31 rfl rfl (Nat.le_of_ble_eq_true rfl) (Nat.le_refl 0) mh_ret_rfl
    · replace h := mh_ifn hc31 h
      refine mw_iload dX6_knits_18 4 rfl ?_
      refine mw_iconst (v := 0) dX6_knits_20 (by decide) ?_
      refine mw_bipush (v := 16) dX6_knits_21 (by decide) ?_
      obtain ⟨q3, hq3, h⟩ := mh_bind h
      refine mw_sz (dc := 0) cs_X6_69 wd_722 dX6_knits_23 [.int p4, .int (0 : Int32), .int (16 : Int32)] [.int (16 : Int32), .int (0 : Int32), .int p4] rfl rfl (t_X6_in hq3) ⟨by decide, by decide⟩ (Nat.le_of_ble_eq_true rfl) ⟨rfl, rfl⟩ (fun zq3 => ?_)
      refine mw_if_ne (tgt := 32) dX6_knits_26 (by decide) (fun hc30 => ?_) (fun hc30 => ?_)
      · replace h := mh_ifn hc30 h
        refine mw_aload_n dX6_knits_32 0 rfl ?_
        refine mw_getr (b := 9) (fs := fsX6) gf_X6_34 dX6_knits_33 rfl rfl ?_
        refine mw_iload_n dX6_knits_36 1 rfl ?_
        obtain ⟨k4, hk5, hk5n, hk5l, h⟩ := mh_ix_some h
        refine mw_xiald dX6_knits_37 rfl hk5 hk5n ?_
        refine mw_iconst (v := -1) dX6_knits_38 (by decide) ?_
        refine mw_icmp_ne (tgt := 45) dX6_knits_39 (by decide) (fun hc29 => ?_) (fun hc29 => ?_)
        · replace h := mh_ifn hc29 h
          refine mw_aload_n dX6_knits_45 0 rfl ?_
          refine mw_getr (b := 9) (fs := fsX6) gf_X6_34 dX6_knits_46 rfl rfl ?_
          refine mw_iload_n dX6_knits_49 1 rfl ?_
          obtain ⟨k6, hk7, hk7n, hk7l, h⟩ := mh_ix_some h
          refine mw_xiald dX6_knits_50 rfl hk7 hk7n ?_
          refine mw_iload_n dX6_knits_51 2 rfl ?_
          refine mw_icmp_eq (tgt := 58) dX6_knits_52 (by decide) (fun hc28 => ?_) (fun hc28 => ?_)
          · replace h := mh_ifp hc28 h
            refine mw_iconst (v := 0) dX6_knits_58 (by decide) ?_
            refine mw_istore dX6_knits_59 (by decide) rfl ?_
            refine mw_iconst (v := 0) dX6_knits_61 (by decide) ?_
            refine mw_istore dX6_knits_62 (by decide) rfl ?_
            refine mw_loc [2, 3, 5, 6, 1, 0] rfl ?_
            exact t_X6_knits_l64  _ _ _ _ h 
          · replace h := mh_ifn hc28 h
            refine mw_bipush (v := -13) dX6_knits_55 (by decide) ?_
            obtain rfl := Option.some.inj h
            exact mw_iret dX6_knits_57 rfl rfl (Nat.le_of_ble_eq_true rfl) (Nat.le_refl 0) mh_ret_rfl
        · replace h := mh_ifp hc29 h
          refine mw_bipush (v := -11) dX6_knits_42 (by decide) ?_
          obtain rfl := Option.some.inj h
          exact mw_iret dX6_knits_44 rfl rfl (Nat.le_of_ble_eq_true rfl) (Nat.le_refl 0) mh_ret_rfl
      · replace h := mh_ifp hc30 h
        refine mw_bipush (v := -2) dX6_knits_29 (by decide) ?_
        obtain rfl := Option.some.inj h
        exact mw_iret dX6_knits_31 rfl rfl (Nat.le_of_ble_eq_true rfl) (Nat.le_refl 0) mh_ret_rfl
abbrev w_X6_isUnder (sh : List mh_C) (Φ : mh_P) (I : mh_I) (L : mh_L) (pc : Nat) (lv : List (Nat × Value)) (st : List Value) : Prop := mh_W RX6 cX6_isUnder 2 (some .boolean) false (mh_rm 0) 18 0 0 mh_noX Φ 0 sh I L pc lv st
def X6_isUnder (p0 : Int32) (p1 : Int32) : Option (Int32) := if p1 = 0 then some (1 : Int32) else if p0 = p1 then some (1 : Int32) else mh_j (if p1 = (2 : Int32) then if p0 = (3 : Int32) then some (1 : Int32) else some (0 : Int32) else some (0 : Int32)) (fun J1 => if p1 = (1 : Int32) then if p0 = (5 : Int32) then some (1 : Int32) else J1 else J1)
set_option maxHeartbeats 4000000 in
set_option maxRecDepth 100000 in
theorem t_X6_isUnder {L : mh_L} {I : mh_I} {p0 : Int32} {p1 : Int32} {res : Int32} (h : X6_isUnder p0 p1 = some res) : mh_CT yX6_isUnder cX6_isUnder 2 (some .boolean) (mh_rm 0) SHM I L [.int p0, .int p1] (mh_retz res SHM I L) := by
  refine mh_ofW (ini := false) RX6 rfl (by decide) (fun h => by cases h) (Nat.le_of_ble_eq_true rfl) ?_
  show w_X6_isUnder SHM (mh_retz res SHM I L) I L 0 [(0, .int p0), (1, .int p1)] []
  unfold X6_isUnder at h
  refine mw_iload_n dX6_isUnder_0 1 rfl ?_
  refine mw_if_eq (tgt := 29) dX6_isUnder_1 (by decide) (fun hc7 => ?_) (fun hc7 => ?_)
  · replace h := mh_ifp hc7 h
    refine mw_iconst (v := 1) dX6_isUnder_29 (by decide) ?_
    refine mw_goto (tgt := 34) dX6_isUnder_30 (by decide) ?_
    obtain rfl := Option.some.inj h
    exact mw_zret dX6_isUnder_34 rfl (Or.inr rfl) (Nat.le_of_ble_eq_true rfl) (Nat.le_refl 0) (mh_retz_rfl (Or.inr rfl))
  · replace h := mh_ifn hc7 h
    refine mw_iload_n dX6_isUnder_4 0 rfl ?_
    refine mw_iload_n dX6_isUnder_5 1 rfl ?_
    refine mw_icmp_eq (tgt := 29) dX6_isUnder_6 (by decide) (fun hc6 => ?_) (fun hc6 => ?_)
    · replace h := mh_ifp hc6 h
      refine mw_iconst (v := 1) dX6_isUnder_29 (by decide) ?_
      refine mw_goto (tgt := 34) dX6_isUnder_30 (by decide) ?_
      obtain rfl := Option.some.inj h
      exact mw_zret dX6_isUnder_34 rfl (Or.inr rfl) (Nat.le_of_ble_eq_true rfl) (Nat.le_refl 0) (mh_retz_rfl (Or.inr rfl))
    · replace h := mh_ifn hc6 h
      refine mw_iload_n dX6_isUnder_9 1 rfl ?_
      refine mw_iconst (v := 1) dX6_isUnder_10 (by decide) ?_
      refine mh_jw (fun J1 => J1 = some res → w_X6_isUnder SHM (mh_retz res SHM I L) I L 19 [(0, .int p0), (1, .int p1)] []) h (fun h => ?_) (fun J1 hJ1 h => ?_)
      · refine mw_iload_n dX6_isUnder_19 1 rfl ?_
        refine mw_iconst (v := 2) dX6_isUnder_20 (by decide) ?_
        refine mw_icmp_ne (tgt := 33) dX6_isUnder_21 (by decide) (fun hc5 => ?_) (fun hc5 => ?_)
        · replace h := mh_ifn hc5 h
          refine mw_iconst (v := 0) dX6_isUnder_33 (by decide) ?_
          obtain rfl := Option.some.inj h
          exact mw_zret dX6_isUnder_34 rfl (Or.inl rfl) (Nat.le_of_ble_eq_true rfl) (Nat.le_refl 0) (mh_retz_rfl (Or.inl rfl))
        · replace h := mh_ifp hc5 h
          refine mw_iload_n dX6_isUnder_24 0 rfl ?_
          refine mw_iconst (v := 3) dX6_isUnder_25 (by decide) ?_
          refine mw_icmp_ne (tgt := 33) dX6_isUnder_26 (by decide) (fun hc4 => ?_) (fun hc4 => ?_)
          · replace h := mh_ifn hc4 h
            refine mw_iconst (v := 0) dX6_isUnder_33 (by decide) ?_
            obtain rfl := Option.some.inj h
            exact mw_zret dX6_isUnder_34 rfl (Or.inl rfl) (Nat.le_of_ble_eq_true rfl) (Nat.le_refl 0) (mh_retz_rfl (Or.inl rfl))
          · replace h := mh_ifp hc4 h
            refine mw_iconst (v := 1) dX6_isUnder_29 (by decide) ?_
            refine mw_goto (tgt := 34) dX6_isUnder_30 (by decide) ?_
            obtain rfl := Option.some.inj h
            exact mw_zret dX6_isUnder_34 rfl (Or.inr rfl) (Nat.le_of_ble_eq_true rfl) (Nat.le_refl 0) (mh_retz_rfl (Or.inr rfl))
      · refine mw_icmp_ne (tgt := 19) dX6_isUnder_11 (by decide) (fun hc3 => ?_) (fun hc3 => ?_)
        · replace h := mh_ifn hc3 h
          refine mw_loc [0, 1] rfl ?_
          exact hJ1  h
        · replace h := mh_ifp hc3 h
          refine mw_iload_n dX6_isUnder_14 0 rfl ?_
          refine mw_iconst (v := 5) dX6_isUnder_15 (by decide) ?_
          refine mw_icmp_eq (tgt := 29) dX6_isUnder_16 (by decide) (fun hc2 => ?_) (fun hc2 => ?_)
          · replace h := mh_ifp hc2 h
            refine mw_iconst (v := 1) dX6_isUnder_29 (by decide) ?_
            refine mw_goto (tgt := 34) dX6_isUnder_30 (by decide) ?_
            obtain rfl := Option.some.inj h
            exact mw_zret dX6_isUnder_34 rfl (Or.inr rfl) (Nat.le_of_ble_eq_true rfl) (Nat.le_refl 0) (mh_retz_rfl (Or.inr rfl))
          · replace h := mh_ifn hc2 h
            refine mw_loc [0, 1] rfl ?_
            exact hJ1  h
abbrev w_X6_pinsIn (sh : List mh_C) (Φ : mh_P) (I : mh_I) (L : mh_L) (pc : Nat) (lv : List (Nat × Value)) (st : List Value) : Prop := mh_W RX6 cX6_pinsIn 4 (some .int) false (mh_rm 0) 18 0 0 mh_noX Φ 0 sh I L pc lv st
def X6_pinsIn_l4 (u1 : Int32) (I : mh_I) : Nat → Int32 → Int32 → Option (Int32)
  | 0, _, _ => none
  | n + 1, u2, u3 => if (6 : Int32) ≤ u3 then some u2 else mh_ix (((6 : Int32) * u1) + u3) 48 (fun k1 => mh_b (u2 ||| ((I 3 k1) <<< (u3 &&& 31))) (fun b3 => mh_b (u3 + (1 : Int32)) (fun b4 => (X6_pinsIn_l4 u1 I n b3 b4))))
set_option maxHeartbeats 4000000 in
set_option maxRecDepth 100000 in
theorem t_X6_pinsIn_l4 {u1 : Int32} {I : mh_I} {L : mh_L} {res : Int32} (n : Nat) (u2 : Int32) (u3 : Int32) (h : X6_pinsIn_l4 u1 I n u2 u3 = some res)  : w_X6_pinsIn SHM (mh_ret (some (.int res)) SHM I L) I L 4 [(0, .ref 0), (1, .int u1), (2, .int u2), (3, .int u3)] [] := by
  induction n generalizing u2 u3 with
  | zero => rw [X6_pinsIn_l4] at h; cases h
  | succ n ih =>
    rw [X6_pinsIn_l4] at h
    refine mw_iload_n dX6_pinsIn_4 3 rfl ?_
    refine mw_bipush (v := 6) dX6_pinsIn_5 (by decide) ?_
    refine mw_icmp_ge (tgt := 32) dX6_pinsIn_7 (by decide) (fun hc5 => ?_) (fun hc5 => ?_)
    · replace h := mh_ifp hc5 h
      refine mw_iload_n dX6_pinsIn_32 2 rfl ?_
      obtain rfl := Option.some.inj h
      exact mw_iret dX6_pinsIn_33 rfl rfl (Nat.le_of_ble_eq_true rfl) (Nat.le_refl 0) mh_ret_rfl
    · replace h := mh_ifn hc5 h
      refine mw_iload_n dX6_pinsIn_10 2 rfl ?_
      refine mw_aload_n dX6_pinsIn_11 0 rfl ?_
      refine mw_getr (b := 3) (fs := fsX6) gf_X6_16 dX6_pinsIn_12 rfl rfl ?_
      refine mw_bipush (v := 6) dX6_pinsIn_15 (by decide) ?_
      refine mw_iload_n dX6_pinsIn_17 1 rfl ?_
      refine mw_imul dX6_pinsIn_18 ?_
      refine mw_iload_n dX6_pinsIn_19 3 rfl ?_
      refine mw_iadd dX6_pinsIn_20 ?_
      obtain ⟨k1, hk2, hk2n, hk2l, h⟩ := mh_ix_some h
      refine mw_xiald dX6_pinsIn_21 rfl hk2 hk2n ?_
      refine mw_iload_n dX6_pinsIn_22 3 rfl ?_
      refine mw_ishl dX6_pinsIn_23 ?_
      refine mw_ior dX6_pinsIn_24 ?_
      obtain ⟨b3, eb3, h⟩ := mh_b_some h
      refine mw_nmi eb3 ?_
      refine mw_istore_n dX6_pinsIn_25 (by decide) rfl ?_
      obtain ⟨b4, eb4, h⟩ := mh_b_some h
      refine mw_iinc (v := b4) dX6_pinsIn_26 3 rfl (by rw [← eb4]; rfl) (by decide) rfl ?_
      refine mw_goto (tgt := 4) dX6_pinsIn_29 (by decide) ?_
      refine mw_loc [2, 3, 1, 0] rfl ?_
      exact ih _ _ h
def X6_pinsIn (p1 : Int32) (I : mh_I) : Option (Int32) := X6_pinsIn_l4 p1 I mh_fuel (0 : Int32) (0 : Int32)
set_option maxHeartbeats 4000000 in
set_option maxRecDepth 100000 in
theorem t_X6_pinsIn {L : mh_L} {I : mh_I} {p1 : Int32} {res : Int32} (h : X6_pinsIn p1 I = some res) : mh_CT yX6_pinsIn cX6_pinsIn 4 (some .int) (mh_rm 0) SHM I L [.ref 0, .int p1] (mh_ret (some (.int res)) SHM I L) := by
  refine mh_ofW (ini := false) RX6 rfl (by decide) (fun h => by cases h) (Nat.le_of_ble_eq_true rfl) ?_
  show w_X6_pinsIn SHM (mh_ret (some (.int res)) SHM I L) I L 0 [(0, .ref 0), (1, .int p1)] []
  unfold X6_pinsIn at h
  refine mw_iconst (v := 0) dX6_pinsIn_0 (by decide) ?_
  refine mw_istore_n dX6_pinsIn_1 (by decide) rfl ?_
  refine mw_iconst (v := 0) dX6_pinsIn_2 (by decide) ?_
  refine mw_istore_n dX6_pinsIn_3 (by decide) rfl ?_
  refine mw_loc [2, 3, 1, 0] rfl ?_
  exact t_X6_pinsIn_l4  _ _ _ h 
abbrev w_X6_taken (sh : List mh_C) (Φ : mh_P) (I : mh_I) (L : mh_L) (pc : Nat) (lv : List (Nat × Value)) (st : List Value) : Prop := mh_W RX6 cX6_taken 3 (some .int) false (mh_rm 1) 18 0 0 mh_noX Φ 0 sh I L pc lv st
def X6_taken (p1 : Int32) (p2 : Int32) (I : mh_I) : Option (Int32) := (X6_in p2 (0 : Int32) (6 : Int32)).bind (fun q1 => if q1 = 0 then some (-2 : Int32) else (X6_in p1 (0 : Int32) (55 : Int32)).bind (fun q2 => if q2 = 0 then some (-12 : Int32) else if (48 : Int32) ≤ p1 then (X6_pinsIn (p1 - (48 : Int32)) I).bind (fun q3 => if q3 = 0 then some (-11 : Int32) else if p2 = (6 : Int32) then (X6_pinsIn (p1 - (48 : Int32)) I).bind (fun q4 => some q4) else some (-13 : Int32)) else if (6 : Int32) ≤ p2 then some (-13 : Int32) else mh_ix p1 48 (fun k7 => (X6_isUnder (I 1 k7) p2).bind (fun q9 => if q9 = 0 then some (-13 : Int32) else some p1))))
set_option maxHeartbeats 4000000 in
set_option maxRecDepth 100000 in
theorem t_X6_taken {L : mh_L} {I : mh_I} {p1 : Int32} {p2 : Int32} {res : Int32} (h : X6_taken p1 p2 I = some res) : mh_CT yX6_taken cX6_taken 3 (some .int) (mh_rm 1) SHM I L [.ref 0, .int p1, .int p2] (mh_ret (some (.int res)) SHM I L) := by
  refine mh_ofW (ini := false) RX6 rfl (by decide) (fun h => by cases h) (Nat.le_of_ble_eq_true rfl) ?_
  show w_X6_taken SHM (mh_ret (some (.int res)) SHM I L) I L 0 [(0, .ref 0), (1, .int p1), (2, .int p2)] []
  unfold X6_taken at h
  refine mw_iload_n dX6_taken_0 2 rfl ?_
  refine mw_iconst (v := 0) dX6_taken_1 (by decide) ?_
  refine mw_bipush (v := 6) dX6_taken_2 (by decide) ?_
  obtain ⟨q1, hq1, h⟩ := mh_bind h
  refine mw_sz (dc := 0) cs_X6_69 wd_722 dX6_taken_4 [.int p2, .int (0 : Int32), .int (6 : Int32)] [.int (6 : Int32), .int (0 : Int32), .int p2] rfl rfl (t_X6_in hq1) ⟨by decide, by decide⟩ (Nat.le_of_ble_eq_true rfl) ⟨rfl, rfl⟩ (fun zq1 => ?_)
  refine mw_if_ne (tgt := 13) dX6_taken_7 (by decide) (fun hc14 => ?_) (fun hc14 => ?_)
  · replace h := mh_ifn hc14 h
    refine mw_iload_n dX6_taken_13 1 rfl ?_
    refine mw_iconst (v := 0) dX6_taken_14 (by decide) ?_
    refine mw_bipush (v := 55) dX6_taken_15 (by decide) ?_
    obtain ⟨q2, hq2, h⟩ := mh_bind h
    refine mw_sz (dc := 0) cs_X6_69 wd_722 dX6_taken_17 [.int p1, .int (0 : Int32), .int (55 : Int32)] [.int (55 : Int32), .int (0 : Int32), .int p1] rfl rfl (t_X6_in hq2) ⟨by decide, by decide⟩ (Nat.le_of_ble_eq_true rfl) ⟨rfl, rfl⟩ (fun zq2 => ?_)
    refine mw_if_ne (tgt := 26) dX6_taken_20 (by decide) (fun hc13 => ?_) (fun hc13 => ?_)
    · replace h := mh_ifn hc13 h
      refine mw_iload_n dX6_taken_26 1 rfl ?_
      refine mw_bipush (v := 48) dX6_taken_27 (by decide) ?_
      refine mw_icmp_ge (tgt := 58) dX6_taken_29 (by decide) (fun hc12 => ?_) (fun hc12 => ?_)
      · replace h := mh_ifp hc12 h
        refine mw_aload_n dX6_taken_58 0 rfl ?_
        refine mw_iload_n dX6_taken_59 1 rfl ?_
        refine mw_bipush (v := 48) dX6_taken_60 (by decide) ?_
        refine mw_isub dX6_taken_62 ?_
        obtain ⟨q3, hq3, h⟩ := mh_bind h
        refine mw_vr (dc := 0) (ci := 6) (fs := fsX6) (T := TX6) (N := 30) cv_X6_275 wd_1165 dX6_taken_63 [.int (p1 - (48 : Int32))] [.int (p1 - (48 : Int32)), .ref 0] rfl rfl rfl rfl (t_X6_pinsIn hq3) ⟨by decide, by decide⟩ (Nat.le_of_ble_eq_true rfl) ⟨rfl, rfl⟩ ?_
        refine mw_if_ne (tgt := 74) dX6_taken_66 (by decide) (fun hc6 => ?_) (fun hc6 => ?_)
        · replace h := mh_ifn hc6 h
          refine mw_iload_n dX6_taken_74 2 rfl ?_
          refine mw_bipush (v := 6) dX6_taken_75 (by decide) ?_
          refine mw_icmp_ne (tgt := 91) dX6_taken_77 (by decide) (fun hc5 => ?_) (fun hc5 => ?_)
          · replace h := mh_ifn hc5 h
            refine mw_bipush (v := -13) dX6_taken_91 (by decide) ?_
            obtain rfl := Option.some.inj h
            exact mw_iret dX6_taken_93 rfl rfl (Nat.le_of_ble_eq_true rfl) (Nat.le_refl 0) mh_ret_rfl
          · replace h := mh_ifp hc5 h
            refine mw_aload_n dX6_taken_80 0 rfl ?_
            refine mw_iload_n dX6_taken_81 1 rfl ?_
            refine mw_bipush (v := 48) dX6_taken_82 (by decide) ?_
            refine mw_isub dX6_taken_84 ?_
            obtain ⟨q4, hq4, h⟩ := mh_bind h
            refine mw_vr (dc := 0) (ci := 6) (fs := fsX6) (T := TX6) (N := 30) cv_X6_275 wd_1165 dX6_taken_85 [.int (p1 - (48 : Int32))] [.int (p1 - (48 : Int32)), .ref 0] rfl rfl rfl rfl (t_X6_pinsIn hq4) ⟨by decide, by decide⟩ (Nat.le_of_ble_eq_true rfl) ⟨rfl, rfl⟩ ?_
            refine mw_goto (tgt := 93) dX6_taken_88 (by decide) ?_
            obtain rfl := Option.some.inj h
            exact mw_iret dX6_taken_93 rfl rfl (Nat.le_of_ble_eq_true rfl) (Nat.le_refl 0) mh_ret_rfl
        · replace h := mh_ifp hc6 h
          refine mw_bipush (v := -11) dX6_taken_69 (by decide) ?_
          refine mw_goto (tgt := 93) dX6_taken_71 (by decide) ?_
          obtain rfl := Option.some.inj h
          exact mw_iret dX6_taken_93 rfl rfl (Nat.le_of_ble_eq_true rfl) (Nat.le_refl 0) mh_ret_rfl
      · replace h := mh_ifn hc12 h
        refine mw_iload_n dX6_taken_32 2 rfl ?_
        refine mw_bipush (v := 6) dX6_taken_33 (by decide) ?_
        refine mw_icmp_ge (tgt := 55) dX6_taken_35 (by decide) (fun hc11 => ?_) (fun hc11 => ?_)
        · replace h := mh_ifp hc11 h
          refine mw_bipush (v := -13) dX6_taken_55 (by decide) ?_
          obtain rfl := Option.some.inj h
          exact mw_iret dX6_taken_57 rfl rfl (Nat.le_of_ble_eq_true rfl) (Nat.le_refl 0) mh_ret_rfl
        · replace h := mh_ifn hc11 h
          refine mw_aload_n dX6_taken_38 0 rfl ?_
          refine mw_getr (b := 1) (fs := fsX6) gf_X6_7 dX6_taken_39 rfl rfl ?_
          refine mw_iload_n dX6_taken_42 1 rfl ?_
          obtain ⟨k7, hk8, hk8n, hk8l, h⟩ := mh_ix_some h
          refine mw_xiald dX6_taken_43 rfl hk8 hk8n ?_
          refine mw_iload_n dX6_taken_44 2 rfl ?_
          obtain ⟨q9, hq9, h⟩ := mh_bind h
          refine mw_sz (dc := 0) cs_X6_272 wd_1161 dX6_taken_45 [.int (I 1 k7), .int p2] [.int p2, .int (I 1 k7)] rfl rfl (t_X6_isUnder hq9) ⟨by decide, by decide⟩ (Nat.le_of_ble_eq_true rfl) ⟨rfl, rfl⟩ (fun zq9 => ?_)
          refine mw_if_eq (tgt := 55) dX6_taken_48 (by decide) (fun hc10 => ?_) (fun hc10 => ?_)
          · replace h := mh_ifp hc10 h
            refine mw_bipush (v := -13) dX6_taken_55 (by decide) ?_
            obtain rfl := Option.some.inj h
            exact mw_iret dX6_taken_57 rfl rfl (Nat.le_of_ble_eq_true rfl) (Nat.le_refl 0) mh_ret_rfl
          · replace h := mh_ifn hc10 h
            refine mw_iload_n dX6_taken_51 1 rfl ?_
            refine mw_goto (tgt := 57) dX6_taken_52 (by decide) ?_
            obtain rfl := Option.some.inj h
            exact mw_iret dX6_taken_57 rfl rfl (Nat.le_of_ble_eq_true rfl) (Nat.le_refl 0) mh_ret_rfl
    · replace h := mh_ifp hc13 h
      refine mw_bipush (v := -12) dX6_taken_23 (by decide) ?_
      obtain rfl := Option.some.inj h
      exact mw_iret dX6_taken_25 rfl rfl (Nat.le_of_ble_eq_true rfl) (Nat.le_refl 0) mh_ret_rfl
  · replace h := mh_ifp hc14 h
    refine mw_bipush (v := -2) dX6_taken_10 (by decide) ?_
    obtain rfl := Option.some.inj h
    exact mw_iret dX6_taken_12 rfl rfl (Nat.le_of_ble_eq_true rfl) (Nat.le_refl 0) mh_ret_rfl
