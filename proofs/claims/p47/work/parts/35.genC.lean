abbrev w_X5_lowestRow (sh : List mh_C) (Φ : mh_P) (I : mh_I) (L : mh_L) (pc : Nat) (lv : List (Nat × Value)) (st : List Value) : Prop := mh_W RX5 cX5_lowestRow 1 (some .int) false (mh_rm 2) 46 0 0 mh_noX Φ 0 sh I L pc lv st
def X5_lowestRow (L : mh_L) : Option (Int32) := if (lg_cmp (L 10 1) (0 : Int64)) = 0 then some (-1 : Int32) else (J13_numberOfTrailingZeros_95d88 (L 10 1)).bind (fun q1 => some (q1 / (6 : Int32)))
set_option maxHeartbeats 4000000 in
set_option maxRecDepth 100000 in
theorem t_X5_lowestRow {into : Option Nat} {L : mh_L} {I : mh_I} {res : Int32} (h : X5_lowestRow L = some res) : mh_CT yX5_lowestRow cX5_lowestRow 1 (some .int) (mh_rm 2) (SHX into) I L [.ref 0] (mh_ret (some (.int res)) (SHX into) I L) := by
  refine mh_ofW (ini := false) RX5 rfl (by decide) (fun h => by cases h) (Nat.le_of_ble_eq_true rfl) ?_
  show w_X5_lowestRow (SHX into) (mh_ret (some (.int res)) (SHX into) I L) I L 0 [(0, .ref 0)] []
  unfold X5_lowestRow at h
  refine mw_aload_n dX5_lowestRow_0 0 rfl ?_
  refine mw_getr (b := 10) (fs := fsX5) gf_X5_35 dX5_lowestRow_1 rfl rfl ?_
  refine mw_getl (fs := (fsX0 10)) gf_X5_167 dX5_lowestRow_4 (sx_fall into).1 rfl ?_
  refine mw_lconst (v := 0) dX5_lowestRow_7 (by decide) ?_
  refine mw_lcmp dX5_lowestRow_8 ?_
  refine mw_if_ne (tgt := 16) dX5_lowestRow_9 (by decide) (fun hc2 => ?_) (fun hc2 => ?_)
  · replace h := mh_ifn hc2 h
    refine mw_aload_n dX5_lowestRow_16 0 rfl ?_
    refine mw_getr (b := 10) (fs := fsX5) gf_X5_35 dX5_lowestRow_17 rfl rfl ?_
    refine mw_getl (fs := (fsX0 10)) gf_X5_167 dX5_lowestRow_20 (sx_fall into).1 rfl ?_
    obtain ⟨q1, hq1, h⟩ := mh_bind h
    refine mw_sr (dc := 1) cs_X5_284 wd_132 dX5_lowestRow_23 [.long (L 10 1)] [.long (L 10 1)] rfl rfl (t_J13_numberOfTrailingZeros_95d88 hq1) ⟨by decide, by decide⟩ (Nat.le_of_ble_eq_true rfl) ⟨rfl, rfl⟩ ?_
    refine mw_bipush (v := 6) dX5_lowestRow_26 (by decide) ?_
    refine mw_idiv dX5_lowestRow_28 (by decide) ?_
    obtain rfl := Option.some.inj h
    exact mw_iret dX5_lowestRow_29 rfl rfl (Nat.le_of_ble_eq_true rfl) (Nat.le_refl 0) mh_ret_rfl
  · replace h := mh_ifp hc2 h
    refine mw_iconst (v := -1) dX5_lowestRow_12 (by decide) ?_
    refine mw_goto (tgt := 29) dX5_lowestRow_13 (by decide) ?_
    obtain rfl := Option.some.inj h
    exact mw_iret dX5_lowestRow_29 rfl rfl (Nat.le_of_ble_eq_true rfl) (Nat.le_refl 0) mh_ret_rfl
abbrev w_X5_together (sh : List mh_C) (Φ : mh_P) (I : mh_I) (L : mh_L) (pc : Nat) (lv : List (Nat × Value)) (st : List Value) : Prop := mh_W RX5 cX5_together 4 (some .int) false (mh_rm 3) 46 0 0 mh_noX Φ 0 sh I L pc lv st
def X5_together_l4 (u1 : Int32) (L : mh_L) : Nat → Int32 → Int32 → mh_I → Option (Int32 × mh_I)
  | 0, _, _, _ => none
  | n + 1, u2, u3, I => if (48 : Int32) ≤ u3 then some (u2, I) else (X5_hasBit (L 10 1) u3).bind (fun q1 => mh_j (fun (v2 : Int32) (I3 : mh_I) => mh_b (u3 + (1 : Int32)) (fun b11 => (X5_together_l4 u1 L n v2 b11 I3))) (fun J4 => if q1 = 0 then (J4 u2 I) else (X5_law I).bind (fun q5 => mh_ix u3 48 (fun k6 => (X4_says q5 u1 1 u3 (I 11 k6) I L).bind (fun q8 => mh_b (u2 + q8.1) (fun b9 => (J4 b9 q8.2)))))))
set_option maxHeartbeats 4000000 in
set_option maxRecDepth 100000 in
theorem t_X5_together_l4 {into : Option Nat} {u1 : Int32} {L : mh_L} {res : Int32 × mh_I} (n : Nat) (u2 : Int32) (u3 : Int32) (I : mh_I) (h : X5_together_l4 u1 L n u2 u3 I = some res)  : w_X5_together (SHX into) (mh_ret (some (.int res.1)) (SHX into) res.2 L) I L 4 [(0, .ref 0), (1, .int u1), (2, .int u2), (3, .int u3)] [] := by
  induction n generalizing u2 u3 I with
  | zero => rw [X5_together_l4] at h; cases h
  | succ n ih =>
    rw [X5_together_l4] at h
    refine mw_iload_n dX5_together_4 3 rfl ?_
    refine mw_bipush (v := 48) dX5_together_5 (by decide) ?_
    refine mw_icmp_ge (tgt := 55) dX5_together_7 (by decide) (fun hc12 => ?_) (fun hc12 => ?_)
    · replace h := mh_ifp hc12 h
      refine mw_iload_n dX5_together_55 2 rfl ?_
      obtain rfl := Option.some.inj h
      exact mw_iret dX5_together_56 rfl rfl (Nat.le_of_ble_eq_true rfl) (Nat.le_refl 0) mh_ret_rfl
    · replace h := mh_ifn hc12 h
      refine mw_aload_n dX5_together_10 0 rfl ?_
      refine mw_getr (b := 10) (fs := fsX5) gf_X5_35 dX5_together_11 rfl rfl ?_
      refine mw_getl (fs := (fsX0 10)) gf_X5_167 dX5_together_14 (sx_fall into).1 rfl ?_
      refine mw_iload_n dX5_together_17 3 rfl ?_
      obtain ⟨q1, hq1, h⟩ := mh_bind h
      refine mw_sz (dc := 0) cs_X5_139 wd_31 dX5_together_18 [.long (L 10 1), .int u3] [.int u3, .long (L 10 1)] rfl rfl (t_X5_hasBit hq1) ⟨by decide, by decide⟩ (Nat.le_of_ble_eq_true rfl) ⟨rfl, rfl⟩ (fun zq1 => ?_)
      refine mh_jw (fun J4 => ∀ (v2 : Int32) (I3 : mh_I), J4 v2 I3 = some res → w_X5_together (SHX into) (mh_ret (some (.int res.1)) (SHX into) res.2 L) I3 L 49 [(0, .ref 0), (1, .int u1), (2, .int v2), (3, .int u3)] []) h (fun v2 I3 h => ?_) (fun J4 hJ4 h => ?_)
      · obtain ⟨b11, eb11, h⟩ := mh_b_some h
        refine mw_iinc (v := b11) dX5_together_49 3 rfl (by rw [← eb11]; rfl) (by decide) rfl ?_
        refine mw_goto (tgt := 4) dX5_together_52 (by decide) ?_
        refine mw_loc [1, 2, 3, 0] rfl ?_
        exact ih _ _ _ h
      · refine mw_if_eq (tgt := 49) dX5_together_21 (by decide) (fun hc10 => ?_) (fun hc10 => ?_)
        · replace h := mh_ifp hc10 h
          refine mw_loc [0, 1, 2, 3] rfl ?_
          exact hJ4 _ _ h
        · replace h := mh_ifn hc10 h
          refine mw_iload_n dX5_together_24 2 rfl ?_
          refine mw_aload_n dX5_together_25 0 rfl ?_
          obtain ⟨q5, hq5, h⟩ := mh_bind h
          refine mw_vr (dc := 0) (ci := 5) (fs := fsX5) (T := TX5) (N := 9) cv_X5_107 wd_51 dX5_together_26 [] [.ref 0, .int u2] rfl rfl rfl rfl (t_X5_law hq5) ⟨by decide, by decide⟩ (Nat.le_of_ble_eq_true rfl) ⟨rfl, rfl⟩ ?_
          refine mw_iload_n dX5_together_29 1 rfl ?_
          refine mw_aload_n dX5_together_30 0 rfl ?_
          refine mw_getr (b := 1) (fs := fsX5) gf_X5_10 dX5_together_31 rfl rfl ?_
          refine mw_iload_n dX5_together_34 3 rfl ?_
          refine mw_aload_n dX5_together_35 0 rfl ?_
          refine mw_getr (b := 10) (fs := fsX5) gf_X5_35 dX5_together_36 rfl rfl ?_
          refine mw_getr (b := 11) (fs := (fsX0 10)) gf_X5_179 dX5_together_39 (sx_fall into).1 rfl ?_
          refine mw_iload_n dX5_together_42 3 rfl ?_
          obtain ⟨k6, hk7, hk7n, hk7l, h⟩ := mh_ix_some h
          refine mw_xiald dX5_together_43 (sx_fall into).2 hk7 hk7n ?_
          obtain ⟨q8, hq8, h⟩ := mh_bind h
          refine mw_vr (dc := 2) (ci := 4) (fs := (fsX4 q5)) (T := TX4) (N := 5) cv_X5_110 wd_86 dX5_together_44 [.int u1, .ref 1, .int u3, .int (I 11 k6)] [.int (I 11 k6), .int u3, .ref 1, .int u1, .ref q5, .int u2] rfl rfl (t_X5_law_fact hq5).1 rfl (t_X4_says (t_X5_law_fact hq5) (sx_piece into) hq8) ⟨by decide, by decide⟩ (Nat.le_of_ble_eq_true rfl) ⟨rfl, rfl⟩ ?_
          refine mw_iadd dX5_together_47 ?_
          obtain ⟨b9, eb9, h⟩ := mh_b_some h
          refine mw_nmi eb9 ?_
          refine mw_istore_n dX5_together_48 (by decide) rfl ?_
          refine mw_loc [1, 2, 0, 3] rfl ?_
          exact hJ4 _ _ h
def X5_together (p1 : Int32) (I : mh_I) (L : mh_L) : Option (Int32 × mh_I) := X5_together_l4 p1 L mh_fuel (0 : Int32) (0 : Int32) I
set_option maxHeartbeats 4000000 in
set_option maxRecDepth 100000 in
theorem t_X5_together {into : Option Nat} {L : mh_L} {I : mh_I} {p1 : Int32} {res : Int32 × mh_I} (h : X5_together p1 I L = some res) : mh_CT yX5_together cX5_together 4 (some .int) (mh_rm 3) (SHX into) I L [.ref 0, .int p1] (mh_ret (some (.int res.1)) (SHX into) res.2 L) := by
  refine mh_ofW (ini := false) RX5 rfl (by decide) (fun h => by cases h) (Nat.le_of_ble_eq_true rfl) ?_
  show w_X5_together (SHX into) (mh_ret (some (.int res.1)) (SHX into) res.2 L) I L 0 [(0, .ref 0), (1, .int p1)] []
  unfold X5_together at h
  refine mw_iconst (v := 0) dX5_together_0 (by decide) ?_
  refine mw_istore_n dX5_together_1 (by decide) rfl ?_
  refine mw_iconst (v := 0) dX5_together_2 (by decide) ?_
  refine mw_istore_n dX5_together_3 (by decide) rfl ?_
  refine mw_loc [2, 3, 1, 0] rfl ?_
  exact t_X5_together_l4  _ _ _ _ h 
abbrev w_X5_run (sh : List mh_C) (Φ : mh_P) (I : mh_I) (L : mh_L) (pc : Nat) (lv : List (Nat × Value)) (st : List Value) : Prop := mh_W RX5 cX5_run 4 (some .int) false (mh_rm 6) 46 0 0 mh_noX Φ 0 sh I L pc lv st
def X5_run (p1 : Int32) (p2 : Int32) (p3 : Int32) (I : mh_I) (L : mh_L) : Option (Int32 × mh_I × mh_L) := (X5_isLoop p1).bind (fun q1 => if q1 = 0 then some ((-5 : Int32), I, L) else (X5_isPull p2).bind (fun q2 => if q2 = 0 then some ((-7 : Int32), I, L) else (X5_within p3 (0 : Int32) (3 : Int32)).bind (fun q3 => if q3 = 0 then some ((-7 : Int32), I, L) else (X5_drop p1 p2 I L).bind (fun q4 => if p3 = 0 then (J13_bitCount_95d88 (q4.2.2 10 1)).bind (fun q6 => some (q6, q4.2.1, q4.2.2)) else if p3 = 1 then (X5_lowestRow q4.2.2).bind (fun q8 => some (q8, q4.2.1, q4.2.2)) else if p3 = 2 then (X5_together (1 : Int32) q4.2.1 q4.2.2).bind (fun q10 => some (q10.1, q10.2, q4.2.2)) else (X5_together (2 : Int32) q4.2.1 q4.2.2).bind (fun q11 => some (q11.1, q11.2, q4.2.2))))))
set_option maxHeartbeats 4000000 in
set_option maxRecDepth 100000 in
theorem t_X5_run {into : Option Nat} {L : mh_L} {I : mh_I} {p1 : Int32} {p2 : Int32} {p3 : Int32} {res : Int32 × mh_I × mh_L} (h : X5_run p1 p2 p3 I L = some res) : mh_CT yX5_run cX5_run 4 (some .int) (mh_rm 6) (SHX into) I L [.ref 0, .int p1, .int p2, .int p3] (mh_ret (some (.int res.1)) (SHX into) res.2.1 res.2.2) := by
  refine mh_ofW (ini := false) RX5 rfl (by decide) (fun h => by cases h) (Nat.le_of_ble_eq_true rfl) ?_
  show w_X5_run (SHX into) (mh_ret (some (.int res.1)) (SHX into) res.2.1 res.2.2) I L 0 [(0, .ref 0), (1, .int p1), (2, .int p2), (3, .int p3)] []
  unfold X5_run at h
  refine mw_iload_n dX5_run_0 1 rfl ?_
  obtain ⟨q1, hq1, h⟩ := mh_bind h
  refine mw_sz (dc := 1) cs_X5_101 wd_25 dX5_run_1 [.int p1] [.int p1] rfl rfl (t_X5_isLoop hq1) ⟨by decide, by decide⟩ (Nat.le_of_ble_eq_true rfl) ⟨rfl, rfl⟩ (fun zq1 => ?_)
  refine mw_if_ne (tgt := 10) dX5_run_4 (by decide) (fun hc14 => ?_) (fun hc14 => ?_)
  · replace h := mh_ifn hc14 h
    refine mw_iload_n dX5_run_10 2 rfl ?_
    obtain ⟨q2, hq2, h⟩ := mh_bind h
    refine mw_sz (dc := 1) cs_X5_104 wd_42 dX5_run_11 [.int p2] [.int p2] rfl rfl (t_X5_isPull hq2) ⟨by decide, by decide⟩ (Nat.le_of_ble_eq_true rfl) ⟨rfl, rfl⟩ (fun zq2 => ?_)
    refine mw_if_eq (tgt := 26) dX5_run_14 (by decide) (fun hc13 => ?_) (fun hc13 => ?_)
    · replace h := mh_ifp hc13 h
      refine mw_bipush (v := -7) dX5_run_26 (by decide) ?_
      obtain rfl := Option.some.inj h
      exact mw_iret dX5_run_28 rfl rfl (Nat.le_of_ble_eq_true rfl) (Nat.le_refl 0) mh_ret_rfl
    · replace h := mh_ifn hc13 h
      refine mw_iload_n dX5_run_17 3 rfl ?_
      refine mw_iconst (v := 0) dX5_run_18 (by decide) ?_
      refine mw_iconst (v := 3) dX5_run_19 (by decide) ?_
      obtain ⟨q3, hq3, h⟩ := mh_bind h
      refine mw_sz (dc := 0) cs_X5_97 wd_28 dX5_run_20 [.int p3, .int (0 : Int32), .int (3 : Int32)] [.int (3 : Int32), .int (0 : Int32), .int p3] rfl rfl (t_X5_within hq3) ⟨by decide, by decide⟩ (Nat.le_of_ble_eq_true rfl) ⟨rfl, rfl⟩ (fun zq3 => ?_)
      refine mw_if_ne (tgt := 29) dX5_run_23 (by decide) (fun hc12 => ?_) (fun hc12 => ?_)
      · replace h := mh_ifn hc12 h
        refine mw_aload_n dX5_run_29 0 rfl ?_
        refine mw_iload_n dX5_run_30 1 rfl ?_
        refine mw_iload_n dX5_run_31 2 rfl ?_
        obtain ⟨q4, hq4, h⟩ := mh_bind h
        refine mw_vr (dc := 5) (ci := 5) (fs := fsX5) (T := TX5) (N := 9) cv_X5_163 wd_47 dX5_run_32 [.int p1, .int p2] [.int p2, .int p1, .ref 0] rfl rfl rfl rfl (t_X5_drop hq4) ⟨by decide, by decide⟩ (Nat.le_of_ble_eq_true rfl) ⟨rfl, rfl⟩ ?_
        refine mw_pop dX5_run_35 rfl ?_
        refine mw_iload_n dX5_run_36 3 rfl ?_
        by_cases hc5 : p3 = 0
        · replace h := mh_ifp hc5 h
          refine mw_tableIn (off := 27) (tgt := 64) dX5_run_37 (by rw [hc5]; decide) (by rw [hc5]; decide) (by rw [hc5]; rfl) (by decide) ?_
          refine mw_aload_n dX5_run_64 0 rfl ?_
          refine mw_getr (b := 10) (fs := fsX5) gf_X5_35 dX5_run_65 rfl rfl ?_
          refine mw_getl (fs := (fsX0 10)) gf_X5_167 dX5_run_68 (sx_fall into).1 rfl ?_
          obtain ⟨q6, hq6, h⟩ := mh_bind h
          refine mw_sr (dc := 0) cs_X5_74 wd_121 dX5_run_71 [.long (q4.2.2 10 1)] [.long (q4.2.2 10 1)] rfl rfl (t_J13_bitCount_95d88 hq6) ⟨by decide, by decide⟩ (Nat.le_of_ble_eq_true rfl) ⟨rfl, rfl⟩ ?_
          obtain rfl := Option.some.inj h
          exact mw_iret dX5_run_74 rfl rfl (Nat.le_of_ble_eq_true rfl) (Nat.le_refl 0) mh_ret_rfl
        · replace h := mh_ifn hc5 h
          by_cases hc7 : p3 = 1
          · replace h := mh_ifp hc7 h
            refine mw_tableIn (off := 38) (tgt := 75) dX5_run_37 (by rw [hc7]; decide) (by rw [hc7]; decide) (by rw [hc7]; rfl) (by decide) ?_
            refine mw_aload_n dX5_run_75 0 rfl ?_
            obtain ⟨q8, hq8, h⟩ := mh_bind h
            refine mw_vr (dc := 2) (ci := 5) (fs := fsX5) (T := TX5) (N := 9) cv_X5_170 wd_129 dX5_run_76 [] [.ref 0] rfl rfl rfl rfl (t_X5_lowestRow hq8) ⟨by decide, by decide⟩ (Nat.le_of_ble_eq_true rfl) ⟨rfl, rfl⟩ ?_
            obtain rfl := Option.some.inj h
            exact mw_iret dX5_run_79 rfl rfl (Nat.le_of_ble_eq_true rfl) (Nat.le_refl 0) mh_ret_rfl
          · replace h := mh_ifn hc7 h
            by_cases hc9 : p3 = 2
            · replace h := mh_ifp hc9 h
              refine mw_tableIn (off := 43) (tgt := 80) dX5_run_37 (by rw [hc9]; decide) (by rw [hc9]; decide) (by rw [hc9]; rfl) (by decide) ?_
              refine mw_aload_n dX5_run_80 0 rfl ?_
              refine mw_iconst (v := 1) dX5_run_81 (by decide) ?_
              obtain ⟨q10, hq10, h⟩ := mh_bind h
              refine mw_vr (dc := 3) (ci := 5) (fs := fsX5) (T := TX5) (N := 9) cv_X5_173 wd_140 dX5_run_82 [.int (1 : Int32)] [.int (1 : Int32), .ref 0] rfl rfl rfl rfl (t_X5_together hq10) ⟨by decide, by decide⟩ (Nat.le_of_ble_eq_true rfl) ⟨rfl, rfl⟩ ?_
              obtain rfl := Option.some.inj h
              exact mw_iret dX5_run_85 rfl rfl (Nat.le_of_ble_eq_true rfl) (Nat.le_refl 0) mh_ret_rfl
            · replace h := mh_ifn hc9 h
              refine mw_tableOut (tgt := 86) dX5_run_37 (by have e0 := mh_ne (n := 0) hc5 (by decide); have e1 := mh_ne (n := 1) hc7 (by decide); have e2 := mh_ne (n := 2) hc9 (by decide); omega) (by decide) ?_
              refine mw_aload_n dX5_run_86 0 rfl ?_
              refine mw_iconst (v := 2) dX5_run_87 (by decide) ?_
              obtain ⟨q11, hq11, h⟩ := mh_bind h
              refine mw_vr (dc := 3) (ci := 5) (fs := fsX5) (T := TX5) (N := 9) cv_X5_173 wd_140 dX5_run_88 [.int (2 : Int32)] [.int (2 : Int32), .ref 0] rfl rfl rfl rfl (t_X5_together hq11) ⟨by decide, by decide⟩ (Nat.le_of_ble_eq_true rfl) ⟨rfl, rfl⟩ ?_
              obtain rfl := Option.some.inj h
              exact mw_iret dX5_run_91 rfl rfl (Nat.le_of_ble_eq_true rfl) (Nat.le_refl 0) mh_ret_rfl
      · replace h := mh_ifp hc12 h
        refine mw_bipush (v := -7) dX5_run_26 (by decide) ?_
        obtain rfl := Option.some.inj h
        exact mw_iret dX5_run_28 rfl rfl (Nat.le_of_ble_eq_true rfl) (Nat.le_refl 0) mh_ret_rfl
  · replace h := mh_ifp hc14 h
    refine mw_bipush (v := -5) dX5_run_7 (by decide) ?_
    obtain rfl := Option.some.inj h
    exact mw_iret dX5_run_9 rfl rfl (Nat.le_of_ble_eq_true rfl) (Nat.le_refl 0) mh_ret_rfl
abbrev w_X5_goes (sh : List mh_C) (Φ : mh_P) (I : mh_I) (L : mh_L) (pc : Nat) (lv : List (Nat × Value)) (st : List Value) : Prop := mh_W RX5 cX5_goes 4 (some .long) false (mh_rm 6) 46 0 0 mh_noX Φ 0 sh I L pc lv st
def X5_goes (p1 : Int32) (p2 : Int32) (p3 : Int32) (I : mh_I) (L : mh_L) : Option (Int64 × mh_I × mh_L) := (X5_isLoop p1).bind (fun q1 => if q1 = 0 then some ((-4611686018427387904 : Int64), I, L) else (X5_isPull p2).bind (fun q2 => if q2 = 0 then some ((-4611686018427387904 : Int64), I, L) else (X5_within p3 (0 : Int32) (1 : Int32)).bind (fun q3 => if q3 = 0 then some ((-4611686018427387904 : Int64), I, L) else (X5_drop p1 p2 I L).bind (fun q4 => if p3 = 0 then some ((q4.2.2 10 1), q4.2.1, q4.2.2) else some ((q4.2.2 10 2), q4.2.1, q4.2.2)))))
set_option maxHeartbeats 4000000 in
set_option maxRecDepth 100000 in
theorem t_X5_goes {into : Option Nat} {L : mh_L} {I : mh_I} {p1 : Int32} {p2 : Int32} {p3 : Int32} {res : Int64 × mh_I × mh_L} (h : X5_goes p1 p2 p3 I L = some res) : mh_CT yX5_goes cX5_goes 4 (some .long) (mh_rm 6) (SHX into) I L [.ref 0, .int p1, .int p2, .int p3] (mh_ret (some (.long res.1)) (SHX into) res.2.1 res.2.2) := by
  refine mh_ofW (ini := false) RX5 rfl (by decide) (fun h => by cases h) (Nat.le_of_ble_eq_true rfl) ?_
  show w_X5_goes (SHX into) (mh_ret (some (.long res.1)) (SHX into) res.2.1 res.2.2) I L 0 [(0, .ref 0), (1, .int p1), (2, .int p2), (3, .int p3)] []
  unfold X5_goes at h
  refine mw_iload_n dX5_goes_0 1 rfl ?_
  obtain ⟨q1, hq1, h⟩ := mh_bind h
  refine mw_sz (dc := 1) cs_X5_101 wd_25 dX5_goes_1 [.int p1] [.int p1] rfl rfl (t_X5_isLoop hq1) ⟨by decide, by decide⟩ (Nat.le_of_ble_eq_true rfl) ⟨rfl, rfl⟩ (fun zq1 => ?_)
  refine mw_if_eq (tgt := 23) dX5_goes_4 (by decide) (fun hc8 => ?_) (fun hc8 => ?_)
  · replace h := mh_ifp hc8 h
    refine mw_ldc2 dX5_goes_23 wd_146 ?_
    obtain rfl := Option.some.inj h
    exact mw_lret dX5_goes_26 rfl (Nat.le_of_ble_eq_true rfl) (Nat.le_refl 0) mh_ret_rfl
  · replace h := mh_ifn hc8 h
    refine mw_iload_n dX5_goes_7 2 rfl ?_
    obtain ⟨q2, hq2, h⟩ := mh_bind h
    refine mw_sz (dc := 1) cs_X5_104 wd_42 dX5_goes_8 [.int p2] [.int p2] rfl rfl (t_X5_isPull hq2) ⟨by decide, by decide⟩ (Nat.le_of_ble_eq_true rfl) ⟨rfl, rfl⟩ (fun zq2 => ?_)
    refine mw_if_eq (tgt := 23) dX5_goes_11 (by decide) (fun hc7 => ?_) (fun hc7 => ?_)
    · replace h := mh_ifp hc7 h
      refine mw_ldc2 dX5_goes_23 wd_146 ?_
      obtain rfl := Option.some.inj h
      exact mw_lret dX5_goes_26 rfl (Nat.le_of_ble_eq_true rfl) (Nat.le_refl 0) mh_ret_rfl
    · replace h := mh_ifn hc7 h
      refine mw_iload_n dX5_goes_14 3 rfl ?_
      refine mw_iconst (v := 0) dX5_goes_15 (by decide) ?_
      refine mw_iconst (v := 1) dX5_goes_16 (by decide) ?_
      obtain ⟨q3, hq3, h⟩ := mh_bind h
      refine mw_sz (dc := 0) cs_X5_97 wd_28 dX5_goes_17 [.int p3, .int (0 : Int32), .int (1 : Int32)] [.int (1 : Int32), .int (0 : Int32), .int p3] rfl rfl (t_X5_within hq3) ⟨by decide, by decide⟩ (Nat.le_of_ble_eq_true rfl) ⟨rfl, rfl⟩ (fun zq3 => ?_)
      refine mw_if_ne (tgt := 27) dX5_goes_20 (by decide) (fun hc6 => ?_) (fun hc6 => ?_)
      · replace h := mh_ifn hc6 h
        refine mw_aload_n dX5_goes_27 0 rfl ?_
        refine mw_iload_n dX5_goes_28 1 rfl ?_
        refine mw_iload_n dX5_goes_29 2 rfl ?_
        obtain ⟨q4, hq4, h⟩ := mh_bind h
        refine mw_vr (dc := 5) (ci := 5) (fs := fsX5) (T := TX5) (N := 9) cv_X5_163 wd_47 dX5_goes_30 [.int p1, .int p2] [.int p2, .int p1, .ref 0] rfl rfl rfl rfl (t_X5_drop hq4) ⟨by decide, by decide⟩ (Nat.le_of_ble_eq_true rfl) ⟨rfl, rfl⟩ ?_
        refine mw_pop dX5_goes_33 rfl ?_
        refine mw_iload_n dX5_goes_34 3 rfl ?_
        refine mw_if_ne (tgt := 48) dX5_goes_35 (by decide) (fun hc5 => ?_) (fun hc5 => ?_)
        · replace h := mh_ifn hc5 h
          refine mw_aload_n dX5_goes_48 0 rfl ?_
          refine mw_getr (b := 10) (fs := fsX5) gf_X5_35 dX5_goes_49 rfl rfl ?_
          refine mw_getl (fs := (fsX0 10)) gf_X5_176 dX5_goes_52 (sx_fall into).1 rfl ?_
          obtain rfl := Option.some.inj h
          exact mw_lret dX5_goes_55 rfl (Nat.le_of_ble_eq_true rfl) (Nat.le_refl 0) mh_ret_rfl
        · replace h := mh_ifp hc5 h
          refine mw_aload_n dX5_goes_38 0 rfl ?_
          refine mw_getr (b := 10) (fs := fsX5) gf_X5_35 dX5_goes_39 rfl rfl ?_
          refine mw_getl (fs := (fsX0 10)) gf_X5_167 dX5_goes_42 (sx_fall into).1 rfl ?_
          refine mw_goto (tgt := 55) dX5_goes_45 (by decide) ?_
          obtain rfl := Option.some.inj h
          exact mw_lret dX5_goes_55 rfl (Nat.le_of_ble_eq_true rfl) (Nat.le_refl 0) mh_ret_rfl
      · replace h := mh_ifp hc6 h
        refine mw_ldc2 dX5_goes_23 wd_146 ?_
        obtain rfl := Option.some.inj h
        exact mw_lret dX5_goes_26 rfl (Nat.le_of_ble_eq_true rfl) (Nat.le_refl 0) mh_ret_rfl
abbrev w_X5_left (sh : List mh_C) (Φ : mh_P) (I : mh_I) (L : mh_L) (pc : Nat) (lv : List (Nat × Value)) (st : List Value) : Prop := mh_W RX5 cX5_left 4 (some .int) false (mh_rm 6) 46 0 0 mh_noX Φ 0 sh I L pc lv st
def X5_left (p1 : Int32) (p2 : Int32) (p3 : Int32) (I : mh_I) (L : mh_L) : Option (Int32 × mh_I × mh_L) := (X5_isLoop p1).bind (fun q1 => if q1 = 0 then some ((-5 : Int32), I, L) else (X5_isLoop p3).bind (fun q2 => if q2 = 0 then some ((-5 : Int32), I, L) else (X5_isPull p2).bind (fun q3 => if q3 = 0 then some ((-7 : Int32), I, L) else (X5_drop p1 p2 I L).bind (fun q4 => (X5_hasBit (q4.2.2 10 1) p3).bind (fun q5 => if q5 = 0 then some ((-1 : Int32), q4.2.1, q4.2.2) else mh_ix p3 48 (fun k6 => some ((q4.2.1 11 k6), q4.2.1, q4.2.2)))))))
set_option maxHeartbeats 4000000 in
set_option maxRecDepth 100000 in
theorem t_X5_left {into : Option Nat} {L : mh_L} {I : mh_I} {p1 : Int32} {p2 : Int32} {p3 : Int32} {res : Int32 × mh_I × mh_L} (h : X5_left p1 p2 p3 I L = some res) : mh_CT yX5_left cX5_left 4 (some .int) (mh_rm 6) (SHX into) I L [.ref 0, .int p1, .int p2, .int p3] (mh_ret (some (.int res.1)) (SHX into) res.2.1 res.2.2) := by
  refine mh_ofW (ini := false) RX5 rfl (by decide) (fun h => by cases h) (Nat.le_of_ble_eq_true rfl) ?_
  show w_X5_left (SHX into) (mh_ret (some (.int res.1)) (SHX into) res.2.1 res.2.2) I L 0 [(0, .ref 0), (1, .int p1), (2, .int p2), (3, .int p3)] []
  unfold X5_left at h
  refine mw_iload_n dX5_left_0 1 rfl ?_
  obtain ⟨q1, hq1, h⟩ := mh_bind h
  refine mw_sz (dc := 1) cs_X5_101 wd_25 dX5_left_1 [.int p1] [.int p1] rfl rfl (t_X5_isLoop hq1) ⟨by decide, by decide⟩ (Nat.le_of_ble_eq_true rfl) ⟨rfl, rfl⟩ (fun zq1 => ?_)
  refine mw_if_eq (tgt := 14) dX5_left_4 (by decide) (fun hc11 => ?_) (fun hc11 => ?_)
  · replace h := mh_ifp hc11 h
    refine mw_bipush (v := -5) dX5_left_14 (by decide) ?_
    obtain rfl := Option.some.inj h
    exact mw_iret dX5_left_16 rfl rfl (Nat.le_of_ble_eq_true rfl) (Nat.le_refl 0) mh_ret_rfl
  · replace h := mh_ifn hc11 h
    refine mw_iload_n dX5_left_7 3 rfl ?_
    obtain ⟨q2, hq2, h⟩ := mh_bind h
    refine mw_sz (dc := 1) cs_X5_101 wd_25 dX5_left_8 [.int p3] [.int p3] rfl rfl (t_X5_isLoop hq2) ⟨by decide, by decide⟩ (Nat.le_of_ble_eq_true rfl) ⟨rfl, rfl⟩ (fun zq2 => ?_)
    refine mw_if_ne (tgt := 17) dX5_left_11 (by decide) (fun hc10 => ?_) (fun hc10 => ?_)
    · replace h := mh_ifn hc10 h
      refine mw_iload_n dX5_left_17 2 rfl ?_
      obtain ⟨q3, hq3, h⟩ := mh_bind h
      refine mw_sz (dc := 1) cs_X5_104 wd_42 dX5_left_18 [.int p2] [.int p2] rfl rfl (t_X5_isPull hq3) ⟨by decide, by decide⟩ (Nat.le_of_ble_eq_true rfl) ⟨rfl, rfl⟩ (fun zq3 => ?_)
      refine mw_if_ne (tgt := 27) dX5_left_21 (by decide) (fun hc9 => ?_) (fun hc9 => ?_)
      · replace h := mh_ifn hc9 h
        refine mw_aload_n dX5_left_27 0 rfl ?_
        refine mw_iload_n dX5_left_28 1 rfl ?_
        refine mw_iload_n dX5_left_29 2 rfl ?_
        obtain ⟨q4, hq4, h⟩ := mh_bind h
        refine mw_vr (dc := 5) (ci := 5) (fs := fsX5) (T := TX5) (N := 9) cv_X5_163 wd_47 dX5_left_30 [.int p1, .int p2] [.int p2, .int p1, .ref 0] rfl rfl rfl rfl (t_X5_drop hq4) ⟨by decide, by decide⟩ (Nat.le_of_ble_eq_true rfl) ⟨rfl, rfl⟩ ?_
        refine mw_pop dX5_left_33 rfl ?_
        refine mw_aload_n dX5_left_34 0 rfl ?_
        refine mw_getr (b := 10) (fs := fsX5) gf_X5_35 dX5_left_35 rfl rfl ?_
        refine mw_getl (fs := (fsX0 10)) gf_X5_167 dX5_left_38 (sx_fall into).1 rfl ?_
        refine mw_iload_n dX5_left_41 3 rfl ?_
        obtain ⟨q5, hq5, h⟩ := mh_bind h
        refine mw_sz (dc := 0) cs_X5_139 wd_31 dX5_left_42 [.long (q4.2.2 10 1), .int p3] [.int p3, .long (q4.2.2 10 1)] rfl rfl (t_X5_hasBit hq5) ⟨by decide, by decide⟩ (Nat.le_of_ble_eq_true rfl) ⟨rfl, rfl⟩ (fun zq5 => ?_)
        refine mw_if_eq (tgt := 60) dX5_left_45 (by decide) (fun hc8 => ?_) (fun hc8 => ?_)
        · replace h := mh_ifp hc8 h
          refine mw_iconst (v := -1) dX5_left_60 (by decide) ?_
          obtain rfl := Option.some.inj h
          exact mw_iret dX5_left_61 rfl rfl (Nat.le_of_ble_eq_true rfl) (Nat.le_refl 0) mh_ret_rfl
        · replace h := mh_ifn hc8 h
          refine mw_aload_n dX5_left_48 0 rfl ?_
          refine mw_getr (b := 10) (fs := fsX5) gf_X5_35 dX5_left_49 rfl rfl ?_
          refine mw_getr (b := 11) (fs := (fsX0 10)) gf_X5_179 dX5_left_52 (sx_fall into).1 rfl ?_
          refine mw_iload_n dX5_left_55 3 rfl ?_
          obtain ⟨k6, hk7, hk7n, hk7l, h⟩ := mh_ix_some h
          refine mw_xiald dX5_left_56 (sx_fall into).2 hk7 hk7n ?_
          refine mw_goto (tgt := 61) dX5_left_57 (by decide) ?_
          obtain rfl := Option.some.inj h
          exact mw_iret dX5_left_61 rfl rfl (Nat.le_of_ble_eq_true rfl) (Nat.le_refl 0) mh_ret_rfl
      · replace h := mh_ifp hc9 h
        refine mw_bipush (v := -7) dX5_left_24 (by decide) ?_
        obtain rfl := Option.some.inj h
        exact mw_iret dX5_left_26 rfl rfl (Nat.le_of_ble_eq_true rfl) (Nat.le_refl 0) mh_ret_rfl
    · replace h := mh_ifp hc10 h
      refine mw_bipush (v := -5) dX5_left_14 (by decide) ?_
      obtain rfl := Option.some.inj h
      exact mw_iret dX5_left_16 rfl rfl (Nat.le_of_ble_eq_true rfl) (Nat.le_refl 0) mh_ret_rfl
abbrev w_X5_column (sh : List mh_C) (Φ : mh_P) (I : mh_I) (L : mh_L) (pc : Nat) (lv : List (Nat × Value)) (st : List Value) : Prop := mh_W RX5 cX5_column 7 (some .int) false (mh_rm 5) 46 0 0 mh_noX Φ 0 sh I L pc lv st
def X5_column_l37 (u1 : Int32) (k65 : (Int64 → Option (Int32 × mh_I × mh_L))) : Nat → Int64 → Int32 → Option (Int32 × mh_I × mh_L)
  | 0, _, _ => none
  | n + 1, u4, u6 => if (8 : Int32) ≤ u6 then (k65 u4) else (X5_bit ((u6 * (6 : Int32)) + u1)).bind (fun q4 => mh_b (u4 ||| q4) (fun b5 => mh_b (u6 + (1 : Int32)) (fun b6 => (X5_column_l37 u1 k65 n b5 b6))))
set_option maxHeartbeats 4000000 in
set_option maxRecDepth 100000 in
theorem t_X5_column_l37 {into : Option Nat} {u1 : Int32} {u2 : Int32} {u3 : Int32} {k65 : (Int64 → Option (Int32 × mh_I × mh_L))} {I : mh_I} {L : mh_L} {res : Int32 × mh_I × mh_L} (n : Nat) (u4 : Int64) (u6 : Int32) (h : X5_column_l37 u1 k65 n u4 u6 = some res) (hk65 : ∀ (u4 : Int64), k65 u4 = some res → w_X5_column (SHX into) (mh_ret (some (.int res.1)) (SHX into) res.2.1 res.2.2) I L 65 [(0, .ref 0), (2, .int u2), (3, .int u3), (4, .long u4)] []) : w_X5_column (SHX into) (mh_ret (some (.int res.1)) (SHX into) res.2.1 res.2.2) I L 37 [(0, .ref 0), (1, .int u1), (2, .int u2), (3, .int u3), (4, .long u4), (6, .int u6)] [] := by
  induction n generalizing u4 u6 with
  | zero => rw [X5_column_l37] at h; cases h
  | succ n ih =>
    rw [X5_column_l37] at h
    refine mw_iload dX5_column_37 5 rfl ?_
    refine mw_bipush (v := 8) dX5_column_39 (by decide) ?_
    refine mw_icmp_ge (tgt := 65) dX5_column_41 (by decide) (fun hc7 => ?_) (fun hc7 => ?_)
    · replace h := mh_ifp hc7 h
      refine mw_loc [0, 2, 3, 4] rfl ?_
      exact hk65 _ h
    · replace h := mh_ifn hc7 h
      refine mw_lload dX5_column_44 4 rfl ?_
      refine mw_iload dX5_column_46 5 rfl ?_
      refine mw_bipush (v := 6) dX5_column_48 (by decide) ?_
      refine mw_imul dX5_column_50 ?_
      refine mw_iload_n dX5_column_51 1 rfl ?_
      refine mw_iadd dX5_column_52 ?_
      obtain ⟨q4, hq4, h⟩ := mh_bind h
      refine mw_sr (dc := 0) cs_X5_143 wd_34 dX5_column_53 [.int ((u6 * (6 : Int32)) + u1)] [.int ((u6 * (6 : Int32)) + u1), .long u4] rfl rfl (t_X5_bit hq4) ⟨by decide, by decide⟩ (Nat.le_of_ble_eq_true rfl) ⟨rfl, rfl⟩ ?_
      refine mw_lor dX5_column_56 ?_
      obtain ⟨b5, eb5, h⟩ := mh_b_some h
      refine mw_nml eb5 ?_
      refine mw_lstore dX5_column_57 (by decide) rfl ?_
      obtain ⟨b6, eb6, h⟩ := mh_b_some h
      refine mw_iinc (v := b6) dX5_column_59 5 rfl (by rw [← eb6]; rfl) (by decide) rfl ?_
      refine mw_goto (tgt := 37) dX5_column_62 (by decide) ?_
      refine mw_loc [2, 3, 4, 5, 1, 0] rfl ?_
      exact ih _ _ h
def X5_column (p1 : Int32) (p2 : Int32) (p3 : Int32) (I : mh_I) (L : mh_L) : Option (Int32 × mh_I × mh_L) := (X5_within p1 (0 : Int32) (5 : Int32)).bind (fun q1 => if q1 = 0 then some ((-5 : Int32), I, L) else (X5_isPull p2).bind (fun q2 => if q2 = 0 then some ((-7 : Int32), I, L) else (X5_within p3 (0 : Int32) (1 : Int32)).bind (fun q3 => if q3 = 0 then some ((-7 : Int32), I, L) else X5_column_l37 p1 (fun (v8 : Int64) => (X5_law I).bind (fun q9 => (X0_runFrom 10 1 q9 v8 (0 : Int64) p2 I L).bind (fun q10 => mh_j (fun (s11 : Int64) => (J13_bitCount_95d88 s11).bind (fun q14 => some (q14, q10.2.1, q10.2.2))) (fun J12 => if p3 = 0 then (J12 (q10.2.2 10 1)) else (J12 ((q10.2.2 10 1) &&& (v8 ^^^ (-1 : Int64)))))))) mh_fuel (0 : Int64) (0 : Int32))))
set_option maxHeartbeats 4000000 in
set_option maxRecDepth 100000 in
theorem t_X5_column {into : Option Nat} {L : mh_L} {I : mh_I} {p1 : Int32} {p2 : Int32} {p3 : Int32} {res : Int32 × mh_I × mh_L} (h : X5_column p1 p2 p3 I L = some res) : mh_CT yX5_column cX5_column 7 (some .int) (mh_rm 5) (SHX into) I L [.ref 0, .int p1, .int p2, .int p3] (mh_ret (some (.int res.1)) (SHX into) res.2.1 res.2.2) := by
  refine mh_ofW (ini := false) RX5 rfl (by decide) (fun h => by cases h) (Nat.le_of_ble_eq_true rfl) ?_
  show w_X5_column (SHX into) (mh_ret (some (.int res.1)) (SHX into) res.2.1 res.2.2) I L 0 [(0, .ref 0), (1, .int p1), (2, .int p2), (3, .int p3)] []
  unfold X5_column at h
  refine mw_iload_n dX5_column_0 1 rfl ?_
  refine mw_iconst (v := 0) dX5_column_1 (by decide) ?_
  refine mw_iconst (v := 5) dX5_column_2 (by decide) ?_
  obtain ⟨q1, hq1, h⟩ := mh_bind h
  refine mw_sz (dc := 0) cs_X5_97 wd_28 dX5_column_3 [.int p1, .int (0 : Int32), .int (5 : Int32)] [.int (5 : Int32), .int (0 : Int32), .int p1] rfl rfl (t_X5_within hq1) ⟨by decide, by decide⟩ (Nat.le_of_ble_eq_true rfl) ⟨rfl, rfl⟩ (fun zq1 => ?_)
  refine mw_if_ne (tgt := 12) dX5_column_6 (by decide) (fun hc17 => ?_) (fun hc17 => ?_)
  · replace h := mh_ifn hc17 h
    refine mw_iload_n dX5_column_12 2 rfl ?_
    obtain ⟨q2, hq2, h⟩ := mh_bind h
    refine mw_sz (dc := 1) cs_X5_104 wd_42 dX5_column_13 [.int p2] [.int p2] rfl rfl (t_X5_isPull hq2) ⟨by decide, by decide⟩ (Nat.le_of_ble_eq_true rfl) ⟨rfl, rfl⟩ (fun zq2 => ?_)
    refine mw_if_eq (tgt := 28) dX5_column_16 (by decide) (fun hc16 => ?_) (fun hc16 => ?_)
    · replace h := mh_ifp hc16 h
      refine mw_bipush (v := -7) dX5_column_28 (by decide) ?_
      obtain rfl := Option.some.inj h
      exact mw_iret dX5_column_30 rfl rfl (Nat.le_of_ble_eq_true rfl) (Nat.le_refl 0) mh_ret_rfl
    · replace h := mh_ifn hc16 h
      refine mw_iload_n dX5_column_19 3 rfl ?_
      refine mw_iconst (v := 0) dX5_column_20 (by decide) ?_
      refine mw_iconst (v := 1) dX5_column_21 (by decide) ?_
      obtain ⟨q3, hq3, h⟩ := mh_bind h
      refine mw_sz (dc := 0) cs_X5_97 wd_28 dX5_column_22 [.int p3, .int (0 : Int32), .int (1 : Int32)] [.int (1 : Int32), .int (0 : Int32), .int p3] rfl rfl (t_X5_within hq3) ⟨by decide, by decide⟩ (Nat.le_of_ble_eq_true rfl) ⟨rfl, rfl⟩ (fun zq3 => ?_)
      refine mw_if_ne (tgt := 31) dX5_column_25 (by decide) (fun hc15 => ?_) (fun hc15 => ?_)
      · replace h := mh_ifn hc15 h
        refine mw_lconst (v := 0) dX5_column_31 (by decide) ?_
        refine mw_lstore dX5_column_32 (by decide) rfl ?_
        refine mw_iconst (v := 0) dX5_column_34 (by decide) ?_
        refine mw_istore dX5_column_35 (by decide) rfl ?_
        refine mw_loc [2, 3, 4, 5, 1, 0] rfl ?_
        refine t_X5_column_l37  _ _ _ h (fun v8 h => ?_)
        refine mw_aload_n dX5_column_65 0 rfl ?_
        refine mw_getr (b := 10) (fs := fsX5) gf_X5_35 dX5_column_66 rfl rfl ?_
        refine mw_aload_n dX5_column_69 0 rfl ?_
        refine mw_getr (b := 1) (fs := fsX5) gf_X5_10 dX5_column_70 rfl rfl ?_
        refine mw_aload_n dX5_column_73 0 rfl ?_
        obtain ⟨q9, hq9, h⟩ := mh_bind h
        refine mw_vr (dc := 0) (ci := 5) (fs := fsX5) (T := TX5) (N := 9) cv_X5_107 wd_51 dX5_column_74 [] [.ref 0, .ref 1, .ref 10] rfl rfl rfl rfl (t_X5_law hq9) ⟨by decide, by decide⟩ (Nat.le_of_ble_eq_true rfl) ⟨rfl, rfl⟩ ?_
        refine mw_lload dX5_column_77 3 rfl ?_
        refine mw_lconst (v := 0) dX5_column_79 (by decide) ?_
        refine mw_iload_n dX5_column_80 1 rfl ?_
        obtain ⟨q10, hq10, h⟩ := mh_bind h
        refine mw_vr (dc := 4) (ci := 0) (fs := (fsX0 10)) (T := TX0) (N := 3) cv_X5_182 wd_56 dX5_column_81 [.ref 1, .ref q9, .long v8, .long (0 : Int64), .int p2] [.int p2, .long (0 : Int64), .long v8, .ref q9, .ref 1, .ref 10] rfl rfl (sx_fall into).1 rfl (t_X0_runFrom (sx_fall into) (sx_piece into) (t_X5_law_fact hq9) hq10) ⟨by decide, by decide⟩ (Nat.le_of_ble_eq_true rfl) ⟨rfl, rfl⟩ ?_
        refine mw_pop dX5_column_84 rfl ?_
        refine mw_iload_n dX5_column_85 2 rfl ?_
        refine mh_jw (fun J12 => ∀ (s11 : Int64), J12 s11 = some res → w_X5_column (SHX into) (mh_ret (some (.int res.1)) (SHX into) res.2.1 res.2.2) q10.2.1 q10.2.2 113 [] [.long s11]) h (fun s11 h => ?_) (fun J12 hJ12 h => ?_)
        · obtain ⟨q14, hq14, h⟩ := mh_bind h
          refine mw_sr (dc := 0) cs_X5_74 wd_121 dX5_column_113 [.long s11] [.long s11] rfl rfl (t_J13_bitCount_95d88 hq14) ⟨by decide, by decide⟩ (Nat.le_of_ble_eq_true rfl) ⟨rfl, rfl⟩ ?_
          obtain rfl := Option.some.inj h
          exact mw_iret dX5_column_116 rfl rfl (Nat.le_of_ble_eq_true rfl) (Nat.le_refl 0) mh_ret_rfl
        · refine mw_if_ne (tgt := 99) dX5_column_86 (by decide) (fun hc13 => ?_) (fun hc13 => ?_)
          · replace h := mh_ifn hc13 h
            refine mw_aload_n dX5_column_99 0 rfl ?_
            refine mw_getr (b := 10) (fs := fsX5) gf_X5_35 dX5_column_100 rfl rfl ?_
            refine mw_getl (fs := (fsX0 10)) gf_X5_167 dX5_column_103 (sx_fall into).1 rfl ?_
            refine mw_lload dX5_column_106 3 rfl ?_
            refine mw_ldc2 dX5_column_108 wd_35 ?_
            refine mw_lxor dX5_column_111 ?_
            refine mw_land dX5_column_112 ?_
            refine mw_loc [] rfl ?_
            exact hJ12 _ h
          · replace h := mh_ifp hc13 h
            refine mw_aload_n dX5_column_89 0 rfl ?_
            refine mw_getr (b := 10) (fs := fsX5) gf_X5_35 dX5_column_90 rfl rfl ?_
            refine mw_getl (fs := (fsX0 10)) gf_X5_167 dX5_column_93 (sx_fall into).1 rfl ?_
            refine mw_goto (tgt := 113) dX5_column_96 (by decide) ?_
            refine mw_loc [] rfl ?_
            exact hJ12 _ h
      · replace h := mh_ifp hc15 h
        refine mw_bipush (v := -7) dX5_column_28 (by decide) ?_
        obtain rfl := Option.some.inj h
        exact mw_iret dX5_column_30 rfl rfl (Nat.le_of_ble_eq_true rfl) (Nat.le_refl 0) mh_ret_rfl
  · replace h := mh_ifp hc17 h
    refine mw_bipush (v := -5) dX5_column_9 (by decide) ?_
    obtain rfl := Option.some.inj h
    exact mw_iret dX5_column_11 rfl rfl (Nat.le_of_ble_eq_true rfl) (Nat.le_refl 0) mh_ret_rfl
abbrev w_X5_dropPinned (sh : List mh_C) (Φ : mh_P) (I : mh_I) (L : mh_L) (pc : Nat) (lv : List (Nat × Value)) (st : List Value) : Prop := mh_W RX5 cX5_dropPinned 5 (some .int) false (mh_rm 5) 46 0 0 mh_noX Φ 0 sh I L pc lv st
def X5_dropPinned (p1 : Int32) (p2 : Int32) (p3 : Int64) (I : mh_I) (L : mh_L) : Option (Int32 × mh_I × mh_L) := (X5_law I).bind (fun q1 => (X5_bit p1).bind (fun q2 => (X0_runFrom 10 1 q1 q2 p3 p2 I L).bind (fun q3 => some (q3.1, q3.2.1, q3.2.2))))
set_option maxHeartbeats 4000000 in
set_option maxRecDepth 100000 in
theorem t_X5_dropPinned {into : Option Nat} {L : mh_L} {I : mh_I} {p1 : Int32} {p2 : Int32} {p3 : Int64} {res : Int32 × mh_I × mh_L} (h : X5_dropPinned p1 p2 p3 I L = some res) : mh_CT yX5_dropPinned cX5_dropPinned 5 (some .int) (mh_rm 5) (SHX into) I L [.ref 0, .int p1, .int p2, .long p3] (mh_ret (some (.int res.1)) (SHX into) res.2.1 res.2.2) := by
  refine mh_ofW (ini := false) RX5 rfl (by decide) (fun h => by cases h) (Nat.le_of_ble_eq_true rfl) ?_
  show w_X5_dropPinned (SHX into) (mh_ret (some (.int res.1)) (SHX into) res.2.1 res.2.2) I L 0 [(0, .ref 0), (1, .int p1), (2, .int p2), (3, .long p3)] []
  unfold X5_dropPinned at h
  refine mw_aload_n dX5_dropPinned_0 0 rfl ?_
  refine mw_getr (b := 10) (fs := fsX5) gf_X5_35 dX5_dropPinned_1 rfl rfl ?_
  refine mw_aload_n dX5_dropPinned_4 0 rfl ?_
  refine mw_getr (b := 1) (fs := fsX5) gf_X5_10 dX5_dropPinned_5 rfl rfl ?_
  refine mw_aload_n dX5_dropPinned_8 0 rfl ?_
  obtain ⟨q1, hq1, h⟩ := mh_bind h
  refine mw_vr (dc := 0) (ci := 5) (fs := fsX5) (T := TX5) (N := 9) cv_X5_107 wd_51 dX5_dropPinned_9 [] [.ref 0, .ref 1, .ref 10] rfl rfl rfl rfl (t_X5_law hq1) ⟨by decide, by decide⟩ (Nat.le_of_ble_eq_true rfl) ⟨rfl, rfl⟩ ?_
  refine mw_iload_n dX5_dropPinned_12 1 rfl ?_
  obtain ⟨q2, hq2, h⟩ := mh_bind h
  refine mw_sr (dc := 0) cs_X5_143 wd_34 dX5_dropPinned_13 [.int p1] [.int p1, .ref q1, .ref 1, .ref 10] rfl rfl (t_X5_bit hq2) ⟨by decide, by decide⟩ (Nat.le_of_ble_eq_true rfl) ⟨rfl, rfl⟩ ?_
  refine mw_lload_n dX5_dropPinned_16 3 rfl ?_
  refine mw_iload_n dX5_dropPinned_17 2 rfl ?_
  obtain ⟨q3, hq3, h⟩ := mh_bind h
  refine mw_vr (dc := 4) (ci := 0) (fs := (fsX0 10)) (T := TX0) (N := 3) cv_X5_182 wd_56 dX5_dropPinned_18 [.ref 1, .ref q1, .long q2, .long p3, .int p2] [.int p2, .long p3, .long q2, .ref q1, .ref 1, .ref 10] rfl rfl (sx_fall into).1 rfl (t_X0_runFrom (sx_fall into) (sx_piece into) (t_X5_law_fact hq1) hq3) ⟨by decide, by decide⟩ (Nat.le_of_ble_eq_true rfl) ⟨rfl, rfl⟩ ?_
  obtain rfl := Option.some.inj h
  exact mw_iret dX5_dropPinned_21 rfl rfl (Nat.le_of_ble_eq_true rfl) (Nat.le_refl 0) mh_ret_rfl
abbrev w_X5_pinned (sh : List mh_C) (Φ : mh_P) (I : mh_I) (L : mh_L) (pc : Nat) (lv : List (Nat × Value)) (st : List Value) : Prop := mh_W RX5 cX5_pinned 9 (some .int) false (mh_rm 6) 46 0 0 mh_noX Φ 0 sh I L pc lv st
def X5_pinned_l83 (u1 : Int32) (u2 : Int32) (u3 : Int32) (u5 : Int64) (k115 : (Int32 → mh_I → mh_L → Option (Int32 × mh_I × mh_L))) (k143 : (mh_I → mh_L → Option (Int32 × mh_I × mh_L))) : Nat → Int32 → mh_I → mh_L → Option (Int32 × mh_I × mh_L)
  | 0, _, _, _ => none
  | n + 1, u7, I, L => if (48 : Int32) ≤ u7 then (k143 I L) else (X5_hasBit u5 u7).bind (fun q8 => mh_j (fun (I9 : mh_I) (L10 : mh_L) => mh_b (u7 + (1 : Int32)) (fun b16 => (X5_pinned_l83 u1 u2 u3 u5 k115 k143 n b16 I9 L10))) (fun J11 => if q8 = 0 then (J11 I L) else (X5_bit u7).bind (fun q12 => (X5_dropPinned u1 u2 q12 I L).bind (fun q13 => if u3 < q13.1 then (J11 q13.2.1 q13.2.2) else (k115 u7 q13.2.1 q13.2.2)))))
set_option maxHeartbeats 4000000 in
set_option maxRecDepth 100000 in
theorem t_X5_pinned_l83 {into : Option Nat} {u1 : Int32} {u2 : Int32} {u3 : Int32} {u4 : Int32} {u5 : Int64} {k115 : (Int32 → mh_I → mh_L → Option (Int32 × mh_I × mh_L))} {k143 : (mh_I → mh_L → Option (Int32 × mh_I × mh_L))} {res : Int32 × mh_I × mh_L} (n : Nat) (u7 : Int32) (I : mh_I) (L : mh_L) (h : X5_pinned_l83 u1 u2 u3 u5 k115 k143 n u7 I L = some res) (hk115 : ∀ (u7 : Int32) (I : mh_I) (L : mh_L), k115 u7 I L = some res → w_X5_pinned (SHX into) (mh_ret (some (.int res.1)) (SHX into) res.2.1 res.2.2) I L 115 [(4, .int u4), (7, .int u7)] []) (hk143 : ∀ (I : mh_I) (L : mh_L), k143 I L = some res → w_X5_pinned (SHX into) (mh_ret (some (.int res.1)) (SHX into) res.2.1 res.2.2) I L 143 [(0, .ref 0), (1, .int u1), (2, .int u2), (3, .int u3), (4, .int u4), (5, .long u5)] []) : w_X5_pinned (SHX into) (mh_ret (some (.int res.1)) (SHX into) res.2.1 res.2.2) I L 83 [(0, .ref 0), (1, .int u1), (2, .int u2), (3, .int u3), (4, .int u4), (5, .long u5), (7, .int u7)] [] := by
  induction n generalizing u7 I L with
  | zero => rw [X5_pinned_l83] at h; cases h
  | succ n ih =>
    rw [X5_pinned_l83] at h
    refine mw_iload dX5_pinned_83 6 rfl ?_
    refine mw_bipush (v := 48) dX5_pinned_85 (by decide) ?_
    refine mw_icmp_ge (tgt := 143) dX5_pinned_87 (by decide) (fun hc17 => ?_) (fun hc17 => ?_)
    · replace h := mh_ifp hc17 h
      refine mw_loc [0, 1, 2, 3, 4, 5] rfl ?_
      exact hk143 _ _ h
    · replace h := mh_ifn hc17 h
      refine mw_lload dX5_pinned_90 5 rfl ?_
      refine mw_iload dX5_pinned_92 6 rfl ?_
      obtain ⟨q8, hq8, h⟩ := mh_bind h
      refine mw_sz (dc := 0) cs_X5_139 wd_31 dX5_pinned_94 [.long u5, .int u7] [.int u7, .long u5] rfl rfl (t_X5_hasBit hq8) ⟨by decide, by decide⟩ (Nat.le_of_ble_eq_true rfl) ⟨rfl, rfl⟩ (fun zq8 => ?_)
      refine mh_jw (fun J11 => ∀ (I9 : mh_I) (L10 : mh_L), J11 I9 L10 = some res → w_X5_pinned (SHX into) (mh_ret (some (.int res.1)) (SHX into) res.2.1 res.2.2) I9 L10 137 [(0, .ref 0), (1, .int u1), (2, .int u2), (3, .int u3), (4, .int u4), (5, .long u5), (7, .int u7)] []) h (fun I9 L10 h => ?_) (fun J11 hJ11 h => ?_)
      · obtain ⟨b16, eb16, h⟩ := mh_b_some h
        refine mw_iinc (v := b16) dX5_pinned_137 6 rfl (by rw [← eb16]; rfl) (by decide) rfl ?_
        refine mw_goto (tgt := 83) dX5_pinned_140 (by decide) ?_
        refine mw_loc [1, 2, 3, 4, 5, 6, 0] rfl ?_
        exact ih _ _ _ h
      · refine mw_if_eq (tgt := 137) dX5_pinned_97 (by decide) (fun hc15 => ?_) (fun hc15 => ?_)
        · replace h := mh_ifp hc15 h
          refine mw_loc [0, 1, 2, 3, 4, 5, 6] rfl ?_
          exact hJ11 _ _ h
        · replace h := mh_ifn hc15 h
          refine mw_aload_n dX5_pinned_100 0 rfl ?_
          refine mw_iload_n dX5_pinned_101 1 rfl ?_
          refine mw_iload_n dX5_pinned_102 2 rfl ?_
          refine mw_iload dX5_pinned_103 6 rfl ?_
          obtain ⟨q12, hq12, h⟩ := mh_bind h
          refine mw_sr (dc := 0) cs_X5_143 wd_34 dX5_pinned_105 [.int u7] [.int u7, .int u2, .int u1, .ref 0] rfl rfl (t_X5_bit hq12) ⟨by decide, by decide⟩ (Nat.le_of_ble_eq_true rfl) ⟨rfl, rfl⟩ ?_
          obtain ⟨q13, hq13, h⟩ := mh_bind h
          refine mw_vr (dc := 5) (ci := 5) (fs := fsX5) (T := TX5) (N := 9) cv_X5_209 wd_162 dX5_pinned_108 [.int u1, .int u2, .long q12] [.long q12, .int u2, .int u1, .ref 0] rfl rfl rfl rfl (t_X5_dropPinned hq13) ⟨by decide, by decide⟩ (Nat.le_of_ble_eq_true rfl) ⟨rfl, rfl⟩ ?_
          refine mw_iload_n dX5_pinned_111 3 rfl ?_
          refine mw_icmp_gt (tgt := 137) dX5_pinned_112 (by decide) (fun hc14 => ?_) (fun hc14 => ?_)
          · replace h := mh_ifp hc14 h
            refine mw_loc [0, 1, 2, 3, 4, 5, 6] rfl ?_
            exact hJ11 _ _ h
          · replace h := mh_ifn hc14 h
            refine mw_loc [4, 6] rfl ?_
            exact hk115 _ _ _ h
def X5_pinned_l159 (u1 : Int32) (u2 : Int32) (u3 : Int32) (u5 : Int64) (u7 : Int32) (k207 : (Int32 → mh_I → mh_L → Option (Int32 × mh_I × mh_L))) (k236 : (mh_I → mh_L → Option (Int32 × mh_I × mh_L))) : Nat → Int32 → mh_I → mh_L → Option (Int32 × mh_I × mh_L)
  | 0, _, _, _ => none
  | n + 1, u8, I, L => if (48 : Int32) ≤ u8 then (k236 I L) else (X5_hasBit u5 u7).bind (fun q26 => mh_j (fun (I27 : mh_I) (L28 : mh_L) => mh_b (u8 + (1 : Int32)) (fun b37 => (X5_pinned_l159 u1 u2 u3 u5 u7 k207 k236 n b37 I27 L28))) (fun J29 => if q26 = 0 then (J29 I L) else (X5_hasBit u5 u8).bind (fun q30 => if q30 = 0 then (J29 I L) else (X5_bit u7).bind (fun q31 => (X5_bit u8).bind (fun q32 => (X5_dropPinned u1 u2 (q31 ||| q32) I L).bind (fun q33 => if u3 < q33.1 then (J29 q33.2.1 q33.2.2) else (k207 u8 q33.2.1 q33.2.2)))))))
set_option maxHeartbeats 4000000 in
set_option maxRecDepth 100000 in
theorem t_X5_pinned_l159 {into : Option Nat} {u1 : Int32} {u2 : Int32} {u3 : Int32} {u4 : Int32} {u5 : Int64} {u7 : Int32} {k207 : (Int32 → mh_I → mh_L → Option (Int32 × mh_I × mh_L))} {k236 : (mh_I → mh_L → Option (Int32 × mh_I × mh_L))} {res : Int32 × mh_I × mh_L} (n : Nat) (u8 : Int32) (I : mh_I) (L : mh_L) (h : X5_pinned_l159 u1 u2 u3 u5 u7 k207 k236 n u8 I L = some res) (hk207 : ∀ (u8 : Int32) (I : mh_I) (L : mh_L), k207 u8 I L = some res → w_X5_pinned (SHX into) (mh_ret (some (.int res.1)) (SHX into) res.2.1 res.2.2) I L 207 [(4, .int u4), (7, .int u7), (8, .int u8)] []) (hk236 : ∀ (I : mh_I) (L : mh_L), k236 I L = some res → w_X5_pinned (SHX into) (mh_ret (some (.int res.1)) (SHX into) res.2.1 res.2.2) I L 236 [(0, .ref 0), (1, .int u1), (2, .int u2), (3, .int u3), (4, .int u4), (5, .long u5), (7, .int u7)] []) : w_X5_pinned (SHX into) (mh_ret (some (.int res.1)) (SHX into) res.2.1 res.2.2) I L 159 [(0, .ref 0), (1, .int u1), (2, .int u2), (3, .int u3), (4, .int u4), (5, .long u5), (7, .int u7), (8, .int u8)] [] := by
  induction n generalizing u8 I L with
  | zero => rw [X5_pinned_l159] at h; cases h
  | succ n ih =>
    rw [X5_pinned_l159] at h
    refine mw_iload dX5_pinned_159 7 rfl ?_
    refine mw_bipush (v := 48) dX5_pinned_161 (by decide) ?_
    refine mw_icmp_ge (tgt := 236) dX5_pinned_163 (by decide) (fun hc38 => ?_) (fun hc38 => ?_)
    · replace h := mh_ifp hc38 h
      refine mw_loc [0, 1, 2, 3, 4, 5, 6] rfl ?_
      exact hk236 _ _ h
    · replace h := mh_ifn hc38 h
      refine mw_lload dX5_pinned_166 5 rfl ?_
      refine mw_iload dX5_pinned_168 6 rfl ?_
      obtain ⟨q26, hq26, h⟩ := mh_bind h
      refine mw_sz (dc := 0) cs_X5_139 wd_31 dX5_pinned_170 [.long u5, .int u7] [.int u7, .long u5] rfl rfl (t_X5_hasBit hq26) ⟨by decide, by decide⟩ (Nat.le_of_ble_eq_true rfl) ⟨rfl, rfl⟩ (fun zq26 => ?_)
      refine mh_jw (fun J29 => ∀ (I27 : mh_I) (L28 : mh_L), J29 I27 L28 = some res → w_X5_pinned (SHX into) (mh_ret (some (.int res.1)) (SHX into) res.2.1 res.2.2) I27 L28 230 [(0, .ref 0), (1, .int u1), (2, .int u2), (3, .int u3), (4, .int u4), (5, .long u5), (7, .int u7), (8, .int u8)] []) h (fun I27 L28 h => ?_) (fun J29 hJ29 h => ?_)
      · obtain ⟨b37, eb37, h⟩ := mh_b_some h
        refine mw_iinc (v := b37) dX5_pinned_230 7 rfl (by rw [← eb37]; rfl) (by decide) rfl ?_
        refine mw_goto (tgt := 159) dX5_pinned_233 (by decide) ?_
        refine mw_loc [1, 2, 3, 4, 5, 6, 7, 0] rfl ?_
        exact ih _ _ _ h
      · refine mw_if_eq (tgt := 230) dX5_pinned_173 (by decide) (fun hc36 => ?_) (fun hc36 => ?_)
        · replace h := mh_ifp hc36 h
          refine mw_loc [0, 1, 2, 3, 4, 5, 6, 7] rfl ?_
          exact hJ29 _ _ h
        · replace h := mh_ifn hc36 h
          refine mw_lload dX5_pinned_176 5 rfl ?_
          refine mw_iload dX5_pinned_178 7 rfl ?_
          obtain ⟨q30, hq30, h⟩ := mh_bind h
          refine mw_sz (dc := 0) cs_X5_139 wd_31 dX5_pinned_180 [.long u5, .int u8] [.int u8, .long u5] rfl rfl (t_X5_hasBit hq30) ⟨by decide, by decide⟩ (Nat.le_of_ble_eq_true rfl) ⟨rfl, rfl⟩ (fun zq30 => ?_)
          refine mw_if_eq (tgt := 230) dX5_pinned_183 (by decide) (fun hc35 => ?_) (fun hc35 => ?_)
          · replace h := mh_ifp hc35 h
            refine mw_loc [0, 1, 2, 3, 4, 5, 6, 7] rfl ?_
            exact hJ29 _ _ h
          · replace h := mh_ifn hc35 h
            refine mw_aload_n dX5_pinned_186 0 rfl ?_
            refine mw_iload_n dX5_pinned_187 1 rfl ?_
            refine mw_iload_n dX5_pinned_188 2 rfl ?_
            refine mw_iload dX5_pinned_189 6 rfl ?_
            obtain ⟨q31, hq31, h⟩ := mh_bind h
            refine mw_sr (dc := 0) cs_X5_143 wd_34 dX5_pinned_191 [.int u7] [.int u7, .int u2, .int u1, .ref 0] rfl rfl (t_X5_bit hq31) ⟨by decide, by decide⟩ (Nat.le_of_ble_eq_true rfl) ⟨rfl, rfl⟩ ?_
            refine mw_iload dX5_pinned_194 7 rfl ?_
            obtain ⟨q32, hq32, h⟩ := mh_bind h
            refine mw_sr (dc := 0) cs_X5_143 wd_34 dX5_pinned_196 [.int u8] [.int u8, .long q31, .int u2, .int u1, .ref 0] rfl rfl (t_X5_bit hq32) ⟨by decide, by decide⟩ (Nat.le_of_ble_eq_true rfl) ⟨rfl, rfl⟩ ?_
            refine mw_lor dX5_pinned_199 ?_
            obtain ⟨q33, hq33, h⟩ := mh_bind h
            refine mw_vr (dc := 5) (ci := 5) (fs := fsX5) (T := TX5) (N := 9) cv_X5_209 wd_162 dX5_pinned_200 [.int u1, .int u2, .long (q31 ||| q32)] [.long (q31 ||| q32), .int u2, .int u1, .ref 0] rfl rfl rfl rfl (t_X5_dropPinned hq33) ⟨by decide, by decide⟩ (Nat.le_of_ble_eq_true rfl) ⟨rfl, rfl⟩ ?_
            refine mw_iload_n dX5_pinned_203 3 rfl ?_
            refine mw_icmp_gt (tgt := 230) dX5_pinned_204 (by decide) (fun hc34 => ?_) (fun hc34 => ?_)
            · replace h := mh_ifp hc34 h
              refine mw_loc [0, 1, 2, 3, 4, 5, 6, 7] rfl ?_
              exact hJ29 _ _ h
            · replace h := mh_ifn hc34 h
              refine mw_loc [4, 6, 7] rfl ?_
              exact hk207 _ _ _ h
def X5_pinned_l146 (u1 : Int32) (u2 : Int32) (u3 : Int32) (u5 : Int64) (k207 : (Int32 → Int32 → mh_I → mh_L → Option (Int32 × mh_I × mh_L))) : Nat → Int32 → mh_I → mh_L → Option (Int32 × mh_I × mh_L)
  | 0, _, _, _ => none
  | n + 1, u7, I, L => if (48 : Int32) ≤ u7 then some ((-1 : Int32), I, L) else mh_b (u7 + (1 : Int32)) (fun b25 => X5_pinned_l159 u1 u2 u3 u5 u7 (fun (v39 : Int32) (I40 : mh_I) (L41 : mh_L) => (k207 u7 v39 I40 L41)) (fun (I42 : mh_I) (L43 : mh_L) => mh_b (u7 + (1 : Int32)) (fun b44 => (X5_pinned_l146 u1 u2 u3 u5 k207 n b44 I42 L43))) mh_fuel b25 I L)
set_option maxHeartbeats 4000000 in
set_option maxRecDepth 100000 in
theorem t_X5_pinned_l146 {into : Option Nat} {u1 : Int32} {u2 : Int32} {u3 : Int32} {u4 : Int32} {u5 : Int64} {k207 : (Int32 → Int32 → mh_I → mh_L → Option (Int32 × mh_I × mh_L))} {res : Int32 × mh_I × mh_L} (n : Nat) (u7 : Int32) (I : mh_I) (L : mh_L) (h : X5_pinned_l146 u1 u2 u3 u5 k207 n u7 I L = some res) (hk207 : ∀ (u7 : Int32) (u8 : Int32) (I : mh_I) (L : mh_L), k207 u7 u8 I L = some res → w_X5_pinned (SHX into) (mh_ret (some (.int res.1)) (SHX into) res.2.1 res.2.2) I L 207 [(4, .int u4), (7, .int u7), (8, .int u8)] []) : w_X5_pinned (SHX into) (mh_ret (some (.int res.1)) (SHX into) res.2.1 res.2.2) I L 146 [(0, .ref 0), (1, .int u1), (2, .int u2), (3, .int u3), (4, .int u4), (5, .long u5), (7, .int u7)] [] := by
  induction n generalizing u7 I L with
  | zero => rw [X5_pinned_l146] at h; cases h
  | succ n ih =>
    rw [X5_pinned_l146] at h
    refine mw_iload dX5_pinned_146 6 rfl ?_
    refine mw_bipush (v := 48) dX5_pinned_148 (by decide) ?_
    refine mw_icmp_ge (tgt := 242) dX5_pinned_150 (by decide) (fun hc45 => ?_) (fun hc45 => ?_)
    · replace h := mh_ifp hc45 h
      refine mw_iconst (v := -1) dX5_pinned_242 (by decide) ?_
      obtain rfl := Option.some.inj h
      exact mw_iret dX5_pinned_243 rfl rfl (Nat.le_of_ble_eq_true rfl) (Nat.le_refl 0) mh_ret_rfl
    · replace h := mh_ifn hc45 h
      refine mw_iload dX5_pinned_153 6 rfl ?_
      refine mw_iconst (v := 1) dX5_pinned_155 (by decide) ?_
      refine mw_iadd dX5_pinned_156 ?_
      obtain ⟨b25, eb25, h⟩ := mh_b_some h
      refine mw_nmi eb25 ?_
      refine mw_istore dX5_pinned_157 (by decide) rfl ?_
      refine mw_loc [1, 2, 3, 4, 5, 6, 7, 0] rfl ?_
      refine t_X5_pinned_l159  _ _ _ _ h (fun v39 I40 L41 h => ?_) (fun I42 L43 h => ?_)
      · refine mw_loc [0, 1, 2] rfl ?_
        exact hk207 _ _ _ _ h
      · obtain ⟨b44, eb44, h⟩ := mh_b_some h
        refine mw_iinc (v := b44) dX5_pinned_236 6 rfl (by rw [← eb44]; rfl) (by decide) rfl ?_
        refine mw_goto (tgt := 146) dX5_pinned_239 (by decide) ?_
        refine mw_loc [1, 2, 3, 4, 5, 6, 0] rfl ?_
        exact ih _ _ _ h
def X5_pinned (p1 : Int32) (p2 : Int32) (p3 : Int32) (p4 : Int32) (I : mh_I) (L : mh_L) : Option (Int32 × mh_I × mh_L) := (X5_isLoop p1).bind (fun q1 => if q1 = 0 then some ((-5 : Int32), I, L) else (X5_isPull p2).bind (fun q2 => if q2 = 0 then some ((-7 : Int32), I, L) else (X5_within p3 (0 : Int32) (48 : Int32)).bind (fun q3 => if q3 = 0 then some ((-7 : Int32), I, L) else (X5_within p4 (0 : Int32) (2 : Int32)).bind (fun q4 => if q4 = 0 then some ((-7 : Int32), I, L) else (X5_dropPinned p1 p2 (0 : Int64) I L).bind (fun q5 => if p3 < q5.1 then (X5_bit p1).bind (fun q6 => mh_b ((q5.2.2 10 1) &&& (q6 ^^^ (-1 : Int64))) (fun b7 => X5_pinned_l83 p1 p2 p3 b7 (fun (v18 : Int32) (I19 : mh_I) (L20 : mh_L) => if p4 = 0 then some ((1 : Int32), I19, L20) else if p4 = (1 : Int32) then some (v18, I19, L20) else some ((-1 : Int32), I19, L20)) (fun (I23 : mh_I) (L24 : mh_L) => X5_pinned_l146 p1 p2 p3 b7 (fun (v46 : Int32) (v47 : Int32) (I48 : mh_I) (L49 : mh_L) => if p4 = 0 then some ((2 : Int32), I48, L49) else if p4 = (1 : Int32) then some (v46, I48, L49) else some (v47, I48, L49)) mh_fuel (0 : Int32) I23 L24) mh_fuel (0 : Int32) q5.2.1 q5.2.2)) else if p4 = 0 then some ((0 : Int32), q5.2.1, q5.2.2) else some ((-1 : Int32), q5.2.1, q5.2.2))))))
set_option maxHeartbeats 4000000 in
set_option maxRecDepth 100000 in
theorem t_X5_pinned {into : Option Nat} {L : mh_L} {I : mh_I} {p1 : Int32} {p2 : Int32} {p3 : Int32} {p4 : Int32} {res : Int32 × mh_I × mh_L} (h : X5_pinned p1 p2 p3 p4 I L = some res) : mh_CT yX5_pinned cX5_pinned 9 (some .int) (mh_rm 6) (SHX into) I L [.ref 0, .int p1, .int p2, .int p3, .int p4] (mh_ret (some (.int res.1)) (SHX into) res.2.1 res.2.2) := by
  refine mh_ofW (ini := false) RX5 rfl (by decide) (fun h => by cases h) (Nat.le_of_ble_eq_true rfl) ?_
  show w_X5_pinned (SHX into) (mh_ret (some (.int res.1)) (SHX into) res.2.1 res.2.2) I L 0 [(0, .ref 0), (1, .int p1), (2, .int p2), (3, .int p3), (4, .int p4)] []
  unfold X5_pinned at h
  refine mw_iload_n dX5_pinned_0 1 rfl ?_
  obtain ⟨q1, hq1, h⟩ := mh_bind h
  refine mw_sz (dc := 1) cs_X5_101 wd_25 dX5_pinned_1 [.int p1] [.int p1] rfl rfl (t_X5_isLoop hq1) ⟨by decide, by decide⟩ (Nat.le_of_ble_eq_true rfl) ⟨rfl, rfl⟩ (fun zq1 => ?_)
  refine mw_if_ne (tgt := 10) dX5_pinned_4 (by decide) (fun hc57 => ?_) (fun hc57 => ?_)
  · replace h := mh_ifn hc57 h
    refine mw_iload_n dX5_pinned_10 2 rfl ?_
    obtain ⟨q2, hq2, h⟩ := mh_bind h
    refine mw_sz (dc := 1) cs_X5_104 wd_42 dX5_pinned_11 [.int p2] [.int p2] rfl rfl (t_X5_isPull hq2) ⟨by decide, by decide⟩ (Nat.le_of_ble_eq_true rfl) ⟨rfl, rfl⟩ (fun zq2 => ?_)
    refine mw_if_eq (tgt := 37) dX5_pinned_14 (by decide) (fun hc56 => ?_) (fun hc56 => ?_)
    · replace h := mh_ifp hc56 h
      refine mw_bipush (v := -7) dX5_pinned_37 (by decide) ?_
      obtain rfl := Option.some.inj h
      exact mw_iret dX5_pinned_39 rfl rfl (Nat.le_of_ble_eq_true rfl) (Nat.le_refl 0) mh_ret_rfl
    · replace h := mh_ifn hc56 h
      refine mw_iload_n dX5_pinned_17 3 rfl ?_
      refine mw_iconst (v := 0) dX5_pinned_18 (by decide) ?_
      refine mw_bipush (v := 48) dX5_pinned_19 (by decide) ?_
      obtain ⟨q3, hq3, h⟩ := mh_bind h
      refine mw_sz (dc := 0) cs_X5_97 wd_28 dX5_pinned_21 [.int p3, .int (0 : Int32), .int (48 : Int32)] [.int (48 : Int32), .int (0 : Int32), .int p3] rfl rfl (t_X5_within hq3) ⟨by decide, by decide⟩ (Nat.le_of_ble_eq_true rfl) ⟨rfl, rfl⟩ (fun zq3 => ?_)
      refine mw_if_eq (tgt := 37) dX5_pinned_24 (by decide) (fun hc55 => ?_) (fun hc55 => ?_)
      · replace h := mh_ifp hc55 h
        refine mw_bipush (v := -7) dX5_pinned_37 (by decide) ?_
        obtain rfl := Option.some.inj h
        exact mw_iret dX5_pinned_39 rfl rfl (Nat.le_of_ble_eq_true rfl) (Nat.le_refl 0) mh_ret_rfl
      · replace h := mh_ifn hc55 h
        refine mw_iload dX5_pinned_27 4 rfl ?_
        refine mw_iconst (v := 0) dX5_pinned_29 (by decide) ?_
        refine mw_iconst (v := 2) dX5_pinned_30 (by decide) ?_
        obtain ⟨q4, hq4, h⟩ := mh_bind h
        refine mw_sz (dc := 0) cs_X5_97 wd_28 dX5_pinned_31 [.int p4, .int (0 : Int32), .int (2 : Int32)] [.int (2 : Int32), .int (0 : Int32), .int p4] rfl rfl (t_X5_within hq4) ⟨by decide, by decide⟩ (Nat.le_of_ble_eq_true rfl) ⟨rfl, rfl⟩ (fun zq4 => ?_)
        refine mw_if_ne (tgt := 40) dX5_pinned_34 (by decide) (fun hc54 => ?_) (fun hc54 => ?_)
        · replace h := mh_ifn hc54 h
          refine mw_aload_n dX5_pinned_40 0 rfl ?_
          refine mw_iload_n dX5_pinned_41 1 rfl ?_
          refine mw_iload_n dX5_pinned_42 2 rfl ?_
          refine mw_lconst (v := 0) dX5_pinned_43 (by decide) ?_
          obtain ⟨q5, hq5, h⟩ := mh_bind h
          refine mw_vr (dc := 5) (ci := 5) (fs := fsX5) (T := TX5) (N := 9) cv_X5_209 wd_162 dX5_pinned_44 [.int p1, .int p2, .long (0 : Int64)] [.long (0 : Int64), .int p2, .int p1, .ref 0] rfl rfl rfl rfl (t_X5_dropPinned hq5) ⟨by decide, by decide⟩ (Nat.le_of_ble_eq_true rfl) ⟨rfl, rfl⟩ ?_
          refine mw_iload_n dX5_pinned_47 3 rfl ?_
          refine mw_icmp_gt (tgt := 62) dX5_pinned_48 (by decide) (fun hc53 => ?_) (fun hc53 => ?_)
          · replace h := mh_ifp hc53 h
            refine mw_aload_n dX5_pinned_62 0 rfl ?_
            refine mw_getr (b := 10) (fs := fsX5) gf_X5_35 dX5_pinned_63 rfl rfl ?_
            refine mw_getl (fs := (fsX0 10)) gf_X5_167 dX5_pinned_66 (sx_fall into).1 rfl ?_
            refine mw_iload_n dX5_pinned_69 1 rfl ?_
            obtain ⟨q6, hq6, h⟩ := mh_bind h
            refine mw_sr (dc := 0) cs_X5_143 wd_34 dX5_pinned_70 [.int p1] [.int p1, .long (q5.2.2 10 1)] rfl rfl (t_X5_bit hq6) ⟨by decide, by decide⟩ (Nat.le_of_ble_eq_true rfl) ⟨rfl, rfl⟩ ?_
            refine mw_ldc2 dX5_pinned_73 wd_35 ?_
            refine mw_lxor dX5_pinned_76 ?_
            refine mw_land dX5_pinned_77 ?_
            obtain ⟨b7, eb7, h⟩ := mh_b_some h
            refine mw_nml eb7 ?_
            refine mw_lstore dX5_pinned_78 (by decide) rfl ?_
            refine mw_iconst (v := 0) dX5_pinned_80 (by decide) ?_
            refine mw_istore dX5_pinned_81 (by decide) rfl ?_
            refine mw_loc [2, 3, 4, 5, 6, 1, 0] rfl ?_
            refine t_X5_pinned_l83  _ _ _ _ h (fun v18 I19 L20 h => ?_) (fun I23 L24 h => ?_)
            · refine mw_iload dX5_pinned_115 0 rfl ?_
              refine mw_if_ne (tgt := 124) dX5_pinned_117 (by decide) (fun hc22 => ?_) (fun hc22 => ?_)
              · replace h := mh_ifn hc22 h
                refine mw_iload dX5_pinned_124 0 rfl ?_
                refine mw_iconst (v := 1) dX5_pinned_126 (by decide) ?_
                refine mw_icmp_ne (tgt := 135) dX5_pinned_127 (by decide) (fun hc21 => ?_) (fun hc21 => ?_)
                · replace h := mh_ifn hc21 h
                  refine mw_iconst (v := -1) dX5_pinned_135 (by decide) ?_
                  obtain rfl := Option.some.inj h
                  exact mw_iret dX5_pinned_136 rfl rfl (Nat.le_of_ble_eq_true rfl) (Nat.le_refl 0) mh_ret_rfl
                · replace h := mh_ifp hc21 h
                  refine mw_iload dX5_pinned_130 1 rfl ?_
                  refine mw_goto (tgt := 136) dX5_pinned_132 (by decide) ?_
                  obtain rfl := Option.some.inj h
                  exact mw_iret dX5_pinned_136 rfl rfl (Nat.le_of_ble_eq_true rfl) (Nat.le_refl 0) mh_ret_rfl
              · replace h := mh_ifp hc22 h
                refine mw_iconst (v := 1) dX5_pinned_120 (by decide) ?_
                refine mw_goto (tgt := 136) dX5_pinned_121 (by decide) ?_
                obtain rfl := Option.some.inj h
                exact mw_iret dX5_pinned_136 rfl rfl (Nat.le_of_ble_eq_true rfl) (Nat.le_refl 0) mh_ret_rfl
            · refine mw_iconst (v := 0) dX5_pinned_143 (by decide) ?_
              refine mw_istore dX5_pinned_144 (by decide) rfl ?_
              refine mw_loc [1, 2, 3, 4, 5, 6, 0] rfl ?_
              refine t_X5_pinned_l146  _ _ _ _ h (fun v46 v47 I48 L49 h => ?_)
              refine mw_iload dX5_pinned_207 0 rfl ?_
              refine mw_if_ne (tgt := 216) dX5_pinned_209 (by decide) (fun hc51 => ?_) (fun hc51 => ?_)
              · replace h := mh_ifn hc51 h
                refine mw_iload dX5_pinned_216 0 rfl ?_
                refine mw_iconst (v := 1) dX5_pinned_218 (by decide) ?_
                refine mw_icmp_ne (tgt := 227) dX5_pinned_219 (by decide) (fun hc50 => ?_) (fun hc50 => ?_)
                · replace h := mh_ifn hc50 h
                  refine mw_iload dX5_pinned_227 2 rfl ?_
                  obtain rfl := Option.some.inj h
                  exact mw_iret dX5_pinned_229 rfl rfl (Nat.le_of_ble_eq_true rfl) (Nat.le_refl 0) mh_ret_rfl
                · replace h := mh_ifp hc50 h
                  refine mw_iload dX5_pinned_222 1 rfl ?_
                  refine mw_goto (tgt := 229) dX5_pinned_224 (by decide) ?_
                  obtain rfl := Option.some.inj h
                  exact mw_iret dX5_pinned_229 rfl rfl (Nat.le_of_ble_eq_true rfl) (Nat.le_refl 0) mh_ret_rfl
              · replace h := mh_ifp hc51 h
                refine mw_iconst (v := 2) dX5_pinned_212 (by decide) ?_
                refine mw_goto (tgt := 229) dX5_pinned_213 (by decide) ?_
                obtain rfl := Option.some.inj h
                exact mw_iret dX5_pinned_229 rfl rfl (Nat.le_of_ble_eq_true rfl) (Nat.le_refl 0) mh_ret_rfl
          · replace h := mh_ifn hc53 h
            refine mw_iload dX5_pinned_51 4 rfl ?_
            refine mw_if_ne (tgt := 60) dX5_pinned_53 (by decide) (fun hc52 => ?_) (fun hc52 => ?_)
            · replace h := mh_ifn hc52 h
              refine mw_iconst (v := -1) dX5_pinned_60 (by decide) ?_
              obtain rfl := Option.some.inj h
              exact mw_iret dX5_pinned_61 rfl rfl (Nat.le_of_ble_eq_true rfl) (Nat.le_refl 0) mh_ret_rfl
            · replace h := mh_ifp hc52 h
              refine mw_iconst (v := 0) dX5_pinned_56 (by decide) ?_
              refine mw_goto (tgt := 61) dX5_pinned_57 (by decide) ?_
              obtain rfl := Option.some.inj h
              exact mw_iret dX5_pinned_61 rfl rfl (Nat.le_of_ble_eq_true rfl) (Nat.le_refl 0) mh_ret_rfl
        · replace h := mh_ifp hc54 h
          refine mw_bipush (v := -7) dX5_pinned_37 (by decide) ?_
          obtain rfl := Option.some.inj h
          exact mw_iret dX5_pinned_39 rfl rfl (Nat.le_of_ble_eq_true rfl) (Nat.le_refl 0) mh_ret_rfl
  · replace h := mh_ifp hc57 h
    refine mw_bipush (v := -5) dX5_pinned_7 (by decide) ?_
    obtain rfl := Option.some.inj h
    exact mw_iret dX5_pinned_9 rfl rfl (Nat.le_of_ble_eq_true rfl) (Nat.le_refl 0) mh_ret_rfl
abbrev w_X5_mending (sh : List mh_C) (Φ : mh_P) (I : mh_I) (L : mh_L) (pc : Nat) (lv : List (Nat × Value)) (st : List Value) : Prop := mh_W RX5 cX5_mending 8 (some .int) false (mh_rm 6) 46 0 0 mh_noX Φ 0 sh I L pc lv st
def X5_mending (p1 : Int32) (p2 : Int32) (p3 : Int32) (I : mh_I) (L : mh_L) : Option (Int32 × mh_I × mh_L) := (X5_isLoop p1).bind (fun q1 => if q1 = 0 then some ((-5 : Int32), I, L) else (X5_isPull p2).bind (fun q2 => if q2 = 0 then some ((-7 : Int32), I, L) else (X5_within p3 (0 : Int32) (1 : Int32)).bind (fun q3 => if q3 = 0 then some ((-7 : Int32), I, L) else (X5_drop p1 p2 I L).bind (fun q4 => if (lg_cmp (q4.2.2 10 1) (0 : Int64)) = 0 then if p3 = 0 then some ((-1 : Int32), q4.2.1, q4.2.2) else some ((0 : Int32), q4.2.1, q4.2.2) else (X5_together (1 : Int32) q4.2.1 q4.2.2).bind (fun q5 => mh_b q5.1 (fun b6 => (X5_lowestRow q4.2.2).bind (fun q7 => mh_b ((24 : Int32) * ((8 : Int32) - q7)) (fun b8 => mh_j (fun (v9 : Int32) (v10 : Int32) => (J13_bitCount_95d88 (q4.2.2 10 1)).bind (fun q13 => mh_b ((50 : Int32) + q13) (fun b14 => mh_j (fun (v15 : Int32) (v16 : Int32) => if p3 = 0 then some (v15, q5.2, q4.2.2) else some (v16, q5.2, q4.2.2)) (fun J17 => if v10 ≤ b14 then (J17 v9 v10) else (J17 (2 : Int32) b14))))) (fun J11 => if b6 ≤ b8 then (J11 (0 : Int32) b6) else (J11 (1 : Int32) b8))))))))))
set_option maxHeartbeats 4000000 in
set_option maxRecDepth 100000 in
theorem t_X5_mending {into : Option Nat} {L : mh_L} {I : mh_I} {p1 : Int32} {p2 : Int32} {p3 : Int32} {res : Int32 × mh_I × mh_L} (h : X5_mending p1 p2 p3 I L = some res) : mh_CT yX5_mending cX5_mending 8 (some .int) (mh_rm 6) (SHX into) I L [.ref 0, .int p1, .int p2, .int p3] (mh_ret (some (.int res.1)) (SHX into) res.2.1 res.2.2) := by
  refine mh_ofW (ini := false) RX5 rfl (by decide) (fun h => by cases h) (Nat.le_of_ble_eq_true rfl) ?_
  show w_X5_mending (SHX into) (mh_ret (some (.int res.1)) (SHX into) res.2.1 res.2.2) I L 0 [(0, .ref 0), (1, .int p1), (2, .int p2), (3, .int p3)] []
  unfold X5_mending at h
  refine mw_iload_n dX5_mending_0 1 rfl ?_
  obtain ⟨q1, hq1, h⟩ := mh_bind h
  refine mw_sz (dc := 1) cs_X5_101 wd_25 dX5_mending_1 [.int p1] [.int p1] rfl rfl (t_X5_isLoop hq1) ⟨by decide, by decide⟩ (Nat.le_of_ble_eq_true rfl) ⟨rfl, rfl⟩ (fun zq1 => ?_)
  refine mw_if_ne (tgt := 10) dX5_mending_4 (by decide) (fun hc24 => ?_) (fun hc24 => ?_)
  · replace h := mh_ifn hc24 h
    refine mw_iload_n dX5_mending_10 2 rfl ?_
    obtain ⟨q2, hq2, h⟩ := mh_bind h
    refine mw_sz (dc := 1) cs_X5_104 wd_42 dX5_mending_11 [.int p2] [.int p2] rfl rfl (t_X5_isPull hq2) ⟨by decide, by decide⟩ (Nat.le_of_ble_eq_true rfl) ⟨rfl, rfl⟩ (fun zq2 => ?_)
    refine mw_if_eq (tgt := 26) dX5_mending_14 (by decide) (fun hc23 => ?_) (fun hc23 => ?_)
    · replace h := mh_ifp hc23 h
      refine mw_bipush (v := -7) dX5_mending_26 (by decide) ?_
      obtain rfl := Option.some.inj h
      exact mw_iret dX5_mending_28 rfl rfl (Nat.le_of_ble_eq_true rfl) (Nat.le_refl 0) mh_ret_rfl
    · replace h := mh_ifn hc23 h
      refine mw_iload_n dX5_mending_17 3 rfl ?_
      refine mw_iconst (v := 0) dX5_mending_18 (by decide) ?_
      refine mw_iconst (v := 1) dX5_mending_19 (by decide) ?_
      obtain ⟨q3, hq3, h⟩ := mh_bind h
      refine mw_sz (dc := 0) cs_X5_97 wd_28 dX5_mending_20 [.int p3, .int (0 : Int32), .int (1 : Int32)] [.int (1 : Int32), .int (0 : Int32), .int p3] rfl rfl (t_X5_within hq3) ⟨by decide, by decide⟩ (Nat.le_of_ble_eq_true rfl) ⟨rfl, rfl⟩ (fun zq3 => ?_)
      refine mw_if_ne (tgt := 29) dX5_mending_23 (by decide) (fun hc22 => ?_) (fun hc22 => ?_)
      · replace h := mh_ifn hc22 h
        refine mw_aload_n dX5_mending_29 0 rfl ?_
        refine mw_iload_n dX5_mending_30 1 rfl ?_
        refine mw_iload_n dX5_mending_31 2 rfl ?_
        obtain ⟨q4, hq4, h⟩ := mh_bind h
        refine mw_vr (dc := 5) (ci := 5) (fs := fsX5) (T := TX5) (N := 9) cv_X5_163 wd_47 dX5_mending_32 [.int p1, .int p2] [.int p2, .int p1, .ref 0] rfl rfl rfl rfl (t_X5_drop hq4) ⟨by decide, by decide⟩ (Nat.le_of_ble_eq_true rfl) ⟨rfl, rfl⟩ ?_
        refine mw_pop dX5_mending_35 rfl ?_
        refine mw_aload_n dX5_mending_36 0 rfl ?_
        refine mw_getr (b := 10) (fs := fsX5) gf_X5_35 dX5_mending_37 rfl rfl ?_
        refine mw_getl (fs := (fsX0 10)) gf_X5_167 dX5_mending_40 (sx_fall into).1 rfl ?_
        refine mw_lconst (v := 0) dX5_mending_43 (by decide) ?_
        refine mw_lcmp dX5_mending_44 ?_
        refine mw_if_ne (tgt := 58) dX5_mending_45 (by decide) (fun hc21 => ?_) (fun hc21 => ?_)
        · replace h := mh_ifn hc21 h
          refine mw_iconst (v := 0) dX5_mending_58 (by decide) ?_
          refine mw_istore dX5_mending_59 (by decide) rfl ?_
          refine mw_aload_n dX5_mending_61 1 rfl ?_
          refine mw_iconst (v := 1) dX5_mending_62 (by decide) ?_
          obtain ⟨q5, hq5, h⟩ := mh_bind h
          refine mw_vr (dc := 3) (ci := 5) (fs := fsX5) (T := TX5) (N := 9) cv_X5_173 wd_140 dX5_mending_63 [.int (1 : Int32)] [.int (1 : Int32), .ref 0] rfl rfl rfl rfl (t_X5_together hq5) ⟨by decide, by decide⟩ (Nat.le_of_ble_eq_true rfl) ⟨rfl, rfl⟩ ?_
          obtain ⟨b6, eb6, h⟩ := mh_b_some h
          refine mw_nmi eb6 ?_
          refine mw_istore dX5_mending_66 (by decide) rfl ?_
          refine mw_bipush (v := 24) dX5_mending_68 (by decide) ?_
          refine mw_bipush (v := 8) dX5_mending_70 (by decide) ?_
          refine mw_aload_n dX5_mending_72 2 rfl ?_
          obtain ⟨q7, hq7, h⟩ := mh_bind h
          refine mw_vr (dc := 2) (ci := 5) (fs := fsX5) (T := TX5) (N := 9) cv_X5_170 wd_129 dX5_mending_73 [] [.ref 0, .int (8 : Int32), .int (24 : Int32)] rfl rfl rfl rfl (t_X5_lowestRow hq7) ⟨by decide, by decide⟩ (Nat.le_of_ble_eq_true rfl) ⟨rfl, rfl⟩ ?_
          refine mw_isub dX5_mending_76 ?_
          refine mw_imul dX5_mending_77 ?_
          obtain ⟨b8, eb8, h⟩ := mh_b_some h
          refine mw_nmi eb8 ?_
          refine mw_istore dX5_mending_78 (by decide) rfl ?_
          refine mw_iload dX5_mending_80 0 rfl ?_
          refine mw_iload dX5_mending_82 1 rfl ?_
          refine mh_jw (fun J11 => ∀ (v9 : Int32) (v10 : Int32), J11 v9 v10 = some res → w_X5_mending (SHX into) (mh_ret (some (.int res.1)) (SHX into) res.2.1 res.2.2) q5.2 q4.2.2 94 [(0, .ref 0), (3, .int p3), (4, .int v9), (5, .int v10)] []) h (fun v9 v10 h => ?_) (fun J11 hJ11 h => ?_)
          · refine mw_bipush (v := 50) dX5_mending_94 (by decide) ?_
            refine mw_aload_n dX5_mending_96 0 rfl ?_
            refine mw_getr (b := 10) (fs := fsX5) gf_X5_35 dX5_mending_97 rfl rfl ?_
            refine mw_getl (fs := (fsX0 10)) gf_X5_167 dX5_mending_100 (sx_fall into).1 rfl ?_
            obtain ⟨q13, hq13, h⟩ := mh_bind h
            refine mw_sr (dc := 0) cs_X5_74 wd_121 dX5_mending_103 [.long (q4.2.2 10 1)] [.long (q4.2.2 10 1), .int (50 : Int32)] rfl rfl (t_J13_bitCount_95d88 hq13) ⟨by decide, by decide⟩ (Nat.le_of_ble_eq_true rfl) ⟨rfl, rfl⟩ ?_
            refine mw_iadd dX5_mending_106 ?_
            obtain ⟨b14, eb14, h⟩ := mh_b_some h
            refine mw_nmi eb14 ?_
            refine mw_istore dX5_mending_107 (by decide) rfl ?_
            refine mw_iload dX5_mending_109 0 rfl ?_
            refine mw_iload dX5_mending_111 4 rfl ?_
            refine mh_jw (fun J17 => ∀ (v15 : Int32) (v16 : Int32), J17 v15 v16 = some res → w_X5_mending (SHX into) (mh_ret (some (.int res.1)) (SHX into) res.2.1 res.2.2) q5.2 q4.2.2 123 [(3, .int p3), (4, .int v15), (5, .int v16)] []) h (fun v15 v16 h => ?_) (fun J17 hJ17 h => ?_)
            · refine mw_iload_n dX5_mending_123 0 rfl ?_
              refine mw_if_ne (tgt := 132) dX5_mending_124 (by decide) (fun hc19 => ?_) (fun hc19 => ?_)
              · replace h := mh_ifn hc19 h
                refine mw_iload dX5_mending_132 2 rfl ?_
                obtain rfl := Option.some.inj h
                exact mw_iret dX5_mending_134 rfl rfl (Nat.le_of_ble_eq_true rfl) (Nat.le_refl 0) mh_ret_rfl
              · replace h := mh_ifp hc19 h
                refine mw_iload dX5_mending_127 1 rfl ?_
                refine mw_goto (tgt := 134) dX5_mending_129 (by decide) ?_
                obtain rfl := Option.some.inj h
                exact mw_iret dX5_mending_134 rfl rfl (Nat.le_of_ble_eq_true rfl) (Nat.le_refl 0) mh_ret_rfl
            · refine mw_icmp_ge (tgt := 123) dX5_mending_113 (by decide) (fun hc18 => ?_) (fun hc18 => ?_)
              · replace h := mh_ifp hc18 h
                refine mw_loc [2, 3, 4] rfl ?_
                exact hJ17 _ _ h
              · replace h := mh_ifn hc18 h
                refine mw_iconst (v := 2) dX5_mending_116 (by decide) ?_
                refine mw_istore dX5_mending_117 (by decide) rfl ?_
                refine mw_iload dX5_mending_119 1 rfl ?_
                refine mw_istore dX5_mending_121 (by decide) rfl ?_
                refine mw_loc [4, 1, 0] rfl ?_
                exact hJ17 _ _ h
          · refine mw_icmp_ge (tgt := 94) dX5_mending_84 (by decide) (fun hc12 => ?_) (fun hc12 => ?_)
            · replace h := mh_ifp hc12 h
              refine mw_loc [3, 6, 2, 1] rfl ?_
              exact hJ11 _ _ h
            · replace h := mh_ifn hc12 h
              refine mw_iconst (v := 1) dX5_mending_87 (by decide) ?_
              refine mw_istore dX5_mending_88 (by decide) rfl ?_
              refine mw_iload dX5_mending_90 1 rfl ?_
              refine mw_istore dX5_mending_92 (by decide) rfl ?_
              refine mw_loc [3, 6, 1, 0] rfl ?_
              exact hJ11 _ _ h
        · replace h := mh_ifp hc21 h
          refine mw_iload_n dX5_mending_48 3 rfl ?_
          refine mw_if_ne (tgt := 56) dX5_mending_49 (by decide) (fun hc20 => ?_) (fun hc20 => ?_)
          · replace h := mh_ifn hc20 h
            refine mw_iconst (v := 0) dX5_mending_56 (by decide) ?_
            obtain rfl := Option.some.inj h
            exact mw_iret dX5_mending_57 rfl rfl (Nat.le_of_ble_eq_true rfl) (Nat.le_refl 0) mh_ret_rfl
          · replace h := mh_ifp hc20 h
            refine mw_iconst (v := -1) dX5_mending_52 (by decide) ?_
            refine mw_goto (tgt := 57) dX5_mending_53 (by decide) ?_
            obtain rfl := Option.some.inj h
            exact mw_iret dX5_mending_57 rfl rfl (Nat.le_of_ble_eq_true rfl) (Nat.le_refl 0) mh_ret_rfl
      · replace h := mh_ifp hc22 h
        refine mw_bipush (v := -7) dX5_mending_26 (by decide) ?_
        obtain rfl := Option.some.inj h
        exact mw_iret dX5_mending_28 rfl rfl (Nat.le_of_ble_eq_true rfl) (Nat.le_refl 0) mh_ret_rfl
  · replace h := mh_ifp hc24 h
    refine mw_bipush (v := -5) dX5_mending_7 (by decide) ?_
    obtain rfl := Option.some.inj h
    exact mw_iret dX5_mending_9 rfl rfl (Nat.le_of_ble_eq_true rfl) (Nat.le_refl 0) mh_ret_rfl
