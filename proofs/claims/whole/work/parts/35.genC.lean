abbrev w_X5_placesUnder (sh : List mh_C) (Φ : mh_P) (I : mh_I) (L : mh_L) (pc : Nat) (lv : List (Nat × Value)) (st : List Value) : Prop := mh_W RX5 cX5_placesUnder 4 (some .int) false (mh_rm 2) 46 0 0 mh_noX Φ 0 sh I L pc lv st
def X5_placesUnder_l10 (u1 : Int32) (I : mh_I) (k38 : (Int32 → Option (Int32))) : Nat → Int32 → Int32 → Option (Int32)
  | 0, _, _ => none
  | n + 1, u2, u3 => if (6 : Int32) ≤ u3 then (k38 u2) else (X1_placesBelow 1 ((u1 * (6 : Int32)) + u3) I).bind (fun q1 => mh_b (u2 ||| q1) (fun b2 => mh_b (u3 + (1 : Int32)) (fun b3 => (X5_placesUnder_l10 u1 I k38 n b2 b3))))
set_option maxHeartbeats 4000000 in
set_option maxRecDepth 100000 in
theorem t_X5_placesUnder_l10 {into : Option Nat} {u1 : Int32} {k38 : (Int32 → Option (Int32))} {I : mh_I} {L : mh_L} {res : Int32} (n : Nat) (u2 : Int32) (u3 : Int32) (h : X5_placesUnder_l10 u1 I k38 n u2 u3 = some res) (hk38 : ∀ (u2 : Int32), k38 u2 = some res → w_X5_placesUnder (SHX into) (mh_ret (some (.int res)) (SHX into) I L) I L 38 [(2, .int u2)] []) : w_X5_placesUnder (SHX into) (mh_ret (some (.int res)) (SHX into) I L) I L 10 [(0, .ref 0), (1, .int u1), (2, .int u2), (3, .int u3)] [] := by
  induction n generalizing u2 u3 with
  | zero => rw [X5_placesUnder_l10] at h; cases h
  | succ n ih =>
    rw [X5_placesUnder_l10] at h
    refine mw_iload_n dX5_placesUnder_10 3 rfl ?_
    refine mw_bipush (v := 6) dX5_placesUnder_11 (by decide) ?_
    refine mw_icmp_ge (tgt := 38) dX5_placesUnder_13 (by decide) (fun hc4 => ?_) (fun hc4 => ?_)
    · replace h := mh_ifp hc4 h
      refine mw_loc [2] rfl ?_
      exact hk38 _ h
    · replace h := mh_ifn hc4 h
      refine mw_iload_n dX5_placesUnder_16 2 rfl ?_
      refine mw_aload_n dX5_placesUnder_17 0 rfl ?_
      refine mw_getr (b := 1) (fs := fsX5) gf_X5_10 dX5_placesUnder_18 rfl rfl ?_
      refine mw_iload_n dX5_placesUnder_21 1 rfl ?_
      refine mw_bipush (v := 6) dX5_placesUnder_22 (by decide) ?_
      refine mw_imul dX5_placesUnder_24 ?_
      refine mw_iload_n dX5_placesUnder_25 3 rfl ?_
      refine mw_iadd dX5_placesUnder_26 ?_
      obtain ⟨q1, hq1, h⟩ := mh_bind h
      refine mw_vr (dc := 1) (ci := 1) (fs := (fsX1 1)) (T := TX1) (N := 5) cv_X5_132 wd_397 dX5_placesUnder_27 [.int ((u1 * (6 : Int32)) + u3)] [.int ((u1 * (6 : Int32)) + u3), .ref 1, .int u2] rfl rfl (sx_piece into).1 rfl (t_X1_placesBelow (sx_piece into) hq1) ⟨by decide, by decide⟩ (Nat.le_of_ble_eq_true rfl) ⟨rfl, rfl⟩ ?_
      refine mw_ior dX5_placesUnder_30 ?_
      obtain ⟨b2, eb2, h⟩ := mh_b_some h
      refine mw_nmi eb2 ?_
      refine mw_istore_n dX5_placesUnder_31 (by decide) rfl ?_
      obtain ⟨b3, eb3, h⟩ := mh_b_some h
      refine mw_iinc (v := b3) dX5_placesUnder_32 3 rfl (by rw [← eb3]; rfl) (by decide) rfl ?_
      refine mw_goto (tgt := 10) dX5_placesUnder_35 (by decide) ?_
      refine mw_loc [2, 3, 1, 0] rfl ?_
      exact ih _ _ h
def X5_placesUnder (p1 : Int32) (I : mh_I) : Option (Int32) := if p1 = 0 then some (0 : Int32) else X5_placesUnder_l10 p1 I (fun (v5 : Int32) => (J6_bitCount_0f7a4 v5).bind (fun q6 => some q6)) mh_fuel (0 : Int32) (0 : Int32)
set_option maxHeartbeats 4000000 in
set_option maxRecDepth 100000 in
theorem t_X5_placesUnder {into : Option Nat} {L : mh_L} {I : mh_I} {p1 : Int32} {res : Int32} (h : X5_placesUnder p1 I = some res) : mh_CT yX5_placesUnder cX5_placesUnder 4 (some .int) (mh_rm 2) (SHX into) I L [.ref 0, .int p1] (mh_ret (some (.int res)) (SHX into) I L) := by
  refine mh_ofW (ini := false) RX5 rfl (by decide) (fun h => by cases h) (Nat.le_of_ble_eq_true rfl) ?_
  show w_X5_placesUnder (SHX into) (mh_ret (some (.int res)) (SHX into) I L) I L 0 [(0, .ref 0), (1, .int p1)] []
  unfold X5_placesUnder at h
  refine mw_iload_n dX5_placesUnder_0 1 rfl ?_
  refine mw_if_ne (tgt := 6) dX5_placesUnder_1 (by decide) (fun hc7 => ?_) (fun hc7 => ?_)
  · replace h := mh_ifn hc7 h
    refine mw_iconst (v := 0) dX5_placesUnder_6 (by decide) ?_
    refine mw_istore_n dX5_placesUnder_7 (by decide) rfl ?_
    refine mw_iconst (v := 0) dX5_placesUnder_8 (by decide) ?_
    refine mw_istore_n dX5_placesUnder_9 (by decide) rfl ?_
    refine mw_loc [2, 3, 1, 0] rfl ?_
    refine t_X5_placesUnder_l10  _ _ _ h (fun v5 h => ?_)
    refine mw_iload_n dX5_placesUnder_38 0 rfl ?_
    obtain ⟨q6, hq6, h⟩ := mh_bind h
    refine mw_sr (dc := 0) cs_X5_290 wd_542 dX5_placesUnder_39 [.int v5] [.int v5] rfl rfl (t_J6_bitCount_0f7a4 hq6) ⟨by decide, by decide⟩ (Nat.le_of_ble_eq_true rfl) ⟨rfl, rfl⟩ ?_
    obtain rfl := Option.some.inj h
    exact mw_iret dX5_placesUnder_42 rfl rfl (Nat.le_of_ble_eq_true rfl) (Nat.le_refl 0) mh_ret_rfl
  · replace h := mh_ifp hc7 h
    refine mw_iconst (v := 0) dX5_placesUnder_4 (by decide) ?_
    obtain rfl := Option.some.inj h
    exact mw_iret dX5_placesUnder_5 rfl rfl (Nat.le_of_ble_eq_true rfl) (Nat.le_refl 0) mh_ret_rfl
abbrev w_X5_unevenOf (sh : List mh_C) (Φ : mh_P) (I : mh_I) (L : mh_L) (pc : Nat) (lv : List (Nat × Value)) (st : List Value) : Prop := mh_W RX5 cX5_unevenOf 4 (some .int) false (mh_rm 2) 46 0 0 mh_noX Φ 0 sh I L pc lv st
def X5_unevenOf_l4 (u1 : Int32) (I : mh_I) : Nat → Int32 → Int32 → Option (Int32)
  | 0, _, _ => none
  | n + 1, u2, u3 => if (6 : Int32) ≤ u3 then some u2 else (X1_placesBelow 1 ((u1 * (6 : Int32)) + u3) I).bind (fun q1 => (J6_bitCount_0f7a4 q1).bind (fun q2 => mh_j (fun (v3 : Int32) => mh_b (u3 + (1 : Int32)) (fun b7 => (X5_unevenOf_l4 u1 I n v3 b7))) (fun J4 => if q2 = (1 : Int32) then (J4 u2) else mh_b (u2 + (1 : Int32)) (fun b5 => (J4 b5)))))
set_option maxHeartbeats 4000000 in
set_option maxRecDepth 100000 in
theorem t_X5_unevenOf_l4 {into : Option Nat} {u1 : Int32} {I : mh_I} {L : mh_L} {res : Int32} (n : Nat) (u2 : Int32) (u3 : Int32) (h : X5_unevenOf_l4 u1 I n u2 u3 = some res)  : w_X5_unevenOf (SHX into) (mh_ret (some (.int res)) (SHX into) I L) I L 4 [(0, .ref 0), (1, .int u1), (2, .int u2), (3, .int u3)] [] := by
  induction n generalizing u2 u3 with
  | zero => rw [X5_unevenOf_l4] at h; cases h
  | succ n ih =>
    rw [X5_unevenOf_l4] at h
    refine mw_iload_n dX5_unevenOf_4 3 rfl ?_
    refine mw_bipush (v := 6) dX5_unevenOf_5 (by decide) ?_
    refine mw_icmp_ge (tgt := 39) dX5_unevenOf_7 (by decide) (fun hc8 => ?_) (fun hc8 => ?_)
    · replace h := mh_ifp hc8 h
      refine mw_iload_n dX5_unevenOf_39 2 rfl ?_
      obtain rfl := Option.some.inj h
      exact mw_iret dX5_unevenOf_40 rfl rfl (Nat.le_of_ble_eq_true rfl) (Nat.le_refl 0) mh_ret_rfl
    · replace h := mh_ifn hc8 h
      refine mw_aload_n dX5_unevenOf_10 0 rfl ?_
      refine mw_getr (b := 1) (fs := fsX5) gf_X5_10 dX5_unevenOf_11 rfl rfl ?_
      refine mw_iload_n dX5_unevenOf_14 1 rfl ?_
      refine mw_bipush (v := 6) dX5_unevenOf_15 (by decide) ?_
      refine mw_imul dX5_unevenOf_17 ?_
      refine mw_iload_n dX5_unevenOf_18 3 rfl ?_
      refine mw_iadd dX5_unevenOf_19 ?_
      obtain ⟨q1, hq1, h⟩ := mh_bind h
      refine mw_vr (dc := 1) (ci := 1) (fs := (fsX1 1)) (T := TX1) (N := 5) cv_X5_132 wd_397 dX5_unevenOf_20 [.int ((u1 * (6 : Int32)) + u3)] [.int ((u1 * (6 : Int32)) + u3), .ref 1] rfl rfl (sx_piece into).1 rfl (t_X1_placesBelow (sx_piece into) hq1) ⟨by decide, by decide⟩ (Nat.le_of_ble_eq_true rfl) ⟨rfl, rfl⟩ ?_
      obtain ⟨q2, hq2, h⟩ := mh_bind h
      refine mw_sr (dc := 0) cs_X5_290 wd_542 dX5_unevenOf_23 [.int q1] [.int q1] rfl rfl (t_J6_bitCount_0f7a4 hq2) ⟨by decide, by decide⟩ (Nat.le_of_ble_eq_true rfl) ⟨rfl, rfl⟩ ?_
      refine mw_iconst (v := 1) dX5_unevenOf_26 (by decide) ?_
      refine mh_jw (fun J4 => ∀ (v3 : Int32), J4 v3 = some res → w_X5_unevenOf (SHX into) (mh_ret (some (.int res)) (SHX into) I L) I L 33 [(0, .ref 0), (1, .int u1), (2, .int v3), (3, .int u3)] []) h (fun v3 h => ?_) (fun J4 hJ4 h => ?_)
      · obtain ⟨b7, eb7, h⟩ := mh_b_some h
        refine mw_iinc (v := b7) dX5_unevenOf_33 3 rfl (by rw [← eb7]; rfl) (by decide) rfl ?_
        refine mw_goto (tgt := 4) dX5_unevenOf_36 (by decide) ?_
        refine mw_loc [1, 2, 3, 0] rfl ?_
        exact ih _ _ h
      · refine mw_icmp_eq (tgt := 33) dX5_unevenOf_27 (by decide) (fun hc6 => ?_) (fun hc6 => ?_)
        · replace h := mh_ifp hc6 h
          refine mw_loc [0, 1, 2, 3] rfl ?_
          exact hJ4 _ h
        · replace h := mh_ifn hc6 h
          obtain ⟨b5, eb5, h⟩ := mh_b_some h
          refine mw_iinc (v := b5) dX5_unevenOf_30 2 rfl (by rw [← eb5]; rfl) (by decide) rfl ?_
          refine mw_loc [1, 2, 0, 3] rfl ?_
          exact hJ4 _ h
def X5_unevenOf (p1 : Int32) (I : mh_I) : Option (Int32) := X5_unevenOf_l4 p1 I mh_fuel (0 : Int32) (0 : Int32)
set_option maxHeartbeats 4000000 in
set_option maxRecDepth 100000 in
theorem t_X5_unevenOf {into : Option Nat} {L : mh_L} {I : mh_I} {p1 : Int32} {res : Int32} (h : X5_unevenOf p1 I = some res) : mh_CT yX5_unevenOf cX5_unevenOf 4 (some .int) (mh_rm 2) (SHX into) I L [.ref 0, .int p1] (mh_ret (some (.int res)) (SHX into) I L) := by
  refine mh_ofW (ini := false) RX5 rfl (by decide) (fun h => by cases h) (Nat.le_of_ble_eq_true rfl) ?_
  show w_X5_unevenOf (SHX into) (mh_ret (some (.int res)) (SHX into) I L) I L 0 [(0, .ref 0), (1, .int p1)] []
  unfold X5_unevenOf at h
  refine mw_iconst (v := 0) dX5_unevenOf_0 (by decide) ?_
  refine mw_istore_n dX5_unevenOf_1 (by decide) rfl ?_
  refine mw_iconst (v := 0) dX5_unevenOf_2 (by decide) ?_
  refine mw_istore_n dX5_unevenOf_3 (by decide) rfl ?_
  refine mw_loc [2, 3, 1, 0] rfl ?_
  exact t_X5_unevenOf_l4  _ _ _ h 
abbrev w_X5_counts (sh : List mh_C) (Φ : mh_P) (I : mh_I) (L : mh_L) (pc : Nat) (lv : List (Nat × Value)) (st : List Value) : Prop := mh_W RX5 cX5_counts 3 (some .int) false (mh_rm 3) 46 0 0 mh_noX Φ 0 sh I L pc lv st
def X5_counts (p1 : Int32) (p2 : Int32) (I : mh_I) : Option (Int32) := (X5_isRow p1).bind (fun q1 => if q1 = 0 then some (-5 : Int32) else if p2 = 0 then (X5_borneOf p1 I).bind (fun q3 => some q3) else if p2 = 1 then (X5_placesUnder p1 I).bind (fun q5 => some q5) else if p2 = 2 then (X5_unevenOf p1 I).bind (fun q7 => some q7) else some (-7 : Int32))
set_option maxHeartbeats 4000000 in
set_option maxRecDepth 100000 in
theorem t_X5_counts {into : Option Nat} {L : mh_L} {I : mh_I} {p1 : Int32} {p2 : Int32} {res : Int32} (h : X5_counts p1 p2 I = some res) : mh_CT yX5_counts cX5_counts 3 (some .int) (mh_rm 3) (SHX into) I L [.ref 0, .int p1, .int p2] (mh_ret (some (.int res)) (SHX into) I L) := by
  refine mh_ofW (ini := false) RX5 rfl (by decide) (fun h => by cases h) (Nat.le_of_ble_eq_true rfl) ?_
  show w_X5_counts (SHX into) (mh_ret (some (.int res)) (SHX into) I L) I L 0 [(0, .ref 0), (1, .int p1), (2, .int p2)] []
  unfold X5_counts at h
  refine mw_iload_n dX5_counts_0 1 rfl ?_
  obtain ⟨q1, hq1, h⟩ := mh_bind h
  refine mw_sz (dc := 1) cs_X5_126 wd_389 dX5_counts_1 [.int p1] [.int p1] rfl rfl (t_X5_isRow hq1) ⟨by decide, by decide⟩ (Nat.le_of_ble_eq_true rfl) ⟨rfl, rfl⟩ (fun zq1 => ?_)
  refine mw_if_ne (tgt := 10) dX5_counts_4 (by decide) (fun hc8 => ?_) (fun hc8 => ?_)
  · replace h := mh_ifn hc8 h
    refine mw_iload_n dX5_counts_10 2 rfl ?_
    by_cases hc2 : p2 = 0
    · replace h := mh_ifp hc2 h
      refine mw_tableIn (off := 25) (tgt := 36) dX5_counts_11 (by rw [hc2]; decide) (by rw [hc2]; decide) (by rw [hc2]; rfl) (by decide) ?_
      refine mw_aload_n dX5_counts_36 0 rfl ?_
      refine mw_iload_n dX5_counts_37 1 rfl ?_
      obtain ⟨q3, hq3, h⟩ := mh_bind h
      refine mw_vr (dc := 2) (ci := 5) (fs := fsX5) (T := TX5) (N := 9) cv_X5_190 wd_535 dX5_counts_38 [.int p1] [.int p1, .ref 0] rfl rfl rfl rfl (t_X5_borneOf hq3) ⟨by decide, by decide⟩ (Nat.le_of_ble_eq_true rfl) ⟨rfl, rfl⟩ ?_
      obtain rfl := Option.some.inj h
      exact mw_iret dX5_counts_41 rfl rfl (Nat.le_of_ble_eq_true rfl) (Nat.le_refl 0) mh_ret_rfl
    · replace h := mh_ifn hc2 h
      by_cases hc4 : p2 = 1
      · replace h := mh_ifp hc4 h
        refine mw_tableIn (off := 31) (tgt := 42) dX5_counts_11 (by rw [hc4]; decide) (by rw [hc4]; decide) (by rw [hc4]; rfl) (by decide) ?_
        refine mw_aload_n dX5_counts_42 0 rfl ?_
        refine mw_iload_n dX5_counts_43 1 rfl ?_
        obtain ⟨q5, hq5, h⟩ := mh_bind h
        refine mw_vr (dc := 2) (ci := 5) (fs := fsX5) (T := TX5) (N := 9) cv_X5_193 wd_539 dX5_counts_44 [.int p1] [.int p1, .ref 0] rfl rfl rfl rfl (t_X5_placesUnder hq5) ⟨by decide, by decide⟩ (Nat.le_of_ble_eq_true rfl) ⟨rfl, rfl⟩ ?_
        obtain rfl := Option.some.inj h
        exact mw_iret dX5_counts_47 rfl rfl (Nat.le_of_ble_eq_true rfl) (Nat.le_refl 0) mh_ret_rfl
      · replace h := mh_ifn hc4 h
        by_cases hc6 : p2 = 2
        · replace h := mh_ifp hc6 h
          refine mw_tableIn (off := 37) (tgt := 48) dX5_counts_11 (by rw [hc6]; decide) (by rw [hc6]; decide) (by rw [hc6]; rfl) (by decide) ?_
          refine mw_aload_n dX5_counts_48 0 rfl ?_
          refine mw_iload_n dX5_counts_49 1 rfl ?_
          obtain ⟨q7, hq7, h⟩ := mh_bind h
          refine mw_vr (dc := 2) (ci := 5) (fs := fsX5) (T := TX5) (N := 9) cv_X5_196 wd_549 dX5_counts_50 [.int p1] [.int p1, .ref 0] rfl rfl rfl rfl (t_X5_unevenOf hq7) ⟨by decide, by decide⟩ (Nat.le_of_ble_eq_true rfl) ⟨rfl, rfl⟩ ?_
          obtain rfl := Option.some.inj h
          exact mw_iret dX5_counts_53 rfl rfl (Nat.le_of_ble_eq_true rfl) (Nat.le_refl 0) mh_ret_rfl
        · replace h := mh_ifn hc6 h
          refine mw_tableOut (tgt := 54) dX5_counts_11 (by have e0 := mh_ne (n := 0) hc2 (by decide); have e1 := mh_ne (n := 1) hc4 (by decide); have e2 := mh_ne (n := 2) hc6 (by decide); omega) (by decide) ?_
          refine mw_bipush (v := -7) dX5_counts_54 (by decide) ?_
          obtain rfl := Option.some.inj h
          exact mw_iret dX5_counts_56 rfl rfl (Nat.le_of_ble_eq_true rfl) (Nat.le_refl 0) mh_ret_rfl
  · replace h := mh_ifp hc8 h
    refine mw_bipush (v := -5) dX5_counts_7 (by decide) ?_
    obtain rfl := Option.some.inj h
    exact mw_iret dX5_counts_9 rfl rfl (Nat.le_of_ble_eq_true rfl) (Nat.le_refl 0) mh_ret_rfl
abbrev w_X5_sheetRefusal (sh : List mh_C) (Φ : mh_P) (I : mh_I) (L : mh_L) (pc : Nat) (lv : List (Nat × Value)) (st : List Value) : Prop := mh_W RX5 cX5_sheetRefusal 3 (some .int) false (mh_rm 2) 46 0 0 mh_noX Φ 0 sh I L pc lv st
def X5_sheetRefusal (p1 : Int32) (p2 : Int32) (I : mh_I) : Option (Int32) := (X5_isSheet p1).bind (fun q1 => if q1 = 0 then some (-2 : Int32) else mh_ix p1 4 (fun k2 => (X2_isMissing (38 + 2 * k2) I).bind (fun q4 => if q4 = 0 then mh_ix p1 4 (fun k5 => if (I (38 + 2 * k5) 2) = p2 then some (0 : Int32) else some (-2 : Int32)) else some (-11 : Int32))))
set_option maxHeartbeats 4000000 in
set_option maxRecDepth 100000 in
theorem t_X5_sheetRefusal {into : Option Nat} {L : mh_L} {I : mh_I} {p1 : Int32} {p2 : Int32} {res : Int32} (h : X5_sheetRefusal p1 p2 I = some res) : mh_CT yX5_sheetRefusal cX5_sheetRefusal 3 (some .int) (mh_rm 2) (SHX into) I L [.ref 0, .int p1, .int p2] (mh_ret (some (.int res)) (SHX into) I L) := by
  refine mh_ofW (ini := false) RX5 rfl (by decide) (fun h => by cases h) (Nat.le_of_ble_eq_true rfl) ?_
  show w_X5_sheetRefusal (SHX into) (mh_ret (some (.int res)) (SHX into) I L) I L 0 [(0, .ref 0), (1, .int p1), (2, .int p2)] []
  unfold X5_sheetRefusal at h
  refine mw_iload_n dX5_sheetRefusal_0 1 rfl ?_
  obtain ⟨q1, hq1, h⟩ := mh_bind h
  refine mw_sz (dc := 1) cs_X5_222 wd_560 dX5_sheetRefusal_1 [.int p1] [.int p1] rfl rfl (t_X5_isSheet hq1) ⟨by decide, by decide⟩ (Nat.le_of_ble_eq_true rfl) ⟨rfl, rfl⟩ (fun zq1 => ?_)
  refine mw_if_ne (tgt := 10) dX5_sheetRefusal_4 (by decide) (fun hc9 => ?_) (fun hc9 => ?_)
  · replace h := mh_ifn hc9 h
    refine mw_aload_n dX5_sheetRefusal_10 0 rfl ?_
    refine mw_getr (b := 12) (fs := fsX5) gf_X5_41 dX5_sheetRefusal_11 rfl rfl ?_
    refine mw_iload_n dX5_sheetRefusal_14 1 rfl ?_
    obtain ⟨k2, hk3, hk3n, hk3l, h⟩ := mh_ix_some h
    refine mw_xaald (t := 0) dX5_sheetRefusal_15 rfl hk3 hk3n (sx_rS hk3l) ?_
    obtain ⟨q4, hq4, h⟩ := mh_bind h
    refine mw_vz (dc := 0) (ci := 2) (fs := (fsX2 (38 + 2 * k2))) (T := TX2) (N := 3) cv_X5_246 wd_564 dX5_sheetRefusal_16 [] [.ref (38 + 2 * k2)] rfl rfl (sx_sheet into hk3l).1 rfl (t_X2_isMissing (sx_sheet into hk3l) hq4) ⟨by decide, by decide⟩ (Nat.le_of_ble_eq_true rfl) ⟨rfl, rfl⟩ (fun zq4 => ?_)
    refine mw_if_eq (tgt := 25) dX5_sheetRefusal_19 (by decide) (fun hc8 => ?_) (fun hc8 => ?_)
    · replace h := mh_ifp hc8 h
      refine mw_aload_n dX5_sheetRefusal_25 0 rfl ?_
      refine mw_getr (b := 12) (fs := fsX5) gf_X5_41 dX5_sheetRefusal_26 rfl rfl ?_
      refine mw_iload_n dX5_sheetRefusal_29 1 rfl ?_
      obtain ⟨k5, hk6, hk6n, hk6l, h⟩ := mh_ix_some h
      refine mw_xaald (t := 0) dX5_sheetRefusal_30 rfl hk6 hk6n (sx_rS hk6l) ?_
      refine mw_geti (fs := (fsX2 (38 + 2 * k5))) gf_X5_250 dX5_sheetRefusal_31 (sx_sheet into hk6l).1 rfl ?_
      refine mw_iload_n dX5_sheetRefusal_34 2 rfl ?_
      refine mw_icmp_ne (tgt := 42) dX5_sheetRefusal_35 (by decide) (fun hc7 => ?_) (fun hc7 => ?_)
      · replace h := mh_ifn hc7 h
        refine mw_bipush (v := -2) dX5_sheetRefusal_42 (by decide) ?_
        obtain rfl := Option.some.inj h
        exact mw_iret dX5_sheetRefusal_44 rfl rfl (Nat.le_of_ble_eq_true rfl) (Nat.le_refl 0) mh_ret_rfl
      · replace h := mh_ifp hc7 h
        refine mw_iconst (v := 0) dX5_sheetRefusal_38 (by decide) ?_
        refine mw_goto (tgt := 44) dX5_sheetRefusal_39 (by decide) ?_
        obtain rfl := Option.some.inj h
        exact mw_iret dX5_sheetRefusal_44 rfl rfl (Nat.le_of_ble_eq_true rfl) (Nat.le_refl 0) mh_ret_rfl
    · replace h := mh_ifn hc8 h
      refine mw_bipush (v := -11) dX5_sheetRefusal_22 (by decide) ?_
      obtain rfl := Option.some.inj h
      exact mw_iret dX5_sheetRefusal_24 rfl rfl (Nat.le_of_ble_eq_true rfl) (Nat.le_refl 0) mh_ret_rfl
  · replace h := mh_ifp hc9 h
    refine mw_bipush (v := -2) dX5_sheetRefusal_7 (by decide) ?_
    obtain rfl := Option.some.inj h
    exact mw_iret dX5_sheetRefusal_9 rfl rfl (Nat.le_of_ble_eq_true rfl) (Nat.le_refl 0) mh_ret_rfl
abbrev w_X5_slip (sh : List mh_C) (Φ : mh_P) (I : mh_I) (L : mh_L) (pc : Nat) (lv : List (Nat × Value)) (st : List Value) : Prop := mh_W RX5 cX5_slip 4 (some .int) false (mh_rm 3) 46 0 0 mh_noX Φ 0 sh I L pc lv st
def X5_slip_l16 (u1 : Int32) (I : mh_I) : Nat → Int32 → Option (Int32)
  | 0, _ => none
  | n + 1, u3 => if (8 : Int32) ≤ u3 then some (-1 : Int32) else mh_ix u1 4 (fun k2 => mh_ix u3 48 (fun k4 => (X5_placesUnder u3 I).bind (fun q6 => if (I ((38 + 2 * k2) + 1) k4) = q6 then mh_b (u3 + (1 : Int32)) (fun b7 => (X5_slip_l16 u1 I n b7)) else some u3)))
set_option maxHeartbeats 4000000 in
set_option maxRecDepth 100000 in
theorem t_X5_slip_l16 {into : Option Nat} {u1 : Int32} {I : mh_I} {L : mh_L} {res : Int32} (n : Nat) (u3 : Int32) (h : X5_slip_l16 u1 I n u3 = some res)  : w_X5_slip (SHX into) (mh_ret (some (.int res)) (SHX into) I L) I L 16 [(0, .ref 0), (1, .int u1), (3, .int u3)] [] := by
  induction n generalizing u3 with
  | zero => rw [X5_slip_l16] at h; cases h
  | succ n ih =>
    rw [X5_slip_l16] at h
    refine mw_iload_n dX5_slip_16 2 rfl ?_
    refine mw_bipush (v := 8) dX5_slip_17 (by decide) ?_
    refine mw_icmp_ge (tgt := 49) dX5_slip_19 (by decide) (fun hc9 => ?_) (fun hc9 => ?_)
    · replace h := mh_ifp hc9 h
      refine mw_iconst (v := -1) dX5_slip_49 (by decide) ?_
      obtain rfl := Option.some.inj h
      exact mw_iret dX5_slip_50 rfl rfl (Nat.le_of_ble_eq_true rfl) (Nat.le_refl 0) mh_ret_rfl
    · replace h := mh_ifn hc9 h
      refine mw_aload_n dX5_slip_22 0 rfl ?_
      refine mw_getr (b := 12) (fs := fsX5) gf_X5_41 dX5_slip_23 rfl rfl ?_
      refine mw_iload_n dX5_slip_26 1 rfl ?_
      obtain ⟨k2, hk3, hk3n, hk3l, h⟩ := mh_ix_some h
      refine mw_xaald (t := 0) dX5_slip_27 rfl hk3 hk3n (sx_rS hk3l) ?_
      refine mw_getr (b := ((38 + 2 * k2) + 1)) (fs := (fsX2 (38 + 2 * k2))) gf_X5_202 dX5_slip_28 (sx_sheet into hk3l).1 rfl ?_
      refine mw_iload_n dX5_slip_31 2 rfl ?_
      obtain ⟨k4, hk5, hk5n, hk5l, h⟩ := mh_ix_some h
      refine mw_xiald dX5_slip_32 (sx_sheet into hk3l).2 hk5 hk5n ?_
      refine mw_aload_n dX5_slip_33 0 rfl ?_
      refine mw_iload_n dX5_slip_34 2 rfl ?_
      obtain ⟨q6, hq6, h⟩ := mh_bind h
      refine mw_vr (dc := 2) (ci := 5) (fs := fsX5) (T := TX5) (N := 9) cv_X5_193 wd_539 dX5_slip_35 [.int u3] [.int u3, .ref 0, .int (I ((38 + 2 * k2) + 1) k4)] rfl rfl rfl rfl (t_X5_placesUnder hq6) ⟨by decide, by decide⟩ (Nat.le_of_ble_eq_true rfl) ⟨rfl, rfl⟩ ?_
      refine mw_icmp_eq (tgt := 43) dX5_slip_38 (by decide) (fun hc8 => ?_) (fun hc8 => ?_)
      · replace h := mh_ifp hc8 h
        obtain ⟨b7, eb7, h⟩ := mh_b_some h
        refine mw_iinc (v := b7) dX5_slip_43 2 rfl (by rw [← eb7]; rfl) (by decide) rfl ?_
        refine mw_goto (tgt := 16) dX5_slip_46 (by decide) ?_
        refine mw_loc [1, 2, 0] rfl ?_
        exact ih _ h
      · replace h := mh_ifn hc8 h
        refine mw_iload_n dX5_slip_41 2 rfl ?_
        obtain rfl := Option.some.inj h
        exact mw_iret dX5_slip_42 rfl rfl (Nat.le_of_ble_eq_true rfl) (Nat.le_refl 0) mh_ret_rfl
def X5_slip (p1 : Int32) (I : mh_I) : Option (Int32) := (X5_sheetRefusal p1 (8 : Int32) I).bind (fun q1 => if q1 = 0 then X5_slip_l16 p1 I mh_fuel (1 : Int32) else some q1)
set_option maxHeartbeats 4000000 in
set_option maxRecDepth 100000 in
theorem t_X5_slip {into : Option Nat} {L : mh_L} {I : mh_I} {p1 : Int32} {res : Int32} (h : X5_slip p1 I = some res) : mh_CT yX5_slip cX5_slip 4 (some .int) (mh_rm 3) (SHX into) I L [.ref 0, .int p1] (mh_ret (some (.int res)) (SHX into) I L) := by
  refine mh_ofW (ini := false) RX5 rfl (by decide) (fun h => by cases h) (Nat.le_of_ble_eq_true rfl) ?_
  show w_X5_slip (SHX into) (mh_ret (some (.int res)) (SHX into) I L) I L 0 [(0, .ref 0), (1, .int p1)] []
  unfold X5_slip at h
  refine mw_aload_n dX5_slip_0 0 rfl ?_
  refine mw_iload_n dX5_slip_1 1 rfl ?_
  refine mw_bipush (v := 8) dX5_slip_2 (by decide) ?_
  obtain ⟨q1, hq1, h⟩ := mh_bind h
  refine mw_vr (dc := 2) (ci := 5) (fs := fsX5) (T := TX5) (N := 9) cv_X5_199 wd_557 dX5_slip_4 [.int p1, .int (8 : Int32)] [.int (8 : Int32), .int p1, .ref 0] rfl rfl rfl rfl (t_X5_sheetRefusal hq1) ⟨by decide, by decide⟩ (Nat.le_of_ble_eq_true rfl) ⟨rfl, rfl⟩ ?_
  refine mw_istore_n dX5_slip_7 (by decide) rfl ?_
  refine mw_iload_n dX5_slip_8 0 rfl ?_
  refine mw_if_eq (tgt := 14) dX5_slip_9 (by decide) (fun hc10 => ?_) (fun hc10 => ?_)
  · replace h := mh_ifp hc10 h
    refine mw_iconst (v := 1) dX5_slip_14 (by decide) ?_
    refine mw_istore_n dX5_slip_15 (by decide) rfl ?_
    refine mw_loc [2, 3, 0] rfl ?_
    exact t_X5_slip_l16  _ _ h 
  · replace h := mh_ifn hc10 h
    refine mw_iload_n dX5_slip_12 0 rfl ?_
    obtain rfl := Option.some.inj h
    exact mw_iret dX5_slip_13 rfl rfl (Nat.le_of_ble_eq_true rfl) (Nat.le_refl 0) mh_ret_rfl
abbrev w_X5_wrong (sh : List mh_C) (Φ : mh_P) (I : mh_I) (L : mh_L) (pc : Nat) (lv : List (Nat × Value)) (st : List Value) : Prop := mh_W RX5 cX5_wrong 5 (some .int) false (mh_rm 3) 46 0 0 mh_noX Φ 0 sh I L pc lv st
def X5_wrong_l10 (u1 : Int64) : Nat → Int32 → Int32 → Option (Int32)
  | 0, _, _ => none
  | n + 1, u3, u4 => if (48 : Int32) ≤ u4 then some u3 else (X5_hasBit u1 u4).bind (fun q2 => mh_j (fun (v3 : Int32) => mh_b (u4 + (1 : Int32)) (fun b7 => (X5_wrong_l10 u1 n v3 b7))) (fun J4 => if q2 = 0 then (J4 u3) else mh_b (u3 ||| ((1 : Int32) <<< ((u4 / (6 : Int32)) &&& 31))) (fun b5 => (J4 b5))))
set_option maxHeartbeats 4000000 in
set_option maxRecDepth 100000 in
theorem t_X5_wrong_l10 {into : Option Nat} {u1 : Int64} {I : mh_I} {L : mh_L} {res : Int32} (n : Nat) (u3 : Int32) (u4 : Int32) (h : X5_wrong_l10 u1 n u3 u4 = some res)  : w_X5_wrong (SHX into) (mh_ret (some (.int res)) (SHX into) I L) I L 10 [(1, .long u1), (3, .int u3), (4, .int u4)] [] := by
  induction n generalizing u3 u4 with
  | zero => rw [X5_wrong_l10] at h; cases h
  | succ n ih =>
    rw [X5_wrong_l10] at h
    refine mw_iload dX5_wrong_10 2 rfl ?_
    refine mw_bipush (v := 48) dX5_wrong_12 (by decide) ?_
    refine mw_icmp_ge (tgt := 42) dX5_wrong_14 (by decide) (fun hc8 => ?_) (fun hc8 => ?_)
    · replace h := mh_ifp hc8 h
      refine mw_iload_n dX5_wrong_42 1 rfl ?_
      obtain rfl := Option.some.inj h
      exact mw_iret dX5_wrong_43 rfl rfl (Nat.le_of_ble_eq_true rfl) (Nat.le_refl 0) mh_ret_rfl
    · replace h := mh_ifn hc8 h
      refine mw_lload_n dX5_wrong_17 0 rfl ?_
      refine mw_iload dX5_wrong_18 2 rfl ?_
      obtain ⟨q2, hq2, h⟩ := mh_bind h
      refine mw_sz (dc := 0) cs_X5_139 wd_357 dX5_wrong_20 [.long u1, .int u4] [.int u4, .long u1] rfl rfl (t_X5_hasBit hq2) ⟨by decide, by decide⟩ (Nat.le_of_ble_eq_true rfl) ⟨rfl, rfl⟩ (fun zq2 => ?_)
      refine mh_jw (fun J4 => ∀ (v3 : Int32), J4 v3 = some res → w_X5_wrong (SHX into) (mh_ret (some (.int res)) (SHX into) I L) I L 36 [(1, .long u1), (3, .int v3), (4, .int u4)] []) h (fun v3 h => ?_) (fun J4 hJ4 h => ?_)
      · obtain ⟨b7, eb7, h⟩ := mh_b_some h
        refine mw_iinc (v := b7) dX5_wrong_36 2 rfl (by rw [← eb7]; rfl) (by decide) rfl ?_
        refine mw_goto (tgt := 10) dX5_wrong_39 (by decide) ?_
        refine mw_loc [1, 2, 0] rfl ?_
        exact ih _ _ h
      · refine mw_if_eq (tgt := 36) dX5_wrong_23 (by decide) (fun hc6 => ?_) (fun hc6 => ?_)
        · replace h := mh_ifp hc6 h
          refine mw_loc [0, 1, 2] rfl ?_
          exact hJ4 _ h
        · replace h := mh_ifn hc6 h
          refine mw_iload_n dX5_wrong_26 1 rfl ?_
          refine mw_iconst (v := 1) dX5_wrong_27 (by decide) ?_
          refine mw_iload dX5_wrong_28 2 rfl ?_
          refine mw_bipush (v := 6) dX5_wrong_30 (by decide) ?_
          refine mw_idiv dX5_wrong_32 (by decide) ?_
          refine mw_ishl dX5_wrong_33 ?_
          refine mw_ior dX5_wrong_34 ?_
          obtain ⟨b5, eb5, h⟩ := mh_b_some h
          refine mw_nmi eb5 ?_
          refine mw_istore_n dX5_wrong_35 (by decide) rfl ?_
          refine mw_loc [1, 0, 2] rfl ?_
          exact hJ4 _ h
def X5_wrong (I : mh_I) (L : mh_L) : Option (Int32) := (X5_loose I L).bind (fun q1 => X5_wrong_l10 q1 mh_fuel (0 : Int32) (0 : Int32))
set_option maxHeartbeats 4000000 in
set_option maxRecDepth 100000 in
theorem t_X5_wrong {into : Option Nat} {L : mh_L} {I : mh_I} {res : Int32} (h : X5_wrong I L = some res) : mh_CT yX5_wrong cX5_wrong 5 (some .int) (mh_rm 3) (SHX into) I L [.ref 0] (mh_ret (some (.int res)) (SHX into) I L) := by
  refine mh_ofW (ini := false) RX5 rfl (by decide) (fun h => by cases h) (Nat.le_of_ble_eq_true rfl) ?_
  show w_X5_wrong (SHX into) (mh_ret (some (.int res)) (SHX into) I L) I L 0 [(0, .ref 0)] []
  unfold X5_wrong at h
  refine mw_aload_n dX5_wrong_0 0 rfl ?_
  obtain ⟨q1, hq1, h⟩ := mh_bind h
  refine mw_vr (dc := 2) (ci := 5) (fs := fsX5) (T := TX5) (N := 9) cv_X5_205 wd_440 dX5_wrong_1 [] [.ref 0] rfl rfl rfl rfl (t_X5_loose hq1) ⟨by decide, by decide⟩ (Nat.le_of_ble_eq_true rfl) ⟨rfl, rfl⟩ ?_
  refine mw_lstore_n dX5_wrong_4 (by decide) rfl ?_
  refine mw_iconst (v := 0) dX5_wrong_5 (by decide) ?_
  refine mw_istore_n dX5_wrong_6 (by decide) rfl ?_
  refine mw_iconst (v := 0) dX5_wrong_7 (by decide) ?_
  refine mw_istore dX5_wrong_8 (by decide) rfl ?_
  refine mw_loc [2, 1, 0] rfl ?_
  exact t_X5_wrong_l10  _ _ _ h 
abbrev w_X5_dropPinned (sh : List mh_C) (Φ : mh_P) (I : mh_I) (L : mh_L) (pc : Nat) (lv : List (Nat × Value)) (st : List Value) : Prop := mh_W RX5 cX5_dropPinned 5 (some .int) false (mh_rm 5) 46 0 0 mh_noX Φ 0 sh I L pc lv st
def X5_dropPinned (p1 : Int32) (p2 : Int32) (p3 : Int64) (I : mh_I) (L : mh_L) : Option (Int32 × mh_I × mh_L) := (X5_law I).bind (fun q1 => (X5_bit p1).bind (fun q2 => (X0_runFrom 10 1 q1 q2 p3 p2 I L).bind (fun q3 => some (q3.1, q3.2.1, q3.2.2))))
set_option maxHeartbeats 4000000 in
set_option maxRecDepth 100000 in
theorem t_X5_dropPinned {into : Option Nat} {L : mh_L} {I : mh_I} {p1 : Int32} {p2 : Int32} {p3 : Int64} {res : Int32 × mh_I × mh_L} (h : X5_dropPinned p1 p2 p3 I L = some res) : mh_CT yX5_dropPinned cX5_dropPinned 5 (some .int) (mh_rm 5) (SHX into) I L [.ref 0, .int p1, .int p2, .long p3] (mh_ret (some (.int res.1)) (SHX into) res.2.1 res.2.2) := by
  refine mh_ofW (ini := false) RX5 rfl (by decide) (fun h => by cases h) (Nat.le_of_ble_eq_true rfl) ?_
  show w_X5_dropPinned (SHX into) (mh_ret (some (.int res.1)) (SHX into) res.2.1 res.2.2) I L 0 [(0, .ref 0), (1, .int p1), (2, .int p2), (3, .long p3)] []
  unfold X5_dropPinned at h
  refine mw_aload_n dX5_dropPinned_0 0 rfl ?_
  refine mw_getr (b := 10) (fs := fsX5) gf_X5_35 dX5_dropPinned_1 rfl rfl ?_
  refine mw_aload_n dX5_dropPinned_4 0 rfl ?_
  refine mw_getr (b := 1) (fs := fsX5) gf_X5_10 dX5_dropPinned_5 rfl rfl ?_
  refine mw_aload_n dX5_dropPinned_8 0 rfl ?_
  obtain ⟨q1, hq1, h⟩ := mh_bind h
  refine mw_vr (dc := 0) (ci := 5) (fs := fsX5) (T := TX5) (N := 9) cv_X5_107 wd_336 dX5_dropPinned_9 [] [.ref 0, .ref 1, .ref 10] rfl rfl rfl rfl (t_X5_law hq1) ⟨by decide, by decide⟩ (Nat.le_of_ble_eq_true rfl) ⟨rfl, rfl⟩ ?_
  refine mw_iload_n dX5_dropPinned_12 1 rfl ?_
  obtain ⟨q2, hq2, h⟩ := mh_bind h
  refine mw_sr (dc := 0) cs_X5_143 wd_412 dX5_dropPinned_13 [.int p1] [.int p1, .ref q1, .ref 1, .ref 10] rfl rfl (t_X5_bit hq2) ⟨by decide, by decide⟩ (Nat.le_of_ble_eq_true rfl) ⟨rfl, rfl⟩ ?_
  refine mw_lload_n dX5_dropPinned_16 3 rfl ?_
  refine mw_iload_n dX5_dropPinned_17 2 rfl ?_
  obtain ⟨q3, hq3, h⟩ := mh_bind h
  refine mw_vr (dc := 4) (ci := 0) (fs := (fsX0 10)) (T := TX0) (N := 3) cv_X5_182 wd_461 dX5_dropPinned_18 [.ref 1, .ref q1, .long q2, .long p3, .int p2] [.int p2, .long p3, .long q2, .ref q1, .ref 1, .ref 10] rfl rfl (sx_fall into).1 rfl (t_X0_runFrom (sx_fall into) (sx_piece into) (t_X5_law_fact hq1) hq3) ⟨by decide, by decide⟩ (Nat.le_of_ble_eq_true rfl) ⟨rfl, rfl⟩ ?_
  obtain rfl := Option.some.inj h
  exact mw_iret dX5_dropPinned_21 rfl rfl (Nat.le_of_ble_eq_true rfl) (Nat.le_refl 0) mh_ret_rfl
abbrev w_X5_pinned (sh : List mh_C) (Φ : mh_P) (I : mh_I) (L : mh_L) (pc : Nat) (lv : List (Nat × Value)) (st : List Value) : Prop := mh_W RX5 cX5_pinned 9 (some .int) false (mh_rm 6) 46 0 0 mh_noX Φ 0 sh I L pc lv st
def X5_pinned_l83 (u1 : Int32) (u2 : Int32) (u3 : Int32) (u5 : Int64) (k115 : (Int32 → mh_I → mh_L → Option (Int32 × mh_I × mh_L))) (k143 : (mh_I → mh_L → Option (Int32 × mh_I × mh_L))) : Nat → Int32 → mh_I → mh_L → Option (Int32 × mh_I × mh_L)
  | 0, _, _, _ => none
  | n + 1, u7, I, L => if (48 : Int32) ≤ u7 then (k143 I L) else (X5_hasBit u5 u7).bind (fun q8 => mh_j (fun (I9 : mh_I) (L10 : mh_L) => mh_b (u7 + (1 : Int32)) (fun b16 => (X5_pinned_l83 u1 u2 u3 u5 k115 k143 n b16 I9 L10))) (fun J11 => if q8 = 0 then (J11 I L) else (X5_bit u7).bind (fun q12 => (X5_dropPinned u1 u2 q12 I L).bind (fun q13 => if u3 < q13.1 then (J11 q13.2.1 q13.2.2) else (k115 u7 q13.2.1 q13.2.2)))))
set_option maxHeartbeats 4000000 in
set_option maxRecDepth 100000 in
theorem t_X5_pinned_l83 {into : Option Nat} {u1 : Int32} {u2 : Int32} {u3 : Int32} {u4 : Int32} {u5 : Int64} {k115 : (Int32 → mh_I → mh_L → Option (Int32 × mh_I × mh_L))} {k143 : (mh_I → mh_L → Option (Int32 × mh_I × mh_L))} {res : Int32 × mh_I × mh_L} (n : Nat) (u7 : Int32) (I : mh_I) (L : mh_L) (h : X5_pinned_l83 u1 u2 u3 u5 k115 k143 n u7 I L = some res) (hk115 : ∀ (u7 : Int32) (I : mh_I) (L : mh_L), k115 u7 I L = some res → w_X5_pinned (SHX into) (mh_ret (some (.int res.1)) (SHX into) res.2.1 res.2.2) I L 115 [(4, .int u4), (7, .int u7)] []) (hk143 : ∀ (I : mh_I) (L : mh_L), k143 I L = some res → w_X5_pinned (SHX into) (mh_ret (some (.int res.1)) (SHX into) res.2.1 res.2.2) I L 143 [(0, .ref 0), (1, .int u1), (2, .int u2), (3, .int u3), (4, .int u4), (5, .long u5)] []) : w_X5_pinned (SHX into) (mh_ret (some (.int res.1)) (SHX into) res.2.1 res.2.2) I L 83 [(0, .ref 0), (1, .int u1), (2, .int u2), (3, .int u3), (4, .int u4), (5, .long u5), (7, .int u7)] [] := by
  induction n generalizing u7 I L with
  | zero => rw [X5_pinned_l83] at h; cases h
  | succ n ih =>
    rw [X5_pinned_l83] at h
    refine mw_iload dX5_pinned_83 6 rfl ?_
    refine mw_bipush (v := 48) dX5_pinned_85 (by decide) ?_
    refine mw_icmp_ge (tgt := 143) dX5_pinned_87 (by decide) (fun hc17 => ?_) (fun hc17 => ?_)
    · replace h := mh_ifp hc17 h
      refine mw_loc [0, 1, 2, 3, 4, 5] rfl ?_
      exact hk143 _ _ h
    · replace h := mh_ifn hc17 h
      refine mw_lload dX5_pinned_90 5 rfl ?_
      refine mw_iload dX5_pinned_92 6 rfl ?_
      obtain ⟨q8, hq8, h⟩ := mh_bind h
      refine mw_sz (dc := 0) cs_X5_139 wd_357 dX5_pinned_94 [.long u5, .int u7] [.int u7, .long u5] rfl rfl (t_X5_hasBit hq8) ⟨by decide, by decide⟩ (Nat.le_of_ble_eq_true rfl) ⟨rfl, rfl⟩ (fun zq8 => ?_)
      refine mh_jw (fun J11 => ∀ (I9 : mh_I) (L10 : mh_L), J11 I9 L10 = some res → w_X5_pinned (SHX into) (mh_ret (some (.int res.1)) (SHX into) res.2.1 res.2.2) I9 L10 137 [(0, .ref 0), (1, .int u1), (2, .int u2), (3, .int u3), (4, .int u4), (5, .long u5), (7, .int u7)] []) h (fun I9 L10 h => ?_) (fun J11 hJ11 h => ?_)
      · obtain ⟨b16, eb16, h⟩ := mh_b_some h
        refine mw_iinc (v := b16) dX5_pinned_137 6 rfl (by rw [← eb16]; rfl) (by decide) rfl ?_
        refine mw_goto (tgt := 83) dX5_pinned_140 (by decide) ?_
        refine mw_loc [1, 2, 3, 4, 5, 6, 0] rfl ?_
        exact ih _ _ _ h
      · refine mw_if_eq (tgt := 137) dX5_pinned_97 (by decide) (fun hc15 => ?_) (fun hc15 => ?_)
        · replace h := mh_ifp hc15 h
          refine mw_loc [0, 1, 2, 3, 4, 5, 6] rfl ?_
          exact hJ11 _ _ h
        · replace h := mh_ifn hc15 h
          refine mw_aload_n dX5_pinned_100 0 rfl ?_
          refine mw_iload_n dX5_pinned_101 1 rfl ?_
          refine mw_iload_n dX5_pinned_102 2 rfl ?_
          refine mw_iload dX5_pinned_103 6 rfl ?_
          obtain ⟨q12, hq12, h⟩ := mh_bind h
          refine mw_sr (dc := 0) cs_X5_143 wd_412 dX5_pinned_105 [.int u7] [.int u7, .int u2, .int u1, .ref 0] rfl rfl (t_X5_bit hq12) ⟨by decide, by decide⟩ (Nat.le_of_ble_eq_true rfl) ⟨rfl, rfl⟩ ?_
          obtain ⟨q13, hq13, h⟩ := mh_bind h
          refine mw_vr (dc := 5) (ci := 5) (fs := fsX5) (T := TX5) (N := 9) cv_X5_209 wd_577 dX5_pinned_108 [.int u1, .int u2, .long q12] [.long q12, .int u2, .int u1, .ref 0] rfl rfl rfl rfl (t_X5_dropPinned hq13) ⟨by decide, by decide⟩ (Nat.le_of_ble_eq_true rfl) ⟨rfl, rfl⟩ ?_
          refine mw_iload_n dX5_pinned_111 3 rfl ?_
          refine mw_icmp_gt (tgt := 137) dX5_pinned_112 (by decide) (fun hc14 => ?_) (fun hc14 => ?_)
          · replace h := mh_ifp hc14 h
            refine mw_loc [0, 1, 2, 3, 4, 5, 6] rfl ?_
            exact hJ11 _ _ h
          · replace h := mh_ifn hc14 h
            refine mw_loc [4, 6] rfl ?_
            exact hk115 _ _ _ h
def X5_pinned_l159 (u1 : Int32) (u2 : Int32) (u3 : Int32) (u5 : Int64) (u7 : Int32) (k207 : (Int32 → mh_I → mh_L → Option (Int32 × mh_I × mh_L))) (k236 : (mh_I → mh_L → Option (Int32 × mh_I × mh_L))) : Nat → Int32 → mh_I → mh_L → Option (Int32 × mh_I × mh_L)
  | 0, _, _, _ => none
  | n + 1, u8, I, L => if (48 : Int32) ≤ u8 then (k236 I L) else (X5_hasBit u5 u7).bind (fun q26 => mh_j (fun (I27 : mh_I) (L28 : mh_L) => mh_b (u8 + (1 : Int32)) (fun b37 => (X5_pinned_l159 u1 u2 u3 u5 u7 k207 k236 n b37 I27 L28))) (fun J29 => if q26 = 0 then (J29 I L) else (X5_hasBit u5 u8).bind (fun q30 => if q30 = 0 then (J29 I L) else (X5_bit u7).bind (fun q31 => (X5_bit u8).bind (fun q32 => (X5_dropPinned u1 u2 (q31 ||| q32) I L).bind (fun q33 => if u3 < q33.1 then (J29 q33.2.1 q33.2.2) else (k207 u8 q33.2.1 q33.2.2)))))))
set_option maxHeartbeats 4000000 in
set_option maxRecDepth 100000 in
theorem t_X5_pinned_l159 {into : Option Nat} {u1 : Int32} {u2 : Int32} {u3 : Int32} {u4 : Int32} {u5 : Int64} {u7 : Int32} {k207 : (Int32 → mh_I → mh_L → Option (Int32 × mh_I × mh_L))} {k236 : (mh_I → mh_L → Option (Int32 × mh_I × mh_L))} {res : Int32 × mh_I × mh_L} (n : Nat) (u8 : Int32) (I : mh_I) (L : mh_L) (h : X5_pinned_l159 u1 u2 u3 u5 u7 k207 k236 n u8 I L = some res) (hk207 : ∀ (u8 : Int32) (I : mh_I) (L : mh_L), k207 u8 I L = some res → w_X5_pinned (SHX into) (mh_ret (some (.int res.1)) (SHX into) res.2.1 res.2.2) I L 207 [(4, .int u4), (7, .int u7), (8, .int u8)] []) (hk236 : ∀ (I : mh_I) (L : mh_L), k236 I L = some res → w_X5_pinned (SHX into) (mh_ret (some (.int res.1)) (SHX into) res.2.1 res.2.2) I L 236 [(0, .ref 0), (1, .int u1), (2, .int u2), (3, .int u3), (4, .int u4), (5, .long u5), (7, .int u7)] []) : w_X5_pinned (SHX into) (mh_ret (some (.int res.1)) (SHX into) res.2.1 res.2.2) I L 159 [(0, .ref 0), (1, .int u1), (2, .int u2), (3, .int u3), (4, .int u4), (5, .long u5), (7, .int u7), (8, .int u8)] [] := by
  induction n generalizing u8 I L with
  | zero => rw [X5_pinned_l159] at h; cases h
  | succ n ih =>
    rw [X5_pinned_l159] at h
    refine mw_iload dX5_pinned_159 7 rfl ?_
    refine mw_bipush (v := 48) dX5_pinned_161 (by decide) ?_
    refine mw_icmp_ge (tgt := 236) dX5_pinned_163 (by decide) (fun hc38 => ?_) (fun hc38 => ?_)
    · replace h := mh_ifp hc38 h
      refine mw_loc [0, 1, 2, 3, 4, 5, 6] rfl ?_
      exact hk236 _ _ h
    · replace h := mh_ifn hc38 h
      refine mw_lload dX5_pinned_166 5 rfl ?_
      refine mw_iload dX5_pinned_168 6 rfl ?_
      obtain ⟨q26, hq26, h⟩ := mh_bind h
      refine mw_sz (dc := 0) cs_X5_139 wd_357 dX5_pinned_170 [.long u5, .int u7] [.int u7, .long u5] rfl rfl (t_X5_hasBit hq26) ⟨by decide, by decide⟩ (Nat.le_of_ble_eq_true rfl) ⟨rfl, rfl⟩ (fun zq26 => ?_)
      refine mh_jw (fun J29 => ∀ (I27 : mh_I) (L28 : mh_L), J29 I27 L28 = some res → w_X5_pinned (SHX into) (mh_ret (some (.int res.1)) (SHX into) res.2.1 res.2.2) I27 L28 230 [(0, .ref 0), (1, .int u1), (2, .int u2), (3, .int u3), (4, .int u4), (5, .long u5), (7, .int u7), (8, .int u8)] []) h (fun I27 L28 h => ?_) (fun J29 hJ29 h => ?_)
      · obtain ⟨b37, eb37, h⟩ := mh_b_some h
        refine mw_iinc (v := b37) dX5_pinned_230 7 rfl (by rw [← eb37]; rfl) (by decide) rfl ?_
        refine mw_goto (tgt := 159) dX5_pinned_233 (by decide) ?_
        refine mw_loc [1, 2, 3, 4, 5, 6, 7, 0] rfl ?_
        exact ih _ _ _ h
      · refine mw_if_eq (tgt := 230) dX5_pinned_173 (by decide) (fun hc36 => ?_) (fun hc36 => ?_)
        · replace h := mh_ifp hc36 h
          refine mw_loc [0, 1, 2, 3, 4, 5, 6, 7] rfl ?_
          exact hJ29 _ _ h
        · replace h := mh_ifn hc36 h
          refine mw_lload dX5_pinned_176 5 rfl ?_
          refine mw_iload dX5_pinned_178 7 rfl ?_
          obtain ⟨q30, hq30, h⟩ := mh_bind h
          refine mw_sz (dc := 0) cs_X5_139 wd_357 dX5_pinned_180 [.long u5, .int u8] [.int u8, .long u5] rfl rfl (t_X5_hasBit hq30) ⟨by decide, by decide⟩ (Nat.le_of_ble_eq_true rfl) ⟨rfl, rfl⟩ (fun zq30 => ?_)
          refine mw_if_eq (tgt := 230) dX5_pinned_183 (by decide) (fun hc35 => ?_) (fun hc35 => ?_)
          · replace h := mh_ifp hc35 h
            refine mw_loc [0, 1, 2, 3, 4, 5, 6, 7] rfl ?_
            exact hJ29 _ _ h
          · replace h := mh_ifn hc35 h
            refine mw_aload_n dX5_pinned_186 0 rfl ?_
            refine mw_iload_n dX5_pinned_187 1 rfl ?_
            refine mw_iload_n dX5_pinned_188 2 rfl ?_
            refine mw_iload dX5_pinned_189 6 rfl ?_
            obtain ⟨q31, hq31, h⟩ := mh_bind h
            refine mw_sr (dc := 0) cs_X5_143 wd_412 dX5_pinned_191 [.int u7] [.int u7, .int u2, .int u1, .ref 0] rfl rfl (t_X5_bit hq31) ⟨by decide, by decide⟩ (Nat.le_of_ble_eq_true rfl) ⟨rfl, rfl⟩ ?_
            refine mw_iload dX5_pinned_194 7 rfl ?_
            obtain ⟨q32, hq32, h⟩ := mh_bind h
            refine mw_sr (dc := 0) cs_X5_143 wd_412 dX5_pinned_196 [.int u8] [.int u8, .long q31, .int u2, .int u1, .ref 0] rfl rfl (t_X5_bit hq32) ⟨by decide, by decide⟩ (Nat.le_of_ble_eq_true rfl) ⟨rfl, rfl⟩ ?_
            refine mw_lor dX5_pinned_199 ?_
            obtain ⟨q33, hq33, h⟩ := mh_bind h
            refine mw_vr (dc := 5) (ci := 5) (fs := fsX5) (T := TX5) (N := 9) cv_X5_209 wd_577 dX5_pinned_200 [.int u1, .int u2, .long (q31 ||| q32)] [.long (q31 ||| q32), .int u2, .int u1, .ref 0] rfl rfl rfl rfl (t_X5_dropPinned hq33) ⟨by decide, by decide⟩ (Nat.le_of_ble_eq_true rfl) ⟨rfl, rfl⟩ ?_
            refine mw_iload_n dX5_pinned_203 3 rfl ?_
            refine mw_icmp_gt (tgt := 230) dX5_pinned_204 (by decide) (fun hc34 => ?_) (fun hc34 => ?_)
            · replace h := mh_ifp hc34 h
              refine mw_loc [0, 1, 2, 3, 4, 5, 6, 7] rfl ?_
              exact hJ29 _ _ h
            · replace h := mh_ifn hc34 h
              refine mw_loc [4, 6, 7] rfl ?_
              exact hk207 _ _ _ h
def X5_pinned_l146 (u1 : Int32) (u2 : Int32) (u3 : Int32) (u5 : Int64) (k207 : (Int32 → Int32 → mh_I → mh_L → Option (Int32 × mh_I × mh_L))) : Nat → Int32 → mh_I → mh_L → Option (Int32 × mh_I × mh_L)
  | 0, _, _, _ => none
  | n + 1, u7, I, L => if (48 : Int32) ≤ u7 then some ((-1 : Int32), I, L) else mh_b (u7 + (1 : Int32)) (fun b25 => X5_pinned_l159 u1 u2 u3 u5 u7 (fun (v39 : Int32) (I40 : mh_I) (L41 : mh_L) => (k207 u7 v39 I40 L41)) (fun (I42 : mh_I) (L43 : mh_L) => mh_b (u7 + (1 : Int32)) (fun b44 => (X5_pinned_l146 u1 u2 u3 u5 k207 n b44 I42 L43))) mh_fuel b25 I L)
set_option maxHeartbeats 4000000 in
set_option maxRecDepth 100000 in
theorem t_X5_pinned_l146 {into : Option Nat} {u1 : Int32} {u2 : Int32} {u3 : Int32} {u4 : Int32} {u5 : Int64} {k207 : (Int32 → Int32 → mh_I → mh_L → Option (Int32 × mh_I × mh_L))} {res : Int32 × mh_I × mh_L} (n : Nat) (u7 : Int32) (I : mh_I) (L : mh_L) (h : X5_pinned_l146 u1 u2 u3 u5 k207 n u7 I L = some res) (hk207 : ∀ (u7 : Int32) (u8 : Int32) (I : mh_I) (L : mh_L), k207 u7 u8 I L = some res → w_X5_pinned (SHX into) (mh_ret (some (.int res.1)) (SHX into) res.2.1 res.2.2) I L 207 [(4, .int u4), (7, .int u7), (8, .int u8)] []) : w_X5_pinned (SHX into) (mh_ret (some (.int res.1)) (SHX into) res.2.1 res.2.2) I L 146 [(0, .ref 0), (1, .int u1), (2, .int u2), (3, .int u3), (4, .int u4), (5, .long u5), (7, .int u7)] [] := by
  induction n generalizing u7 I L with
  | zero => rw [X5_pinned_l146] at h; cases h
  | succ n ih =>
    rw [X5_pinned_l146] at h
    refine mw_iload dX5_pinned_146 6 rfl ?_
    refine mw_bipush (v := 48) dX5_pinned_148 (by decide) ?_
    refine mw_icmp_ge (tgt := 242) dX5_pinned_150 (by decide) (fun hc45 => ?_) (fun hc45 => ?_)
    · replace h := mh_ifp hc45 h
      refine mw_iconst (v := -1) dX5_pinned_242 (by decide) ?_
      obtain rfl := Option.some.inj h
      exact mw_iret dX5_pinned_243 rfl rfl (Nat.le_of_ble_eq_true rfl) (Nat.le_refl 0) mh_ret_rfl
    · replace h := mh_ifn hc45 h
      refine mw_iload dX5_pinned_153 6 rfl ?_
      refine mw_iconst (v := 1) dX5_pinned_155 (by decide) ?_
      refine mw_iadd dX5_pinned_156 ?_
      obtain ⟨b25, eb25, h⟩ := mh_b_some h
      refine mw_nmi eb25 ?_
      refine mw_istore dX5_pinned_157 (by decide) rfl ?_
      refine mw_loc [1, 2, 3, 4, 5, 6, 7, 0] rfl ?_
      refine t_X5_pinned_l159  _ _ _ _ h (fun v39 I40 L41 h => ?_) (fun I42 L43 h => ?_)
      · refine mw_loc [0, 1, 2] rfl ?_
        exact hk207 _ _ _ _ h
      · obtain ⟨b44, eb44, h⟩ := mh_b_some h
        refine mw_iinc (v := b44) dX5_pinned_236 6 rfl (by rw [← eb44]; rfl) (by decide) rfl ?_
        refine mw_goto (tgt := 146) dX5_pinned_239 (by decide) ?_
        refine mw_loc [1, 2, 3, 4, 5, 6, 0] rfl ?_
        exact ih _ _ _ h
def X5_pinned (p1 : Int32) (p2 : Int32) (p3 : Int32) (p4 : Int32) (I : mh_I) (L : mh_L) : Option (Int32 × mh_I × mh_L) := (X5_isLoop p1).bind (fun q1 => if q1 = 0 then some ((-5 : Int32), I, L) else (X5_isPull p2).bind (fun q2 => if q2 = 0 then some ((-7 : Int32), I, L) else (X5_within p3 (0 : Int32) (48 : Int32)).bind (fun q3 => if q3 = 0 then some ((-7 : Int32), I, L) else (X5_within p4 (0 : Int32) (2 : Int32)).bind (fun q4 => if q4 = 0 then some ((-7 : Int32), I, L) else (X5_dropPinned p1 p2 (0 : Int64) I L).bind (fun q5 => if p3 < q5.1 then (X5_bit p1).bind (fun q6 => mh_b ((q5.2.2 10 1) &&& (q6 ^^^ (-1 : Int64))) (fun b7 => X5_pinned_l83 p1 p2 p3 b7 (fun (v18 : Int32) (I19 : mh_I) (L20 : mh_L) => if p4 = 0 then some ((1 : Int32), I19, L20) else if p4 = (1 : Int32) then some (v18, I19, L20) else some ((-1 : Int32), I19, L20)) (fun (I23 : mh_I) (L24 : mh_L) => X5_pinned_l146 p1 p2 p3 b7 (fun (v46 : Int32) (v47 : Int32) (I48 : mh_I) (L49 : mh_L) => if p4 = 0 then some ((2 : Int32), I48, L49) else if p4 = (1 : Int32) then some (v46, I48, L49) else some (v47, I48, L49)) mh_fuel (0 : Int32) I23 L24) mh_fuel (0 : Int32) q5.2.1 q5.2.2)) else if p4 = 0 then some ((0 : Int32), q5.2.1, q5.2.2) else some ((-1 : Int32), q5.2.1, q5.2.2))))))
set_option maxHeartbeats 4000000 in
set_option maxRecDepth 100000 in
theorem t_X5_pinned {into : Option Nat} {L : mh_L} {I : mh_I} {p1 : Int32} {p2 : Int32} {p3 : Int32} {p4 : Int32} {res : Int32 × mh_I × mh_L} (h : X5_pinned p1 p2 p3 p4 I L = some res) : mh_CT yX5_pinned cX5_pinned 9 (some .int) (mh_rm 6) (SHX into) I L [.ref 0, .int p1, .int p2, .int p3, .int p4] (mh_ret (some (.int res.1)) (SHX into) res.2.1 res.2.2) := by
  refine mh_ofW (ini := false) RX5 rfl (by decide) (fun h => by cases h) (Nat.le_of_ble_eq_true rfl) ?_
  show w_X5_pinned (SHX into) (mh_ret (some (.int res.1)) (SHX into) res.2.1 res.2.2) I L 0 [(0, .ref 0), (1, .int p1), (2, .int p2), (3, .int p3), (4, .int p4)] []
  unfold X5_pinned at h
  refine mw_iload_n dX5_pinned_0 1 rfl ?_
  obtain ⟨q1, hq1, h⟩ := mh_bind h
  refine mw_sz (dc := 1) cs_X5_101 wd_329 dX5_pinned_1 [.int p1] [.int p1] rfl rfl (t_X5_isLoop hq1) ⟨by decide, by decide⟩ (Nat.le_of_ble_eq_true rfl) ⟨rfl, rfl⟩ (fun zq1 => ?_)
  refine mw_if_ne (tgt := 10) dX5_pinned_4 (by decide) (fun hc57 => ?_) (fun hc57 => ?_)
  · replace h := mh_ifn hc57 h
    refine mw_iload_n dX5_pinned_10 2 rfl ?_
    obtain ⟨q2, hq2, h⟩ := mh_bind h
    refine mw_sz (dc := 1) cs_X5_104 wd_332 dX5_pinned_11 [.int p2] [.int p2] rfl rfl (t_X5_isPull hq2) ⟨by decide, by decide⟩ (Nat.le_of_ble_eq_true rfl) ⟨rfl, rfl⟩ (fun zq2 => ?_)
    refine mw_if_eq (tgt := 37) dX5_pinned_14 (by decide) (fun hc56 => ?_) (fun hc56 => ?_)
    · replace h := mh_ifp hc56 h
      refine mw_bipush (v := -7) dX5_pinned_37 (by decide) ?_
      obtain rfl := Option.some.inj h
      exact mw_iret dX5_pinned_39 rfl rfl (Nat.le_of_ble_eq_true rfl) (Nat.le_refl 0) mh_ret_rfl
    · replace h := mh_ifn hc56 h
      refine mw_iload_n dX5_pinned_17 3 rfl ?_
      refine mw_iconst (v := 0) dX5_pinned_18 (by decide) ?_
      refine mw_bipush (v := 48) dX5_pinned_19 (by decide) ?_
      obtain ⟨q3, hq3, h⟩ := mh_bind h
      refine mw_sz (dc := 0) cs_X5_97 wd_223 dX5_pinned_21 [.int p3, .int (0 : Int32), .int (48 : Int32)] [.int (48 : Int32), .int (0 : Int32), .int p3] rfl rfl (t_X5_within hq3) ⟨by decide, by decide⟩ (Nat.le_of_ble_eq_true rfl) ⟨rfl, rfl⟩ (fun zq3 => ?_)
      refine mw_if_eq (tgt := 37) dX5_pinned_24 (by decide) (fun hc55 => ?_) (fun hc55 => ?_)
      · replace h := mh_ifp hc55 h
        refine mw_bipush (v := -7) dX5_pinned_37 (by decide) ?_
        obtain rfl := Option.some.inj h
        exact mw_iret dX5_pinned_39 rfl rfl (Nat.le_of_ble_eq_true rfl) (Nat.le_refl 0) mh_ret_rfl
      · replace h := mh_ifn hc55 h
        refine mw_iload dX5_pinned_27 4 rfl ?_
        refine mw_iconst (v := 0) dX5_pinned_29 (by decide) ?_
        refine mw_iconst (v := 2) dX5_pinned_30 (by decide) ?_
        obtain ⟨q4, hq4, h⟩ := mh_bind h
        refine mw_sz (dc := 0) cs_X5_97 wd_223 dX5_pinned_31 [.int p4, .int (0 : Int32), .int (2 : Int32)] [.int (2 : Int32), .int (0 : Int32), .int p4] rfl rfl (t_X5_within hq4) ⟨by decide, by decide⟩ (Nat.le_of_ble_eq_true rfl) ⟨rfl, rfl⟩ (fun zq4 => ?_)
        refine mw_if_ne (tgt := 40) dX5_pinned_34 (by decide) (fun hc54 => ?_) (fun hc54 => ?_)
        · replace h := mh_ifn hc54 h
          refine mw_aload_n dX5_pinned_40 0 rfl ?_
          refine mw_iload_n dX5_pinned_41 1 rfl ?_
          refine mw_iload_n dX5_pinned_42 2 rfl ?_
          refine mw_lconst (v := 0) dX5_pinned_43 (by decide) ?_
          obtain ⟨q5, hq5, h⟩ := mh_bind h
          refine mw_vr (dc := 5) (ci := 5) (fs := fsX5) (T := TX5) (N := 9) cv_X5_209 wd_577 dX5_pinned_44 [.int p1, .int p2, .long (0 : Int64)] [.long (0 : Int64), .int p2, .int p1, .ref 0] rfl rfl rfl rfl (t_X5_dropPinned hq5) ⟨by decide, by decide⟩ (Nat.le_of_ble_eq_true rfl) ⟨rfl, rfl⟩ ?_
          refine mw_iload_n dX5_pinned_47 3 rfl ?_
          refine mw_icmp_gt (tgt := 62) dX5_pinned_48 (by decide) (fun hc53 => ?_) (fun hc53 => ?_)
          · replace h := mh_ifp hc53 h
            refine mw_aload_n dX5_pinned_62 0 rfl ?_
            refine mw_getr (b := 10) (fs := fsX5) gf_X5_35 dX5_pinned_63 rfl rfl ?_
            refine mw_getl (fs := (fsX0 10)) gf_X5_167 dX5_pinned_66 (sx_fall into).1 rfl ?_
            refine mw_iload_n dX5_pinned_69 1 rfl ?_
            obtain ⟨q6, hq6, h⟩ := mh_bind h
            refine mw_sr (dc := 0) cs_X5_143 wd_412 dX5_pinned_70 [.int p1] [.int p1, .long (q5.2.2 10 1)] rfl rfl (t_X5_bit hq6) ⟨by decide, by decide⟩ (Nat.le_of_ble_eq_true rfl) ⟨rfl, rfl⟩ ?_
            refine mw_ldc2 dX5_pinned_73 wd_413 ?_
            refine mw_lxor dX5_pinned_76 ?_
            refine mw_land dX5_pinned_77 ?_
            obtain ⟨b7, eb7, h⟩ := mh_b_some h
            refine mw_nml eb7 ?_
            refine mw_lstore dX5_pinned_78 (by decide) rfl ?_
            refine mw_iconst (v := 0) dX5_pinned_80 (by decide) ?_
            refine mw_istore dX5_pinned_81 (by decide) rfl ?_
            refine mw_loc [2, 3, 4, 5, 6, 1, 0] rfl ?_
            refine t_X5_pinned_l83  _ _ _ _ h (fun v18 I19 L20 h => ?_) (fun I23 L24 h => ?_)
            · refine mw_iload dX5_pinned_115 0 rfl ?_
              refine mw_if_ne (tgt := 124) dX5_pinned_117 (by decide) (fun hc22 => ?_) (fun hc22 => ?_)
              · replace h := mh_ifn hc22 h
                refine mw_iload dX5_pinned_124 0 rfl ?_
                refine mw_iconst (v := 1) dX5_pinned_126 (by decide) ?_
                refine mw_icmp_ne (tgt := 135) dX5_pinned_127 (by decide) (fun hc21 => ?_) (fun hc21 => ?_)
                · replace h := mh_ifn hc21 h
                  refine mw_iconst (v := -1) dX5_pinned_135 (by decide) ?_
                  obtain rfl := Option.some.inj h
                  exact mw_iret dX5_pinned_136 rfl rfl (Nat.le_of_ble_eq_true rfl) (Nat.le_refl 0) mh_ret_rfl
                · replace h := mh_ifp hc21 h
                  refine mw_iload dX5_pinned_130 1 rfl ?_
                  refine mw_goto (tgt := 136) dX5_pinned_132 (by decide) ?_
                  obtain rfl := Option.some.inj h
                  exact mw_iret dX5_pinned_136 rfl rfl (Nat.le_of_ble_eq_true rfl) (Nat.le_refl 0) mh_ret_rfl
              · replace h := mh_ifp hc22 h
                refine mw_iconst (v := 1) dX5_pinned_120 (by decide) ?_
                refine mw_goto (tgt := 136) dX5_pinned_121 (by decide) ?_
                obtain rfl := Option.some.inj h
                exact mw_iret dX5_pinned_136 rfl rfl (Nat.le_of_ble_eq_true rfl) (Nat.le_refl 0) mh_ret_rfl
            · refine mw_iconst (v := 0) dX5_pinned_143 (by decide) ?_
              refine mw_istore dX5_pinned_144 (by decide) rfl ?_
              refine mw_loc [1, 2, 3, 4, 5, 6, 0] rfl ?_
              refine t_X5_pinned_l146  _ _ _ _ h (fun v46 v47 I48 L49 h => ?_)
              refine mw_iload dX5_pinned_207 0 rfl ?_
              refine mw_if_ne (tgt := 216) dX5_pinned_209 (by decide) (fun hc51 => ?_) (fun hc51 => ?_)
              · replace h := mh_ifn hc51 h
                refine mw_iload dX5_pinned_216 0 rfl ?_
                refine mw_iconst (v := 1) dX5_pinned_218 (by decide) ?_
                refine mw_icmp_ne (tgt := 227) dX5_pinned_219 (by decide) (fun hc50 => ?_) (fun hc50 => ?_)
                · replace h := mh_ifn hc50 h
                  refine mw_iload dX5_pinned_227 2 rfl ?_
                  obtain rfl := Option.some.inj h
                  exact mw_iret dX5_pinned_229 rfl rfl (Nat.le_of_ble_eq_true rfl) (Nat.le_refl 0) mh_ret_rfl
                · replace h := mh_ifp hc50 h
                  refine mw_iload dX5_pinned_222 1 rfl ?_
                  refine mw_goto (tgt := 229) dX5_pinned_224 (by decide) ?_
                  obtain rfl := Option.some.inj h
                  exact mw_iret dX5_pinned_229 rfl rfl (Nat.le_of_ble_eq_true rfl) (Nat.le_refl 0) mh_ret_rfl
              · replace h := mh_ifp hc51 h
                refine mw_iconst (v := 2) dX5_pinned_212 (by decide) ?_
                refine mw_goto (tgt := 229) dX5_pinned_213 (by decide) ?_
                obtain rfl := Option.some.inj h
                exact mw_iret dX5_pinned_229 rfl rfl (Nat.le_of_ble_eq_true rfl) (Nat.le_refl 0) mh_ret_rfl
          · replace h := mh_ifn hc53 h
            refine mw_iload dX5_pinned_51 4 rfl ?_
            refine mw_if_ne (tgt := 60) dX5_pinned_53 (by decide) (fun hc52 => ?_) (fun hc52 => ?_)
            · replace h := mh_ifn hc52 h
              refine mw_iconst (v := -1) dX5_pinned_60 (by decide) ?_
              obtain rfl := Option.some.inj h
              exact mw_iret dX5_pinned_61 rfl rfl (Nat.le_of_ble_eq_true rfl) (Nat.le_refl 0) mh_ret_rfl
            · replace h := mh_ifp hc52 h
              refine mw_iconst (v := 0) dX5_pinned_56 (by decide) ?_
              refine mw_goto (tgt := 61) dX5_pinned_57 (by decide) ?_
              obtain rfl := Option.some.inj h
              exact mw_iret dX5_pinned_61 rfl rfl (Nat.le_of_ble_eq_true rfl) (Nat.le_refl 0) mh_ret_rfl
        · replace h := mh_ifp hc54 h
          refine mw_bipush (v := -7) dX5_pinned_37 (by decide) ?_
          obtain rfl := Option.some.inj h
          exact mw_iret dX5_pinned_39 rfl rfl (Nat.le_of_ble_eq_true rfl) (Nat.le_refl 0) mh_ret_rfl
  · replace h := mh_ifp hc57 h
    refine mw_bipush (v := -5) dX5_pinned_7 (by decide) ?_
    obtain rfl := Option.some.inj h
    exact mw_iret dX5_pinned_9 rfl rfl (Nat.le_of_ble_eq_true rfl) (Nat.le_refl 0) mh_ret_rfl
abbrev w_X5_mending (sh : List mh_C) (Φ : mh_P) (I : mh_I) (L : mh_L) (pc : Nat) (lv : List (Nat × Value)) (st : List Value) : Prop := mh_W RX5 cX5_mending 8 (some .int) false (mh_rm 6) 46 0 0 mh_noX Φ 0 sh I L pc lv st
def X5_mending (p1 : Int32) (p2 : Int32) (p3 : Int32) (I : mh_I) (L : mh_L) : Option (Int32 × mh_I × mh_L) := (X5_isLoop p1).bind (fun q1 => if q1 = 0 then some ((-5 : Int32), I, L) else (X5_isPull p2).bind (fun q2 => if q2 = 0 then some ((-7 : Int32), I, L) else (X5_within p3 (0 : Int32) (1 : Int32)).bind (fun q3 => if q3 = 0 then some ((-7 : Int32), I, L) else (X5_drop p1 p2 I L).bind (fun q4 => if (lg_cmp (q4.2.2 10 1) (0 : Int64)) = 0 then if p3 = 0 then some ((-1 : Int32), q4.2.1, q4.2.2) else some ((0 : Int32), q4.2.1, q4.2.2) else (X5_together (1 : Int32) q4.2.1 q4.2.2).bind (fun q5 => mh_b q5.1 (fun b6 => (X5_lowestRow q4.2.2).bind (fun q7 => mh_b ((24 : Int32) * ((8 : Int32) - q7)) (fun b8 => mh_j (fun (v9 : Int32) (v10 : Int32) => (J13_bitCount_95d88 (q4.2.2 10 1)).bind (fun q13 => mh_b ((50 : Int32) + q13) (fun b14 => mh_j (fun (v15 : Int32) (v16 : Int32) => if p3 = 0 then some (v15, q5.2, q4.2.2) else some (v16, q5.2, q4.2.2)) (fun J17 => if v10 ≤ b14 then (J17 v9 v10) else (J17 (2 : Int32) b14))))) (fun J11 => if b6 ≤ b8 then (J11 (0 : Int32) b6) else (J11 (1 : Int32) b8))))))))))
set_option maxHeartbeats 4000000 in
set_option maxRecDepth 100000 in
theorem t_X5_mending {into : Option Nat} {L : mh_L} {I : mh_I} {p1 : Int32} {p2 : Int32} {p3 : Int32} {res : Int32 × mh_I × mh_L} (h : X5_mending p1 p2 p3 I L = some res) : mh_CT yX5_mending cX5_mending 8 (some .int) (mh_rm 6) (SHX into) I L [.ref 0, .int p1, .int p2, .int p3] (mh_ret (some (.int res.1)) (SHX into) res.2.1 res.2.2) := by
  refine mh_ofW (ini := false) RX5 rfl (by decide) (fun h => by cases h) (Nat.le_of_ble_eq_true rfl) ?_
  show w_X5_mending (SHX into) (mh_ret (some (.int res.1)) (SHX into) res.2.1 res.2.2) I L 0 [(0, .ref 0), (1, .int p1), (2, .int p2), (3, .int p3)] []
  unfold X5_mending at h
  refine mw_iload_n dX5_mending_0 1 rfl ?_
  obtain ⟨q1, hq1, h⟩ := mh_bind h
  refine mw_sz (dc := 1) cs_X5_101 wd_329 dX5_mending_1 [.int p1] [.int p1] rfl rfl (t_X5_isLoop hq1) ⟨by decide, by decide⟩ (Nat.le_of_ble_eq_true rfl) ⟨rfl, rfl⟩ (fun zq1 => ?_)
  refine mw_if_ne (tgt := 10) dX5_mending_4 (by decide) (fun hc24 => ?_) (fun hc24 => ?_)
  · replace h := mh_ifn hc24 h
    refine mw_iload_n dX5_mending_10 2 rfl ?_
    obtain ⟨q2, hq2, h⟩ := mh_bind h
    refine mw_sz (dc := 1) cs_X5_104 wd_332 dX5_mending_11 [.int p2] [.int p2] rfl rfl (t_X5_isPull hq2) ⟨by decide, by decide⟩ (Nat.le_of_ble_eq_true rfl) ⟨rfl, rfl⟩ (fun zq2 => ?_)
    refine mw_if_eq (tgt := 26) dX5_mending_14 (by decide) (fun hc23 => ?_) (fun hc23 => ?_)
    · replace h := mh_ifp hc23 h
      refine mw_bipush (v := -7) dX5_mending_26 (by decide) ?_
      obtain rfl := Option.some.inj h
      exact mw_iret dX5_mending_28 rfl rfl (Nat.le_of_ble_eq_true rfl) (Nat.le_refl 0) mh_ret_rfl
    · replace h := mh_ifn hc23 h
      refine mw_iload_n dX5_mending_17 3 rfl ?_
      refine mw_iconst (v := 0) dX5_mending_18 (by decide) ?_
      refine mw_iconst (v := 1) dX5_mending_19 (by decide) ?_
      obtain ⟨q3, hq3, h⟩ := mh_bind h
      refine mw_sz (dc := 0) cs_X5_97 wd_223 dX5_mending_20 [.int p3, .int (0 : Int32), .int (1 : Int32)] [.int (1 : Int32), .int (0 : Int32), .int p3] rfl rfl (t_X5_within hq3) ⟨by decide, by decide⟩ (Nat.le_of_ble_eq_true rfl) ⟨rfl, rfl⟩ (fun zq3 => ?_)
      refine mw_if_ne (tgt := 29) dX5_mending_23 (by decide) (fun hc22 => ?_) (fun hc22 => ?_)
      · replace h := mh_ifn hc22 h
        refine mw_aload_n dX5_mending_29 0 rfl ?_
        refine mw_iload_n dX5_mending_30 1 rfl ?_
        refine mw_iload_n dX5_mending_31 2 rfl ?_
        obtain ⟨q4, hq4, h⟩ := mh_bind h
        refine mw_vr (dc := 5) (ci := 5) (fs := fsX5) (T := TX5) (N := 9) cv_X5_163 wd_457 dX5_mending_32 [.int p1, .int p2] [.int p2, .int p1, .ref 0] rfl rfl rfl rfl (t_X5_drop hq4) ⟨by decide, by decide⟩ (Nat.le_of_ble_eq_true rfl) ⟨rfl, rfl⟩ ?_
        refine mw_pop dX5_mending_35 rfl ?_
        refine mw_aload_n dX5_mending_36 0 rfl ?_
        refine mw_getr (b := 10) (fs := fsX5) gf_X5_35 dX5_mending_37 rfl rfl ?_
        refine mw_getl (fs := (fsX0 10)) gf_X5_167 dX5_mending_40 (sx_fall into).1 rfl ?_
        refine mw_lconst (v := 0) dX5_mending_43 (by decide) ?_
        refine mw_lcmp dX5_mending_44 ?_
        refine mw_if_ne (tgt := 58) dX5_mending_45 (by decide) (fun hc21 => ?_) (fun hc21 => ?_)
        · replace h := mh_ifn hc21 h
          refine mw_iconst (v := 0) dX5_mending_58 (by decide) ?_
          refine mw_istore dX5_mending_59 (by decide) rfl ?_
          refine mw_aload_n dX5_mending_61 1 rfl ?_
          refine mw_iconst (v := 1) dX5_mending_62 (by decide) ?_
          obtain ⟨q5, hq5, h⟩ := mh_bind h
          refine mw_vr (dc := 3) (ci := 5) (fs := fsX5) (T := TX5) (N := 9) cv_X5_173 wd_491 dX5_mending_63 [.int (1 : Int32)] [.int (1 : Int32), .ref 0] rfl rfl rfl rfl (t_X5_together hq5) ⟨by decide, by decide⟩ (Nat.le_of_ble_eq_true rfl) ⟨rfl, rfl⟩ ?_
          obtain ⟨b6, eb6, h⟩ := mh_b_some h
          refine mw_nmi eb6 ?_
          refine mw_istore dX5_mending_66 (by decide) rfl ?_
          refine mw_bipush (v := 24) dX5_mending_68 (by decide) ?_
          refine mw_bipush (v := 8) dX5_mending_70 (by decide) ?_
          refine mw_aload_n dX5_mending_72 2 rfl ?_
          obtain ⟨q7, hq7, h⟩ := mh_bind h
          refine mw_vr (dc := 2) (ci := 5) (fs := fsX5) (T := TX5) (N := 9) cv_X5_170 wd_480 dX5_mending_73 [] [.ref 0, .int (8 : Int32), .int (24 : Int32)] rfl rfl rfl rfl (t_X5_lowestRow hq7) ⟨by decide, by decide⟩ (Nat.le_of_ble_eq_true rfl) ⟨rfl, rfl⟩ ?_
          refine mw_isub dX5_mending_76 ?_
          refine mw_imul dX5_mending_77 ?_
          obtain ⟨b8, eb8, h⟩ := mh_b_some h
          refine mw_nmi eb8 ?_
          refine mw_istore dX5_mending_78 (by decide) rfl ?_
          refine mw_iload dX5_mending_80 0 rfl ?_
          refine mw_iload dX5_mending_82 1 rfl ?_
          refine mh_jw (fun J11 => ∀ (v9 : Int32) (v10 : Int32), J11 v9 v10 = some res → w_X5_mending (SHX into) (mh_ret (some (.int res.1)) (SHX into) res.2.1 res.2.2) q5.2 q4.2.2 94 [(0, .ref 0), (3, .int p3), (4, .int v9), (5, .int v10)] []) h (fun v9 v10 h => ?_) (fun J11 hJ11 h => ?_)
          · refine mw_bipush (v := 50) dX5_mending_94 (by decide) ?_
            refine mw_aload_n dX5_mending_96 0 rfl ?_
            refine mw_getr (b := 10) (fs := fsX5) gf_X5_35 dX5_mending_97 rfl rfl ?_
            refine mw_getl (fs := (fsX0 10)) gf_X5_167 dX5_mending_100 (sx_fall into).1 rfl ?_
            obtain ⟨q13, hq13, h⟩ := mh_bind h
            refine mw_sr (dc := 0) cs_X5_74 wd_303 dX5_mending_103 [.long (q4.2.2 10 1)] [.long (q4.2.2 10 1), .int (50 : Int32)] rfl rfl (t_J13_bitCount_95d88 hq13) ⟨by decide, by decide⟩ (Nat.le_of_ble_eq_true rfl) ⟨rfl, rfl⟩ ?_
            refine mw_iadd dX5_mending_106 ?_
            obtain ⟨b14, eb14, h⟩ := mh_b_some h
            refine mw_nmi eb14 ?_
            refine mw_istore dX5_mending_107 (by decide) rfl ?_
            refine mw_iload dX5_mending_109 0 rfl ?_
            refine mw_iload dX5_mending_111 4 rfl ?_
            refine mh_jw (fun J17 => ∀ (v15 : Int32) (v16 : Int32), J17 v15 v16 = some res → w_X5_mending (SHX into) (mh_ret (some (.int res.1)) (SHX into) res.2.1 res.2.2) q5.2 q4.2.2 123 [(3, .int p3), (4, .int v15), (5, .int v16)] []) h (fun v15 v16 h => ?_) (fun J17 hJ17 h => ?_)
            · refine mw_iload_n dX5_mending_123 0 rfl ?_
              refine mw_if_ne (tgt := 132) dX5_mending_124 (by decide) (fun hc19 => ?_) (fun hc19 => ?_)
              · replace h := mh_ifn hc19 h
                refine mw_iload dX5_mending_132 2 rfl ?_
                obtain rfl := Option.some.inj h
                exact mw_iret dX5_mending_134 rfl rfl (Nat.le_of_ble_eq_true rfl) (Nat.le_refl 0) mh_ret_rfl
              · replace h := mh_ifp hc19 h
                refine mw_iload dX5_mending_127 1 rfl ?_
                refine mw_goto (tgt := 134) dX5_mending_129 (by decide) ?_
                obtain rfl := Option.some.inj h
                exact mw_iret dX5_mending_134 rfl rfl (Nat.le_of_ble_eq_true rfl) (Nat.le_refl 0) mh_ret_rfl
            · refine mw_icmp_ge (tgt := 123) dX5_mending_113 (by decide) (fun hc18 => ?_) (fun hc18 => ?_)
              · replace h := mh_ifp hc18 h
                refine mw_loc [2, 3, 4] rfl ?_
                exact hJ17 _ _ h
              · replace h := mh_ifn hc18 h
                refine mw_iconst (v := 2) dX5_mending_116 (by decide) ?_
                refine mw_istore dX5_mending_117 (by decide) rfl ?_
                refine mw_iload dX5_mending_119 1 rfl ?_
                refine mw_istore dX5_mending_121 (by decide) rfl ?_
                refine mw_loc [4, 1, 0] rfl ?_
                exact hJ17 _ _ h
          · refine mw_icmp_ge (tgt := 94) dX5_mending_84 (by decide) (fun hc12 => ?_) (fun hc12 => ?_)
            · replace h := mh_ifp hc12 h
              refine mw_loc [3, 6, 2, 1] rfl ?_
              exact hJ11 _ _ h
            · replace h := mh_ifn hc12 h
              refine mw_iconst (v := 1) dX5_mending_87 (by decide) ?_
              refine mw_istore dX5_mending_88 (by decide) rfl ?_
              refine mw_iload dX5_mending_90 1 rfl ?_
              refine mw_istore dX5_mending_92 (by decide) rfl ?_
              refine mw_loc [3, 6, 1, 0] rfl ?_
              exact hJ11 _ _ h
        · replace h := mh_ifp hc21 h
          refine mw_iload_n dX5_mending_48 3 rfl ?_
          refine mw_if_ne (tgt := 56) dX5_mending_49 (by decide) (fun hc20 => ?_) (fun hc20 => ?_)
          · replace h := mh_ifn hc20 h
            refine mw_iconst (v := 0) dX5_mending_56 (by decide) ?_
            obtain rfl := Option.some.inj h
            exact mw_iret dX5_mending_57 rfl rfl (Nat.le_of_ble_eq_true rfl) (Nat.le_refl 0) mh_ret_rfl
          · replace h := mh_ifp hc20 h
            refine mw_iconst (v := -1) dX5_mending_52 (by decide) ?_
            refine mw_goto (tgt := 57) dX5_mending_53 (by decide) ?_
            obtain rfl := Option.some.inj h
            exact mw_iret dX5_mending_57 rfl rfl (Nat.le_of_ble_eq_true rfl) (Nat.le_refl 0) mh_ret_rfl
      · replace h := mh_ifp hc22 h
        refine mw_bipush (v := -7) dX5_mending_26 (by decide) ?_
        obtain rfl := Option.some.inj h
        exact mw_iret dX5_mending_28 rfl rfl (Nat.le_of_ble_eq_true rfl) (Nat.le_refl 0) mh_ret_rfl
  · replace h := mh_ifp hc24 h
    refine mw_bipush (v := -5) dX5_mending_7 (by decide) ?_
    obtain rfl := Option.some.inj h
    exact mw_iret dX5_mending_9 rfl rfl (Nat.le_of_ble_eq_true rfl) (Nat.le_refl 0) mh_ret_rfl
abbrev w_X5_mend (sh : List mh_C) (Φ : mh_P) (I : mh_I) (L : mh_L) (pc : Nat) (lv : List (Nat × Value)) (st : List Value) : Prop := mh_W RX5 cX5_mend 4 (some .int) false (mh_rm 6) 46 0 0 mh_noX Φ 0 sh I L pc lv st
def X5_mend (p1 : Int32) (p2 : Int32) (I : mh_I) (L : mh_L) : Option (Int32 × mh_I × mh_L) := (X5_isLoop p1).bind (fun q1 => if q1 = 0 then some ((-5 : Int32), I, L) else (X5_isPull p2).bind (fun q2 => if q2 = 0 then some ((-7 : Int32), I, L) else (X5_drop p1 p2 I L).bind (fun q3 => (J13_bitCount_95d88 ((q3.2.2 10 1) &&& ((q3.2.2 1 3) ^^^ (-1 : Int64)))).bind (fun q4 => some (q4, q3.2.1, (mh_ul q3.2.2 1 3 ((q3.2.2 1 3) ||| (q3.2.2 10 1))))))))
set_option maxHeartbeats 4000000 in
set_option maxRecDepth 100000 in
theorem t_X5_mend {into : Option Nat} {L : mh_L} {I : mh_I} {p1 : Int32} {p2 : Int32} {res : Int32 × mh_I × mh_L} (h : X5_mend p1 p2 I L = some res) : mh_CT yX5_mend cX5_mend 4 (some .int) (mh_rm 6) (SHX into) I L [.ref 0, .int p1, .int p2] (mh_ret (some (.int res.1)) (SHX into) res.2.1 res.2.2) := by
  refine mh_ofW (ini := false) RX5 rfl (by decide) (fun h => by cases h) (Nat.le_of_ble_eq_true rfl) ?_
  show w_X5_mend (SHX into) (mh_ret (some (.int res.1)) (SHX into) res.2.1 res.2.2) I L 0 [(0, .ref 0), (1, .int p1), (2, .int p2)] []
  unfold X5_mend at h
  refine mw_iload_n dX5_mend_0 1 rfl ?_
  obtain ⟨q1, hq1, h⟩ := mh_bind h
  refine mw_sz (dc := 1) cs_X5_101 wd_329 dX5_mend_1 [.int p1] [.int p1] rfl rfl (t_X5_isLoop hq1) ⟨by decide, by decide⟩ (Nat.le_of_ble_eq_true rfl) ⟨rfl, rfl⟩ (fun zq1 => ?_)
  refine mw_if_ne (tgt := 10) dX5_mend_4 (by decide) (fun hc6 => ?_) (fun hc6 => ?_)
  · replace h := mh_ifn hc6 h
    refine mw_iload_n dX5_mend_10 2 rfl ?_
    obtain ⟨q2, hq2, h⟩ := mh_bind h
    refine mw_sz (dc := 1) cs_X5_104 wd_332 dX5_mend_11 [.int p2] [.int p2] rfl rfl (t_X5_isPull hq2) ⟨by decide, by decide⟩ (Nat.le_of_ble_eq_true rfl) ⟨rfl, rfl⟩ (fun zq2 => ?_)
    refine mw_if_ne (tgt := 20) dX5_mend_14 (by decide) (fun hc5 => ?_) (fun hc5 => ?_)
    · replace h := mh_ifn hc5 h
      refine mw_aload_n dX5_mend_20 0 rfl ?_
      refine mw_iload_n dX5_mend_21 1 rfl ?_
      refine mw_iload_n dX5_mend_22 2 rfl ?_
      obtain ⟨q3, hq3, h⟩ := mh_bind h
      refine mw_vr (dc := 5) (ci := 5) (fs := fsX5) (T := TX5) (N := 9) cv_X5_163 wd_457 dX5_mend_23 [.int p1, .int p2] [.int p2, .int p1, .ref 0] rfl rfl rfl rfl (t_X5_drop hq3) ⟨by decide, by decide⟩ (Nat.le_of_ble_eq_true rfl) ⟨rfl, rfl⟩ ?_
      refine mw_pop dX5_mend_26 rfl ?_
      refine mw_aload_n dX5_mend_27 0 rfl ?_
      refine mw_getr (b := 10) (fs := fsX5) gf_X5_35 dX5_mend_28 rfl rfl ?_
      refine mw_getl (fs := (fsX0 10)) gf_X5_167 dX5_mend_31 (sx_fall into).1 rfl ?_
      refine mw_aload_n dX5_mend_34 0 rfl ?_
      refine mw_getr (b := 1) (fs := fsX5) gf_X5_10 dX5_mend_35 rfl rfl ?_
      refine mw_getl (fs := (fsX1 1)) gf_X5_80 dX5_mend_38 (sx_piece into).1 rfl ?_
      refine mw_ldc2 dX5_mend_41 wd_413 ?_
      refine mw_lxor dX5_mend_44 ?_
      refine mw_land dX5_mend_45 ?_
      obtain ⟨q4, hq4, h⟩ := mh_bind h
      refine mw_sr (dc := 0) cs_X5_74 wd_303 dX5_mend_46 [.long ((q3.2.2 10 1) &&& ((q3.2.2 1 3) ^^^ (-1 : Int64)))] [.long ((q3.2.2 10 1) &&& ((q3.2.2 1 3) ^^^ (-1 : Int64)))] rfl rfl (t_J13_bitCount_95d88 hq4) ⟨by decide, by decide⟩ (Nat.le_of_ble_eq_true rfl) ⟨rfl, rfl⟩ ?_
      refine mw_istore_n dX5_mend_49 (by decide) rfl ?_
      refine mw_aload_n dX5_mend_50 1 rfl ?_
      refine mw_getr (b := 1) (fs := fsX5) gf_X5_10 dX5_mend_51 rfl rfl ?_
      refine mw_dup dX5_mend_54 rfl ?_
      refine mw_getl (fs := (fsX1 1)) gf_X5_80 dX5_mend_55 (sx_piece into).1 rfl ?_
      refine mw_aload_n dX5_mend_58 1 rfl ?_
      refine mw_getr (b := 10) (fs := fsX5) gf_X5_35 dX5_mend_59 rfl rfl ?_
      refine mw_getl (fs := (fsX0 10)) gf_X5_167 dX5_mend_62 (sx_fall into).1 rfl ?_
      refine mw_lor dX5_mend_65 ?_
      refine mw_putl (fs := (fsX1 1)) pf_X5_80 (fun h => by cases h) dX5_mend_66 (sx_piece into).1 rfl ?_
      refine mw_iload_n dX5_mend_69 0 rfl ?_
      obtain rfl := Option.some.inj h
      exact mw_iret dX5_mend_70 rfl rfl (Nat.le_of_ble_eq_true rfl) (Nat.le_refl 0) mh_ret_rfl
    · replace h := mh_ifp hc5 h
      refine mw_bipush (v := -7) dX5_mend_17 (by decide) ?_
      obtain rfl := Option.some.inj h
      exact mw_iret dX5_mend_19 rfl rfl (Nat.le_of_ble_eq_true rfl) (Nat.le_refl 0) mh_ret_rfl
  · replace h := mh_ifp hc6 h
    refine mw_bipush (v := -5) dX5_mend_7 (by decide) ?_
    obtain rfl := Option.some.inj h
    exact mw_iret dX5_mend_9 rfl rfl (Nat.le_of_ble_eq_true rfl) (Nat.le_refl 0) mh_ret_rfl
abbrev w_X5_block (sh : List mh_C) (Φ : mh_P) (I : mh_I) (L : mh_L) (pc : Nat) (lv : List (Nat × Value)) (st : List Value) : Prop := mh_W RX5 cX5_block 2 (some .int) false (mh_rm 1) 46 0 0 mh_noX Φ 0 sh I L pc lv st
def X5_block (L : mh_L) : Option (Int32 × mh_L) := (J13_bitCount_95d88 (L 1 3)).bind (fun q1 => some (q1, (mh_ul L 1 3 (0 : Int64))))
set_option maxHeartbeats 4000000 in
set_option maxRecDepth 100000 in
theorem t_X5_block {into : Option Nat} {L : mh_L} {I : mh_I} {res : Int32 × mh_L} (h : X5_block L = some res) : mh_CT yX5_block cX5_block 2 (some .int) (mh_rm 1) (SHX into) I L [.ref 0] (mh_ret (some (.int res.1)) (SHX into) I res.2) := by
  refine mh_ofW (ini := false) RX5 rfl (by decide) (fun h => by cases h) (Nat.le_of_ble_eq_true rfl) ?_
  show w_X5_block (SHX into) (mh_ret (some (.int res.1)) (SHX into) I res.2) I L 0 [(0, .ref 0)] []
  unfold X5_block at h
  refine mw_aload_n dX5_block_0 0 rfl ?_
  refine mw_getr (b := 1) (fs := fsX5) gf_X5_10 dX5_block_1 rfl rfl ?_
  refine mw_getl (fs := (fsX1 1)) gf_X5_80 dX5_block_4 (sx_piece into).1 rfl ?_
  obtain ⟨q1, hq1, h⟩ := mh_bind h
  refine mw_sr (dc := 0) cs_X5_74 wd_303 dX5_block_7 [.long (L 1 3)] [.long (L 1 3)] rfl rfl (t_J13_bitCount_95d88 hq1) ⟨by decide, by decide⟩ (Nat.le_of_ble_eq_true rfl) ⟨rfl, rfl⟩ ?_
  refine mw_istore_n dX5_block_10 (by decide) rfl ?_
  refine mw_aload_n dX5_block_11 1 rfl ?_
  refine mw_getr (b := 1) (fs := fsX5) gf_X5_10 dX5_block_12 rfl rfl ?_
  refine mw_lconst (v := 0) dX5_block_15 (by decide) ?_
  refine mw_putl (fs := (fsX1 1)) pf_X5_80 (fun h => by cases h) dX5_block_16 (sx_piece into).1 rfl ?_
  refine mw_iload_n dX5_block_19 0 rfl ?_
  obtain rfl := Option.some.inj h
  exact mw_iret dX5_block_20 rfl rfl (Nat.le_of_ble_eq_true rfl) (Nat.le_refl 0) mh_ret_rfl
abbrev w_X5_isUnlikeThoseBeside (sh : List mh_C) (Φ : mh_P) (I : mh_I) (L : mh_L) (pc : Nat) (lv : List (Nat × Value)) (st : List Value) : Prop := mh_W RX5 cX5_isUnlikeThoseBeside 4 (some .boolean) false (mh_rm 1) 46 0 0 mh_noX Φ 0 sh I L pc lv st
def X5_isUnlikeThoseBeside (p1 : Int32) (I : mh_I) : Option (Int32) := mh_ix p1 48 (fun k1 => (X5_faceOf (I 2 k1)).bind (fun q3 => mh_b (mh_rem p1 (6 : Int32)) (fun b4 => mh_j (if b4 = (5 : Int32) then some (1 : Int32) else mh_ix (p1 + (1 : Int32)) 48 (fun k11 => (X5_faceOf (I 2 k11)).bind (fun q13 => if q13 = q3 then some (0 : Int32) else some (1 : Int32)))) (fun J5 => if b4 ≤ 0 then J5 else mh_ix (p1 - (1 : Int32)) 48 (fun k6 => (X5_faceOf (I 2 k6)).bind (fun q8 => if q8 = q3 then some (0 : Int32) else J5))))))
set_option maxHeartbeats 4000000 in
set_option maxRecDepth 100000 in
theorem t_X5_isUnlikeThoseBeside {into : Option Nat} {L : mh_L} {I : mh_I} {p1 : Int32} {res : Int32} (h : X5_isUnlikeThoseBeside p1 I = some res) : mh_CT yX5_isUnlikeThoseBeside cX5_isUnlikeThoseBeside 4 (some .boolean) (mh_rm 1) (SHX into) I L [.ref 0, .int p1] (mh_retz res (SHX into) I L) := by
  refine mh_ofW (ini := false) RX5 rfl (by decide) (fun h => by cases h) (Nat.le_of_ble_eq_true rfl) ?_
  show w_X5_isUnlikeThoseBeside (SHX into) (mh_retz res (SHX into) I L) I L 0 [(0, .ref 0), (1, .int p1)] []
  unfold X5_isUnlikeThoseBeside at h
  refine mw_aload_n dX5_isUnlikeThoseBeside_0 0 rfl ?_
  refine mw_getr (b := 1) (fs := fsX5) gf_X5_10 dX5_isUnlikeThoseBeside_1 rfl rfl ?_
  refine mw_getr (b := 2) (fs := (fsX1 1)) gf_X5_118 dX5_isUnlikeThoseBeside_4 (sx_piece into).1 rfl ?_
  refine mw_iload_n dX5_isUnlikeThoseBeside_7 1 rfl ?_
  obtain ⟨k1, hk2, hk2n, hk2l, h⟩ := mh_ix_some h
  refine mw_xiald dX5_isUnlikeThoseBeside_8 (sx_piece into).2.1 hk2 hk2n ?_
  obtain ⟨q3, hq3, h⟩ := mh_bind h
  refine mw_sr (dc := 0) cs_X5_136 wd_354 dX5_isUnlikeThoseBeside_9 [.int (I 2 k1)] [.int (I 2 k1)] rfl rfl (t_X5_faceOf hq3) ⟨by decide, by decide⟩ (Nat.le_of_ble_eq_true rfl) ⟨rfl, rfl⟩ ?_
  refine mw_istore_n dX5_isUnlikeThoseBeside_12 (by decide) rfl ?_
  refine mw_iload_n dX5_isUnlikeThoseBeside_13 2 rfl ?_
  refine mw_bipush (v := 6) dX5_isUnlikeThoseBeside_14 (by decide) ?_
  refine mw_irem dX5_isUnlikeThoseBeside_16 (by decide) ?_
  obtain ⟨b4, eb4, h⟩ := mh_b_some h
  refine mw_nmi eb4 ?_
  refine mw_istore_n dX5_isUnlikeThoseBeside_17 (by decide) rfl ?_
  refine mw_iload_n dX5_isUnlikeThoseBeside_18 0 rfl ?_
  refine mh_jw (fun J5 => J5 = some res → w_X5_isUnlikeThoseBeside (SHX into) (mh_retz res (SHX into) I L) I L 42 [(0, .ref 0), (1, .int p1), (2, .int q3), (3, .int b4)] []) h (fun h => ?_) (fun J5 hJ5 h => ?_)
  · refine mw_iload_n dX5_isUnlikeThoseBeside_42 3 rfl ?_
    refine mw_iconst (v := 5) dX5_isUnlikeThoseBeside_43 (by decide) ?_
    refine mw_icmp_eq (tgt := 65) dX5_isUnlikeThoseBeside_44 (by decide) (fun hc15 => ?_) (fun hc15 => ?_)
    · replace h := mh_ifp hc15 h
      refine mw_iconst (v := 1) dX5_isUnlikeThoseBeside_65 (by decide) ?_
      refine mw_goto (tgt := 70) dX5_isUnlikeThoseBeside_66 (by decide) ?_
      obtain rfl := Option.some.inj h
      exact mw_zret dX5_isUnlikeThoseBeside_70 rfl (Or.inr rfl) (Nat.le_of_ble_eq_true rfl) (Nat.le_refl 0) (mh_retz_rfl (Or.inr rfl))
    · replace h := mh_ifn hc15 h
      refine mw_aload_n dX5_isUnlikeThoseBeside_47 0 rfl ?_
      refine mw_getr (b := 1) (fs := fsX5) gf_X5_10 dX5_isUnlikeThoseBeside_48 rfl rfl ?_
      refine mw_getr (b := 2) (fs := (fsX1 1)) gf_X5_118 dX5_isUnlikeThoseBeside_51 (sx_piece into).1 rfl ?_
      refine mw_iload_n dX5_isUnlikeThoseBeside_54 1 rfl ?_
      refine mw_iconst (v := 1) dX5_isUnlikeThoseBeside_55 (by decide) ?_
      refine mw_iadd dX5_isUnlikeThoseBeside_56 ?_
      obtain ⟨k11, hk12, hk12n, hk12l, h⟩ := mh_ix_some h
      refine mw_xiald dX5_isUnlikeThoseBeside_57 (sx_piece into).2.1 hk12 hk12n ?_
      obtain ⟨q13, hq13, h⟩ := mh_bind h
      refine mw_sr (dc := 0) cs_X5_136 wd_354 dX5_isUnlikeThoseBeside_58 [.int (I 2 k11)] [.int (I 2 k11)] rfl rfl (t_X5_faceOf hq13) ⟨by decide, by decide⟩ (Nat.le_of_ble_eq_true rfl) ⟨rfl, rfl⟩ ?_
      refine mw_iload_n dX5_isUnlikeThoseBeside_61 2 rfl ?_
      refine mw_icmp_eq (tgt := 69) dX5_isUnlikeThoseBeside_62 (by decide) (fun hc14 => ?_) (fun hc14 => ?_)
      · replace h := mh_ifp hc14 h
        refine mw_iconst (v := 0) dX5_isUnlikeThoseBeside_69 (by decide) ?_
        obtain rfl := Option.some.inj h
        exact mw_zret dX5_isUnlikeThoseBeside_70 rfl (Or.inl rfl) (Nat.le_of_ble_eq_true rfl) (Nat.le_refl 0) (mh_retz_rfl (Or.inl rfl))
      · replace h := mh_ifn hc14 h
        refine mw_iconst (v := 1) dX5_isUnlikeThoseBeside_65 (by decide) ?_
        refine mw_goto (tgt := 70) dX5_isUnlikeThoseBeside_66 (by decide) ?_
        obtain rfl := Option.some.inj h
        exact mw_zret dX5_isUnlikeThoseBeside_70 rfl (Or.inr rfl) (Nat.le_of_ble_eq_true rfl) (Nat.le_refl 0) (mh_retz_rfl (Or.inr rfl))
  · refine mw_if_le (tgt := 42) dX5_isUnlikeThoseBeside_19 (by decide) (fun hc10 => ?_) (fun hc10 => ?_)
    · replace h := mh_ifp hc10 h
      refine mw_loc [2, 3, 1, 0] rfl ?_
      exact hJ5  h
    · replace h := mh_ifn hc10 h
      refine mw_aload_n dX5_isUnlikeThoseBeside_22 2 rfl ?_
      refine mw_getr (b := 1) (fs := fsX5) gf_X5_10 dX5_isUnlikeThoseBeside_23 rfl rfl ?_
      refine mw_getr (b := 2) (fs := (fsX1 1)) gf_X5_118 dX5_isUnlikeThoseBeside_26 (sx_piece into).1 rfl ?_
      refine mw_iload_n dX5_isUnlikeThoseBeside_29 3 rfl ?_
      refine mw_iconst (v := 1) dX5_isUnlikeThoseBeside_30 (by decide) ?_
      refine mw_isub dX5_isUnlikeThoseBeside_31 ?_
      obtain ⟨k6, hk7, hk7n, hk7l, h⟩ := mh_ix_some h
      refine mw_xiald dX5_isUnlikeThoseBeside_32 (sx_piece into).2.1 hk7 hk7n ?_
      obtain ⟨q8, hq8, h⟩ := mh_bind h
      refine mw_sr (dc := 0) cs_X5_136 wd_354 dX5_isUnlikeThoseBeside_33 [.int (I 2 k6)] [.int (I 2 k6)] rfl rfl (t_X5_faceOf hq8) ⟨by decide, by decide⟩ (Nat.le_of_ble_eq_true rfl) ⟨rfl, rfl⟩ ?_
      refine mw_iload_n dX5_isUnlikeThoseBeside_36 1 rfl ?_
      refine mw_icmp_ne (tgt := 42) dX5_isUnlikeThoseBeside_37 (by decide) (fun hc9 => ?_) (fun hc9 => ?_)
      · replace h := mh_ifn hc9 h
        refine mw_loc [2, 3, 1, 0] rfl ?_
        exact hJ5  h
      · replace h := mh_ifp hc9 h
        refine mw_iconst (v := 0) dX5_isUnlikeThoseBeside_40 (by decide) ?_
        obtain rfl := Option.some.inj h
        exact mw_zret dX5_isUnlikeThoseBeside_41 rfl (Or.inl rfl) (Nat.le_of_ble_eq_true rfl) (Nat.le_refl 0) (mh_retz_rfl (Or.inl rfl))
abbrev w_X5_seen (sh : List mh_C) (Φ : mh_P) (I : mh_I) (L : mh_L) (pc : Nat) (lv : List (Nat × Value)) (st : List Value) : Prop := mh_W RX5 cX5_seen 4 (some .long) false (mh_rm 2) 46 0 0 mh_noX Φ 0 sh I L pc lv st
def X5_seen_l4 (I : mh_I) (L : mh_L) : Nat → Int64 → Int32 → Option (Int64)
  | 0, _, _ => none
  | n + 1, u1, u3 => if (48 : Int32) ≤ u3 then some u1 else (X5_hasBit (L 1 3) u3).bind (fun q1 => mh_j (fun (v2 : Int64) => mh_b (u3 + (1 : Int32)) (fun b9 => (X5_seen_l4 I L n v2 b9))) (fun J3 => if q1 = 0 then (J3 u1) else (X5_isUnlikeThoseBeside u3 I).bind (fun q4 => if q4 = 0 then (J3 u1) else (X5_bit u3).bind (fun q5 => mh_b (u1 ||| q5) (fun b6 => (J3 b6))))))
set_option maxHeartbeats 4000000 in
set_option maxRecDepth 100000 in
theorem t_X5_seen_l4 {into : Option Nat} {I : mh_I} {L : mh_L} {res : Int64} (n : Nat) (u1 : Int64) (u3 : Int32) (h : X5_seen_l4 I L n u1 u3 = some res)  : w_X5_seen (SHX into) (mh_ret (some (.long res)) (SHX into) I L) I L 4 [(0, .ref 0), (1, .long u1), (3, .int u3)] [] := by
  induction n generalizing u1 u3 with
  | zero => rw [X5_seen_l4] at h; cases h
  | succ n ih =>
    rw [X5_seen_l4] at h
    refine mw_iload_n dX5_seen_4 2 rfl ?_
    refine mw_bipush (v := 48) dX5_seen_5 (by decide) ?_
    refine mw_icmp_ge (tgt := 45) dX5_seen_7 (by decide) (fun hc10 => ?_) (fun hc10 => ?_)
    · replace h := mh_ifp hc10 h
      refine mw_lload_n dX5_seen_45 1 rfl ?_
      obtain rfl := Option.some.inj h
      exact mw_lret dX5_seen_46 rfl (Nat.le_of_ble_eq_true rfl) (Nat.le_refl 0) mh_ret_rfl
    · replace h := mh_ifn hc10 h
      refine mw_aload_n dX5_seen_10 0 rfl ?_
      refine mw_getr (b := 1) (fs := fsX5) gf_X5_10 dX5_seen_11 rfl rfl ?_
      refine mw_getl (fs := (fsX1 1)) gf_X5_80 dX5_seen_14 (sx_piece into).1 rfl ?_
      refine mw_iload_n dX5_seen_17 2 rfl ?_
      obtain ⟨q1, hq1, h⟩ := mh_bind h
      refine mw_sz (dc := 0) cs_X5_139 wd_357 dX5_seen_18 [.long (L 1 3), .int u3] [.int u3, .long (L 1 3)] rfl rfl (t_X5_hasBit hq1) ⟨by decide, by decide⟩ (Nat.le_of_ble_eq_true rfl) ⟨rfl, rfl⟩ (fun zq1 => ?_)
      refine mh_jw (fun J3 => ∀ (v2 : Int64), J3 v2 = some res → w_X5_seen (SHX into) (mh_ret (some (.long res)) (SHX into) I L) I L 39 [(0, .ref 0), (1, .long v2), (3, .int u3)] []) h (fun v2 h => ?_) (fun J3 hJ3 h => ?_)
      · obtain ⟨b9, eb9, h⟩ := mh_b_some h
        refine mw_iinc (v := b9) dX5_seen_39 2 rfl (by rw [← eb9]; rfl) (by decide) rfl ?_
        refine mw_goto (tgt := 4) dX5_seen_42 (by decide) ?_
        refine mw_loc [1, 2, 0] rfl ?_
        exact ih _ _ h
      · refine mw_if_eq (tgt := 39) dX5_seen_21 (by decide) (fun hc8 => ?_) (fun hc8 => ?_)
        · replace h := mh_ifp hc8 h
          refine mw_loc [0, 1, 2] rfl ?_
          exact hJ3 _ h
        · replace h := mh_ifn hc8 h
          refine mw_aload_n dX5_seen_24 0 rfl ?_
          refine mw_iload_n dX5_seen_25 2 rfl ?_
          obtain ⟨q4, hq4, h⟩ := mh_bind h
          refine mw_vz (dc := 1) (ci := 5) (fs := fsX5) (T := TX5) (N := 9) cv_X5_213 wd_597 dX5_seen_26 [.int u3] [.int u3, .ref 0] rfl rfl rfl rfl (t_X5_isUnlikeThoseBeside hq4) ⟨by decide, by decide⟩ (Nat.le_of_ble_eq_true rfl) ⟨rfl, rfl⟩ (fun zq4 => ?_)
          refine mw_if_eq (tgt := 39) dX5_seen_29 (by decide) (fun hc7 => ?_) (fun hc7 => ?_)
          · replace h := mh_ifp hc7 h
            refine mw_loc [0, 1, 2] rfl ?_
            exact hJ3 _ h
          · replace h := mh_ifn hc7 h
            refine mw_lload_n dX5_seen_32 1 rfl ?_
            refine mw_iload_n dX5_seen_33 2 rfl ?_
            obtain ⟨q5, hq5, h⟩ := mh_bind h
            refine mw_sr (dc := 0) cs_X5_143 wd_412 dX5_seen_34 [.int u3] [.int u3, .long u1] rfl rfl (t_X5_bit hq5) ⟨by decide, by decide⟩ (Nat.le_of_ble_eq_true rfl) ⟨rfl, rfl⟩ ?_
            refine mw_lor dX5_seen_37 ?_
            obtain ⟨b6, eb6, h⟩ := mh_b_some h
            refine mw_nml eb6 ?_
            refine mw_lstore_n dX5_seen_38 (by decide) rfl ?_
            refine mw_loc [1, 0, 2] rfl ?_
            exact hJ3 _ h
def X5_seen (I : mh_I) (L : mh_L) : Option (Int64) := X5_seen_l4 I L mh_fuel (0 : Int64) (0 : Int32)
set_option maxHeartbeats 4000000 in
set_option maxRecDepth 100000 in
theorem t_X5_seen {into : Option Nat} {L : mh_L} {I : mh_I} {res : Int64} (h : X5_seen I L = some res) : mh_CT yX5_seen cX5_seen 4 (some .long) (mh_rm 2) (SHX into) I L [.ref 0] (mh_ret (some (.long res)) (SHX into) I L) := by
  refine mh_ofW (ini := false) RX5 rfl (by decide) (fun h => by cases h) (Nat.le_of_ble_eq_true rfl) ?_
  show w_X5_seen (SHX into) (mh_ret (some (.long res)) (SHX into) I L) I L 0 [(0, .ref 0)] []
  unfold X5_seen at h
  refine mw_lconst (v := 0) dX5_seen_0 (by decide) ?_
  refine mw_lstore_n dX5_seen_1 (by decide) rfl ?_
  refine mw_iconst (v := 0) dX5_seen_2 (by decide) ?_
  refine mw_istore_n dX5_seen_3 (by decide) rfl ?_
  refine mw_loc [2, 1, 0] rfl ?_
  exact t_X5_seen_l4  _ _ _ h 
abbrev w_X5_slack (sh : List mh_C) (Φ : mh_P) (I : mh_I) (L : mh_L) (pc : Nat) (lv : List (Nat × Value)) (st : List Value) : Prop := mh_W RX5 cX5_slack 9 (some .int) false (mh_rm 2) 46 0 0 mh_noX Φ 0 sh I L pc lv st
def X5_slack_l55 (u1 : Int32) (u2 : Int32) (u3 : Int32) (u6 : Int32) (I : mh_I) (k118 : (Int32 → Int32 → Option (Int32))) : Nat → Int32 → Int32 → Int32 → Option (Int32)
  | 0, _, _, _ => none
  | n + 1, u4, u5, u7 => if (1 : Int32) < u7 then (k118 u4 u5) else mh_b (u1 + (u7 * u6)) (fun b4 => (X5_within b4 u3 ((u3 + (6 : Int32)) - (1 : Int32))).bind (fun q5 => mh_j (fun (v6 : Int32) (v7 : Int32) => mh_b (u7 + (2 : Int32)) (fun b15 => (X5_slack_l55 u1 u2 u3 u6 I k118 n v6 v7 b15))) (fun J8 => if q5 = 0 then (J8 u4 u5) else mh_b (u5 + (1 : Int32)) (fun b9 => mh_ix b4 48 (fun k10 => mh_b (u4 + (I 3 k10)) (fun b12 => if b12 < u2 then (J8 b12 b9) else some b9))))))
set_option maxHeartbeats 4000000 in
set_option maxRecDepth 100000 in
theorem t_X5_slack_l55 {into : Option Nat} {u1 : Int32} {u2 : Int32} {u3 : Int32} {u6 : Int32} {k118 : (Int32 → Int32 → Option (Int32))} {I : mh_I} {L : mh_L} {res : Int32} (n : Nat) (u4 : Int32) (u5 : Int32) (u7 : Int32) (h : X5_slack_l55 u1 u2 u3 u6 I k118 n u4 u5 u7 = some res) (hk118 : ∀ (u4 : Int32) (u5 : Int32), k118 u4 u5 = some res → w_X5_slack (SHX into) (mh_ret (some (.int res)) (SHX into) I L) I L 118 [(0, .ref 0), (1, .int u1), (2, .int u2), (3, .int u3), (4, .int u4), (5, .int u5), (6, .int u6)] []) : w_X5_slack (SHX into) (mh_ret (some (.int res)) (SHX into) I L) I L 55 [(0, .ref 0), (1, .int u1), (2, .int u2), (3, .int u3), (4, .int u4), (5, .int u5), (6, .int u6), (7, .int u7)] [] := by
  induction n generalizing u4 u5 u7 with
  | zero => rw [X5_slack_l55] at h; cases h
  | succ n ih =>
    rw [X5_slack_l55] at h
    refine mw_iload dX5_slack_55 7 rfl ?_
    refine mw_iconst (v := 1) dX5_slack_57 (by decide) ?_
    refine mw_icmp_gt (tgt := 118) dX5_slack_58 (by decide) (fun hc16 => ?_) (fun hc16 => ?_)
    · replace h := mh_ifp hc16 h
      refine mw_loc [0, 1, 2, 3, 4, 5, 6] rfl ?_
      exact hk118 _ _ h
    · replace h := mh_ifn hc16 h
      refine mw_iload_n dX5_slack_61 1 rfl ?_
      refine mw_iload dX5_slack_62 7 rfl ?_
      refine mw_iload dX5_slack_64 6 rfl ?_
      refine mw_imul dX5_slack_66 ?_
      refine mw_iadd dX5_slack_67 ?_
      obtain ⟨b4, eb4, h⟩ := mh_b_some h
      refine mw_nmi eb4 ?_
      refine mw_istore dX5_slack_68 (by decide) rfl ?_
      refine mw_iload dX5_slack_70 0 rfl ?_
      refine mw_iload_n dX5_slack_72 4 rfl ?_
      refine mw_iload_n dX5_slack_73 4 rfl ?_
      refine mw_bipush (v := 6) dX5_slack_74 (by decide) ?_
      refine mw_iadd dX5_slack_76 ?_
      refine mw_iconst (v := 1) dX5_slack_77 (by decide) ?_
      refine mw_isub dX5_slack_78 ?_
      obtain ⟨q5, hq5, h⟩ := mh_bind h
      refine mw_sz (dc := 0) cs_X5_97 wd_223 dX5_slack_79 [.int b4, .int u3, .int ((u3 + (6 : Int32)) - (1 : Int32))] [.int ((u3 + (6 : Int32)) - (1 : Int32)), .int u3, .int b4] rfl rfl (t_X5_within hq5) ⟨by decide, by decide⟩ (Nat.le_of_ble_eq_true rfl) ⟨rfl, rfl⟩ (fun zq5 => ?_)
      refine mh_jw (fun J8 => ∀ (v6 : Int32) (v7 : Int32), J8 v6 v7 = some res → w_X5_slack (SHX into) (mh_ret (some (.int res)) (SHX into) I L) I L 112 [(0, .ref 0), (1, .int u1), (2, .int u2), (3, .int u3), (4, .int v6), (5, .int v7), (6, .int u6), (7, .int u7)] []) h (fun v6 v7 h => ?_) (fun J8 hJ8 h => ?_)
      · obtain ⟨b15, eb15, h⟩ := mh_b_some h
        refine mw_iinc (v := b15) dX5_slack_112 7 rfl (by rw [← eb15]; rfl) (by decide) rfl ?_
        refine mw_goto (tgt := 55) dX5_slack_115 (by decide) ?_
        refine mw_loc [1, 2, 3, 4, 5, 6, 7, 0] rfl ?_
        exact ih _ _ _ h
      · refine mw_if_eq (tgt := 112) dX5_slack_82 (by decide) (fun hc14 => ?_) (fun hc14 => ?_)
        · replace h := mh_ifp hc14 h
          refine mw_loc [1, 2, 3, 4, 5, 6, 7, 8] rfl ?_
          exact hJ8 _ _ h
        · replace h := mh_ifn hc14 h
          obtain ⟨b9, eb9, h⟩ := mh_b_some h
          refine mw_iinc (v := b9) dX5_slack_85 6 rfl (by rw [← eb9]; rfl) (by decide) rfl ?_
          refine mw_iload dX5_slack_88 6 rfl ?_
          refine mw_aload_n dX5_slack_90 2 rfl ?_
          refine mw_getr (b := 1) (fs := fsX5) gf_X5_10 dX5_slack_91 rfl rfl ?_
          refine mw_getr (b := 3) (fs := (fsX1 1)) gf_X5_129 dX5_slack_94 (sx_piece into).1 rfl ?_
          refine mw_iload dX5_slack_97 1 rfl ?_
          obtain ⟨k10, hk11, hk11n, hk11l, h⟩ := mh_ix_some h
          refine mw_xiald dX5_slack_99 (sx_piece into).2.2 hk11 hk11n ?_
          refine mw_iadd dX5_slack_100 ?_
          obtain ⟨b12, eb12, h⟩ := mh_b_some h
          refine mw_nmi eb12 ?_
          refine mw_istore dX5_slack_101 (by decide) rfl ?_
          refine mw_iload dX5_slack_103 0 rfl ?_
          refine mw_iload_n dX5_slack_105 5 rfl ?_
          refine mw_icmp_lt (tgt := 112) dX5_slack_106 (by decide) (fun hc13 => ?_) (fun hc13 => ?_)
          · replace h := mh_ifp hc13 h
            refine mw_loc [3, 4, 5, 6, 0, 1, 7, 8] rfl ?_
            exact hJ8 _ _ h
          · replace h := mh_ifn hc13 h
            refine mw_iload dX5_slack_109 1 rfl ?_
            obtain rfl := Option.some.inj h
            exact mw_iret dX5_slack_111 rfl rfl (Nat.le_of_ble_eq_true rfl) (Nat.le_refl 0) mh_ret_rfl
def X5_slack_l45 (u1 : Int32) (u2 : Int32) (u3 : Int32) (I : mh_I) : Nat → Int32 → Int32 → Int32 → Option (Int32)
  | 0, _, _, _ => none
  | n + 1, u4, u5, u6 => if (6 : Int32) ≤ u6 then some (-1 : Int32) else X5_slack_l55 u1 u2 u3 u6 I (fun (v17 : Int32) (v18 : Int32) => mh_b (u6 + (1 : Int32)) (fun b19 => (X5_slack_l45 u1 u2 u3 I n v17 v18 b19))) mh_fuel u4 u5 (-1 : Int32)
set_option maxHeartbeats 4000000 in
set_option maxRecDepth 100000 in
theorem t_X5_slack_l45 {into : Option Nat} {u1 : Int32} {u2 : Int32} {u3 : Int32} {I : mh_I} {L : mh_L} {res : Int32} (n : Nat) (u4 : Int32) (u5 : Int32) (u6 : Int32) (h : X5_slack_l45 u1 u2 u3 I n u4 u5 u6 = some res)  : w_X5_slack (SHX into) (mh_ret (some (.int res)) (SHX into) I L) I L 45 [(0, .ref 0), (1, .int u1), (2, .int u2), (3, .int u3), (4, .int u4), (5, .int u5), (6, .int u6)] [] := by
  induction n generalizing u4 u5 u6 with
  | zero => rw [X5_slack_l45] at h; cases h
  | succ n ih =>
    rw [X5_slack_l45] at h
    refine mw_iload dX5_slack_45 6 rfl ?_
    refine mw_bipush (v := 6) dX5_slack_47 (by decide) ?_
    refine mw_icmp_ge (tgt := 124) dX5_slack_49 (by decide) (fun hc20 => ?_) (fun hc20 => ?_)
    · replace h := mh_ifp hc20 h
      refine mw_iconst (v := -1) dX5_slack_124 (by decide) ?_
      obtain rfl := Option.some.inj h
      exact mw_iret dX5_slack_125 rfl rfl (Nat.le_of_ble_eq_true rfl) (Nat.le_refl 0) mh_ret_rfl
    · replace h := mh_ifn hc20 h
      refine mw_iconst (v := -1) dX5_slack_52 (by decide) ?_
      refine mw_istore dX5_slack_53 (by decide) rfl ?_
      refine mw_loc [1, 2, 3, 4, 5, 6, 7, 0] rfl ?_
      refine t_X5_slack_l55  _ _ _ _ h (fun v17 v18 h => ?_)
      obtain ⟨b19, eb19, h⟩ := mh_b_some h
      refine mw_iinc (v := b19) dX5_slack_118 6 rfl (by rw [← eb19]; rfl) (by decide) rfl ?_
      refine mw_goto (tgt := 45) dX5_slack_121 (by decide) ?_
      refine mw_loc [1, 2, 3, 4, 5, 6, 0] rfl ?_
      exact ih _ _ _ h
def X5_slack (p1 : Int32) (p2 : Int32) (I : mh_I) : Option (Int32) := (X5_isLoop p1).bind (fun q1 => if q1 = 0 then some (-5 : Int32) else (X5_within p2 (0 : Int32) (99 : Int32)).bind (fun q2 => if q2 = 0 then some (-7 : Int32) else if p2 = 0 then some (0 : Int32) else mh_b (p1 - (mh_rem p1 (6 : Int32))) (fun b3 => X5_slack_l45 p1 p2 b3 I mh_fuel (0 : Int32) (0 : Int32) (1 : Int32))))
set_option maxHeartbeats 4000000 in
set_option maxRecDepth 100000 in
theorem t_X5_slack {into : Option Nat} {L : mh_L} {I : mh_I} {p1 : Int32} {p2 : Int32} {res : Int32} (h : X5_slack p1 p2 I = some res) : mh_CT yX5_slack cX5_slack 9 (some .int) (mh_rm 2) (SHX into) I L [.ref 0, .int p1, .int p2] (mh_ret (some (.int res)) (SHX into) I L) := by
  refine mh_ofW (ini := false) RX5 rfl (by decide) (fun h => by cases h) (Nat.le_of_ble_eq_true rfl) ?_
  show w_X5_slack (SHX into) (mh_ret (some (.int res)) (SHX into) I L) I L 0 [(0, .ref 0), (1, .int p1), (2, .int p2)] []
  unfold X5_slack at h
  refine mw_iload_n dX5_slack_0 1 rfl ?_
  obtain ⟨q1, hq1, h⟩ := mh_bind h
  refine mw_sz (dc := 1) cs_X5_101 wd_329 dX5_slack_1 [.int p1] [.int p1] rfl rfl (t_X5_isLoop hq1) ⟨by decide, by decide⟩ (Nat.le_of_ble_eq_true rfl) ⟨rfl, rfl⟩ (fun zq1 => ?_)
  refine mw_if_ne (tgt := 10) dX5_slack_4 (by decide) (fun hc23 => ?_) (fun hc23 => ?_)
  · replace h := mh_ifn hc23 h
    refine mw_iload_n dX5_slack_10 2 rfl ?_
    refine mw_iconst (v := 0) dX5_slack_11 (by decide) ?_
    refine mw_bipush (v := 99) dX5_slack_12 (by decide) ?_
    obtain ⟨q2, hq2, h⟩ := mh_bind h
    refine mw_sz (dc := 0) cs_X5_97 wd_223 dX5_slack_14 [.int p2, .int (0 : Int32), .int (99 : Int32)] [.int (99 : Int32), .int (0 : Int32), .int p2] rfl rfl (t_X5_within hq2) ⟨by decide, by decide⟩ (Nat.le_of_ble_eq_true rfl) ⟨rfl, rfl⟩ (fun zq2 => ?_)
    refine mw_if_ne (tgt := 23) dX5_slack_17 (by decide) (fun hc22 => ?_) (fun hc22 => ?_)
    · replace h := mh_ifn hc22 h
      refine mw_iload_n dX5_slack_23 2 rfl ?_
      refine mw_if_ne (tgt := 29) dX5_slack_24 (by decide) (fun hc21 => ?_) (fun hc21 => ?_)
      · replace h := mh_ifn hc21 h
        refine mw_iload_n dX5_slack_29 1 rfl ?_
        refine mw_iload_n dX5_slack_30 1 rfl ?_
        refine mw_bipush (v := 6) dX5_slack_31 (by decide) ?_
        refine mw_irem dX5_slack_33 (by decide) ?_
        refine mw_isub dX5_slack_34 ?_
        obtain ⟨b3, eb3, h⟩ := mh_b_some h
        refine mw_nmi eb3 ?_
        refine mw_istore_n dX5_slack_35 (by decide) rfl ?_
        refine mw_iconst (v := 0) dX5_slack_36 (by decide) ?_
        refine mw_istore dX5_slack_37 (by decide) rfl ?_
        refine mw_iconst (v := 0) dX5_slack_39 (by decide) ?_
        refine mw_istore dX5_slack_40 (by decide) rfl ?_
        refine mw_iconst (v := 1) dX5_slack_42 (by decide) ?_
        refine mw_istore dX5_slack_43 (by decide) rfl ?_
        refine mw_loc [4, 5, 6, 3, 2, 1, 0] rfl ?_
        exact t_X5_slack_l45  _ _ _ _ h 
      · replace h := mh_ifp hc21 h
        refine mw_iconst (v := 0) dX5_slack_27 (by decide) ?_
        obtain rfl := Option.some.inj h
        exact mw_iret dX5_slack_28 rfl rfl (Nat.le_of_ble_eq_true rfl) (Nat.le_refl 0) mh_ret_rfl
    · replace h := mh_ifp hc22 h
      refine mw_bipush (v := -7) dX5_slack_20 (by decide) ?_
      obtain rfl := Option.some.inj h
      exact mw_iret dX5_slack_22 rfl rfl (Nat.le_of_ble_eq_true rfl) (Nat.le_refl 0) mh_ret_rfl
  · replace h := mh_ifp hc23 h
    refine mw_bipush (v := -5) dX5_slack_7 (by decide) ?_
    obtain rfl := Option.some.inj h
    exact mw_iret dX5_slack_9 rfl rfl (Nat.le_of_ble_eq_true rfl) (Nat.le_refl 0) mh_ret_rfl
abbrev w_X5_ragRefusal (sh : List mh_C) (Φ : mh_P) (I : mh_I) (L : mh_L) (pc : Nat) (lv : List (Nat × Value)) (st : List Value) : Prop := mh_W RX5 cX5_ragRefusal 4 (some .int) false (mh_rm 3) 46 0 0 mh_noX Φ 0 sh I L pc lv st
def X5_ragRefusal (p1 : Int32) (p2 : Int32) (I : mh_I) : Option (Int32) := (X5_sheetRefusal p1 (48 : Int32) I).bind (fun q1 => if q1 = 0 then (X5_isLoop p2).bind (fun q2 => if q2 = 0 then some (-5 : Int32) else some (0 : Int32)) else some q1)
set_option maxHeartbeats 4000000 in
set_option maxRecDepth 100000 in
theorem t_X5_ragRefusal {into : Option Nat} {L : mh_L} {I : mh_I} {p1 : Int32} {p2 : Int32} {res : Int32} (h : X5_ragRefusal p1 p2 I = some res) : mh_CT yX5_ragRefusal cX5_ragRefusal 4 (some .int) (mh_rm 3) (SHX into) I L [.ref 0, .int p1, .int p2] (mh_ret (some (.int res)) (SHX into) I L) := by
  refine mh_ofW (ini := false) RX5 rfl (by decide) (fun h => by cases h) (Nat.le_of_ble_eq_true rfl) ?_
  show w_X5_ragRefusal (SHX into) (mh_ret (some (.int res)) (SHX into) I L) I L 0 [(0, .ref 0), (1, .int p1), (2, .int p2)] []
  unfold X5_ragRefusal at h
  refine mw_aload_n dX5_ragRefusal_0 0 rfl ?_
  refine mw_iload_n dX5_ragRefusal_1 1 rfl ?_
  refine mw_bipush (v := 48) dX5_ragRefusal_2 (by decide) ?_
  obtain ⟨q1, hq1, h⟩ := mh_bind h
  refine mw_vr (dc := 2) (ci := 5) (fs := fsX5) (T := TX5) (N := 9) cv_X5_199 wd_557 dX5_ragRefusal_4 [.int p1, .int (48 : Int32)] [.int (48 : Int32), .int p1, .ref 0] rfl rfl rfl rfl (t_X5_sheetRefusal hq1) ⟨by decide, by decide⟩ (Nat.le_of_ble_eq_true rfl) ⟨rfl, rfl⟩ ?_
  refine mw_istore_n dX5_ragRefusal_7 (by decide) rfl ?_
  refine mw_iload_n dX5_ragRefusal_8 0 rfl ?_
  refine mw_if_eq (tgt := 14) dX5_ragRefusal_9 (by decide) (fun hc4 => ?_) (fun hc4 => ?_)
  · replace h := mh_ifp hc4 h
    refine mw_iload_n dX5_ragRefusal_14 3 rfl ?_
    obtain ⟨q2, hq2, h⟩ := mh_bind h
    refine mw_sz (dc := 1) cs_X5_101 wd_329 dX5_ragRefusal_15 [.int p2] [.int p2] rfl rfl (t_X5_isLoop hq2) ⟨by decide, by decide⟩ (Nat.le_of_ble_eq_true rfl) ⟨rfl, rfl⟩ (fun zq2 => ?_)
    refine mw_if_eq (tgt := 25) dX5_ragRefusal_18 (by decide) (fun hc3 => ?_) (fun hc3 => ?_)
    · replace h := mh_ifp hc3 h
      refine mw_bipush (v := -5) dX5_ragRefusal_25 (by decide) ?_
      obtain rfl := Option.some.inj h
      exact mw_iret dX5_ragRefusal_27 rfl rfl (Nat.le_of_ble_eq_true rfl) (Nat.le_refl 0) mh_ret_rfl
    · replace h := mh_ifn hc3 h
      refine mw_iconst (v := 0) dX5_ragRefusal_21 (by decide) ?_
      refine mw_goto (tgt := 27) dX5_ragRefusal_22 (by decide) ?_
      obtain rfl := Option.some.inj h
      exact mw_iret dX5_ragRefusal_27 rfl rfl (Nat.le_of_ble_eq_true rfl) (Nat.le_refl 0) mh_ret_rfl
  · replace h := mh_ifn hc4 h
    refine mw_iload_n dX5_ragRefusal_12 0 rfl ?_
    obtain rfl := Option.some.inj h
    exact mw_iret dX5_ragRefusal_13 rfl rfl (Nat.le_of_ble_eq_true rfl) (Nat.le_refl 0) mh_ret_rfl
abbrev w_X5_judge (sh : List mh_C) (Φ : mh_P) (I : mh_I) (L : mh_L) (pc : Nat) (lv : List (Nat × Value)) (st : List Value) : Prop := mh_W RX5 cX5_judge 5 (some .int) false (mh_rm 6) 46 0 0 mh_noX Φ 0 sh I L pc lv st
def X5_judge (p1 : Int32) (p2 : Int32) (p3 : Int32) (I : mh_I) (L : mh_L) : Option (Int32 × mh_I × mh_L) := (X5_ragRefusal p1 p2 I).bind (fun q1 => if q1 = 0 then (X5_isPull p3).bind (fun q2 => if q2 = 0 then some ((-7 : Int32), I, L) else (X5_drop p2 p3 I L).bind (fun q3 => mh_ix p1 4 (fun k4 => (X2_firstUnlike (38 + 2 * k4) (q3.2.2 10 1) q3.2.1).bind (fun q6 => some (q6, q3.2.1, q3.2.2))))) else some (q1, I, L))
set_option maxHeartbeats 4000000 in
set_option maxRecDepth 100000 in
theorem t_X5_judge {into : Option Nat} {L : mh_L} {I : mh_I} {p1 : Int32} {p2 : Int32} {p3 : Int32} {res : Int32 × mh_I × mh_L} (h : X5_judge p1 p2 p3 I L = some res) : mh_CT yX5_judge cX5_judge 5 (some .int) (mh_rm 6) (SHX into) I L [.ref 0, .int p1, .int p2, .int p3] (mh_ret (some (.int res.1)) (SHX into) res.2.1 res.2.2) := by
  refine mh_ofW (ini := false) RX5 rfl (by decide) (fun h => by cases h) (Nat.le_of_ble_eq_true rfl) ?_
  show w_X5_judge (SHX into) (mh_ret (some (.int res.1)) (SHX into) res.2.1 res.2.2) I L 0 [(0, .ref 0), (1, .int p1), (2, .int p2), (3, .int p3)] []
  unfold X5_judge at h
  refine mw_aload_n dX5_judge_0 0 rfl ?_
  refine mw_iload_n dX5_judge_1 1 rfl ?_
  refine mw_iload_n dX5_judge_2 2 rfl ?_
  obtain ⟨q1, hq1, h⟩ := mh_bind h
  refine mw_vr (dc := 3) (ci := 5) (fs := fsX5) (T := TX5) (N := 9) cv_X5_216 wd_609 dX5_judge_3 [.int p1, .int p2] [.int p2, .int p1, .ref 0] rfl rfl rfl rfl (t_X5_ragRefusal hq1) ⟨by decide, by decide⟩ (Nat.le_of_ble_eq_true rfl) ⟨rfl, rfl⟩ ?_
  refine mw_istore dX5_judge_6 (by decide) rfl ?_
  refine mw_iload dX5_judge_8 0 rfl ?_
  refine mw_if_eq (tgt := 16) dX5_judge_10 (by decide) (fun hc8 => ?_) (fun hc8 => ?_)
  · replace h := mh_ifp hc8 h
    refine mw_iload_n dX5_judge_16 4 rfl ?_
    obtain ⟨q2, hq2, h⟩ := mh_bind h
    refine mw_sz (dc := 1) cs_X5_104 wd_332 dX5_judge_17 [.int p3] [.int p3] rfl rfl (t_X5_isPull hq2) ⟨by decide, by decide⟩ (Nat.le_of_ble_eq_true rfl) ⟨rfl, rfl⟩ (fun zq2 => ?_)
    refine mw_if_ne (tgt := 26) dX5_judge_20 (by decide) (fun hc7 => ?_) (fun hc7 => ?_)
    · replace h := mh_ifn hc7 h
      refine mw_aload_n dX5_judge_26 1 rfl ?_
      refine mw_iload_n dX5_judge_27 3 rfl ?_
      refine mw_iload_n dX5_judge_28 4 rfl ?_
      obtain ⟨q3, hq3, h⟩ := mh_bind h
      refine mw_vr (dc := 5) (ci := 5) (fs := fsX5) (T := TX5) (N := 9) cv_X5_163 wd_457 dX5_judge_29 [.int p2, .int p3] [.int p3, .int p2, .ref 0] rfl rfl rfl rfl (t_X5_drop hq3) ⟨by decide, by decide⟩ (Nat.le_of_ble_eq_true rfl) ⟨rfl, rfl⟩ ?_
      refine mw_pop dX5_judge_32 rfl ?_
      refine mw_aload_n dX5_judge_33 1 rfl ?_
      refine mw_getr (b := 12) (fs := fsX5) gf_X5_41 dX5_judge_34 rfl rfl ?_
      refine mw_iload_n dX5_judge_37 2 rfl ?_
      obtain ⟨k4, hk5, hk5n, hk5l, h⟩ := mh_ix_some h
      refine mw_xaald (t := 0) dX5_judge_38 rfl hk5 hk5n (sx_rS hk5l) ?_
      refine mw_aload_n dX5_judge_39 1 rfl ?_
      refine mw_getr (b := 10) (fs := fsX5) gf_X5_35 dX5_judge_40 rfl rfl ?_
      refine mw_getl (fs := (fsX0 10)) gf_X5_167 dX5_judge_43 (sx_fall into).1 rfl ?_
      obtain ⟨q6, hq6, h⟩ := mh_bind h
      refine mw_vr (dc := 1) (ci := 2) (fs := (fsX2 (38 + 2 * k4))) (T := TX2) (N := 3) cv_X5_219 wd_613 dX5_judge_46 [.long (q3.2.2 10 1)] [.long (q3.2.2 10 1), .ref (38 + 2 * k4)] rfl rfl (sx_sheet into hk5l).1 rfl (t_X2_firstUnlike (sx_sheet into hk5l) hq6) ⟨by decide, by decide⟩ (Nat.le_of_ble_eq_true rfl) ⟨rfl, rfl⟩ ?_
      obtain rfl := Option.some.inj h
      exact mw_iret dX5_judge_49 rfl rfl (Nat.le_of_ble_eq_true rfl) (Nat.le_refl 0) mh_ret_rfl
    · replace h := mh_ifp hc7 h
      refine mw_bipush (v := -7) dX5_judge_23 (by decide) ?_
      obtain rfl := Option.some.inj h
      exact mw_iret dX5_judge_25 rfl rfl (Nat.le_of_ble_eq_true rfl) (Nat.le_refl 0) mh_ret_rfl
  · replace h := mh_ifn hc8 h
    refine mw_iload dX5_judge_13 0 rfl ?_
    obtain rfl := Option.some.inj h
    exact mw_iret dX5_judge_15 rfl rfl (Nat.le_of_ble_eq_true rfl) (Nat.le_refl 0) mh_ret_rfl
abbrev w_X5_which (sh : List mh_C) (Φ : mh_P) (I : mh_I) (L : mh_L) (pc : Nat) (lv : List (Nat × Value)) (st : List Value) : Prop := mh_W RX5 cX5_which 6 (some .long) false (mh_rm 6) 46 0 0 mh_noX Φ 0 sh I L pc lv st
def X5_which_l26 (u1 : Int32) (u2 : Int32) : Nat → Int64 → Int32 → mh_I → mh_L → Option (Int64 × mh_I × mh_L)
  | 0, _, _, _, _ => none
  | n + 1, u3, u5, I, L => if (48 : Int32) ≤ u5 then some (u3, I, L) else (X5_drop u5 u2 I L).bind (fun q3 => mh_ix u1 4 (fun k4 => (X2_firstUnlike (38 + 2 * k4) (q3.2.2 10 1) q3.2.1).bind (fun q6 => mh_j (fun (v7 : Int64) => mh_b (u5 + (1 : Int32)) (fun b12 => (X5_which_l26 u1 u2 n v7 b12 q3.2.1 q3.2.2))) (fun J8 => if q6 = (-1 : Int32) then (X5_bit u5).bind (fun q9 => mh_b (u3 ||| q9) (fun b10 => (J8 b10))) else (J8 u3)))))
set_option maxHeartbeats 4000000 in
set_option maxRecDepth 100000 in
theorem t_X5_which_l26 {into : Option Nat} {u1 : Int32} {u2 : Int32} {res : Int64 × mh_I × mh_L} (n : Nat) (u3 : Int64) (u5 : Int32) (I : mh_I) (L : mh_L) (h : X5_which_l26 u1 u2 n u3 u5 I L = some res)  : w_X5_which (SHX into) (mh_ret (some (.long res.1)) (SHX into) res.2.1 res.2.2) I L 26 [(0, .ref 0), (1, .int u1), (2, .int u2), (3, .long u3), (5, .int u5)] [] := by
  induction n generalizing u3 u5 I L with
  | zero => rw [X5_which_l26] at h; cases h
  | succ n ih =>
    rw [X5_which_l26] at h
    refine mw_iload dX5_which_26 4 rfl ?_
    refine mw_bipush (v := 48) dX5_which_28 (by decide) ?_
    refine mw_icmp_ge (tgt := 75) dX5_which_30 (by decide) (fun hc13 => ?_) (fun hc13 => ?_)
    · replace h := mh_ifp hc13 h
      refine mw_lload_n dX5_which_75 3 rfl ?_
      obtain rfl := Option.some.inj h
      exact mw_lret dX5_which_76 rfl (Nat.le_of_ble_eq_true rfl) (Nat.le_refl 0) mh_ret_rfl
    · replace h := mh_ifn hc13 h
      refine mw_aload_n dX5_which_33 0 rfl ?_
      refine mw_iload dX5_which_34 4 rfl ?_
      refine mw_iload_n dX5_which_36 2 rfl ?_
      obtain ⟨q3, hq3, h⟩ := mh_bind h
      refine mw_vr (dc := 5) (ci := 5) (fs := fsX5) (T := TX5) (N := 9) cv_X5_163 wd_457 dX5_which_37 [.int u5, .int u2] [.int u2, .int u5, .ref 0] rfl rfl rfl rfl (t_X5_drop hq3) ⟨by decide, by decide⟩ (Nat.le_of_ble_eq_true rfl) ⟨rfl, rfl⟩ ?_
      refine mw_pop dX5_which_40 rfl ?_
      refine mw_aload_n dX5_which_41 0 rfl ?_
      refine mw_getr (b := 12) (fs := fsX5) gf_X5_41 dX5_which_42 rfl rfl ?_
      refine mw_iload_n dX5_which_45 1 rfl ?_
      obtain ⟨k4, hk5, hk5n, hk5l, h⟩ := mh_ix_some h
      refine mw_xaald (t := 0) dX5_which_46 rfl hk5 hk5n (sx_rS hk5l) ?_
      refine mw_aload_n dX5_which_47 0 rfl ?_
      refine mw_getr (b := 10) (fs := fsX5) gf_X5_35 dX5_which_48 rfl rfl ?_
      refine mw_getl (fs := (fsX0 10)) gf_X5_167 dX5_which_51 (sx_fall into).1 rfl ?_
      obtain ⟨q6, hq6, h⟩ := mh_bind h
      refine mw_vr (dc := 1) (ci := 2) (fs := (fsX2 (38 + 2 * k4))) (T := TX2) (N := 3) cv_X5_219 wd_613 dX5_which_54 [.long (q3.2.2 10 1)] [.long (q3.2.2 10 1), .ref (38 + 2 * k4)] rfl rfl (sx_sheet into hk5l).1 rfl (t_X2_firstUnlike (sx_sheet into hk5l) hq6) ⟨by decide, by decide⟩ (Nat.le_of_ble_eq_true rfl) ⟨rfl, rfl⟩ ?_
      refine mw_iconst (v := -1) dX5_which_57 (by decide) ?_
      refine mh_jw (fun J8 => ∀ (v7 : Int64), J8 v7 = some res → w_X5_which (SHX into) (mh_ret (some (.long res.1)) (SHX into) res.2.1 res.2.2) q3.2.1 q3.2.2 69 [(0, .ref 0), (1, .int u1), (2, .int u2), (3, .long v7), (5, .int u5)] []) h (fun v7 h => ?_) (fun J8 hJ8 h => ?_)
      · obtain ⟨b12, eb12, h⟩ := mh_b_some h
        refine mw_iinc (v := b12) dX5_which_69 4 rfl (by rw [← eb12]; rfl) (by decide) rfl ?_
        refine mw_goto (tgt := 26) dX5_which_72 (by decide) ?_
        refine mw_loc [1, 2, 3, 4, 0] rfl ?_
        exact ih _ _ _ _ h
      · refine mw_icmp_ne (tgt := 69) dX5_which_58 (by decide) (fun hc11 => ?_) (fun hc11 => ?_)
        · replace h := mh_ifn hc11 h
          refine mw_loc [0, 1, 2, 3, 4] rfl ?_
          exact hJ8 _ h
        · replace h := mh_ifp hc11 h
          refine mw_lload_n dX5_which_61 3 rfl ?_
          refine mw_iload dX5_which_62 4 rfl ?_
          obtain ⟨q9, hq9, h⟩ := mh_bind h
          refine mw_sr (dc := 0) cs_X5_143 wd_412 dX5_which_64 [.int u5] [.int u5, .long u3] rfl rfl (t_X5_bit hq9) ⟨by decide, by decide⟩ (Nat.le_of_ble_eq_true rfl) ⟨rfl, rfl⟩ ?_
          refine mw_lor dX5_which_67 ?_
          obtain ⟨b10, eb10, h⟩ := mh_b_some h
          refine mw_nml eb10 ?_
          refine mw_lstore_n dX5_which_68 (by decide) rfl ?_
          refine mw_loc [1, 2, 3, 0, 4] rfl ?_
          exact hJ8 _ h
def X5_which (p1 : Int32) (p2 : Int32) (I : mh_I) (L : mh_L) : Option (Int64 × mh_I × mh_L) := (X5_sheetRefusal p1 (48 : Int32) I).bind (fun q1 => if q1 = 0 then (X5_isPull p2).bind (fun q2 => if q2 = 0 then some ((-4611686018427387904 : Int64), I, L) else X5_which_l26 p1 p2 mh_fuel (0 : Int64) (0 : Int32) I L) else some ((-4611686018427387904 : Int64), I, L))
set_option maxHeartbeats 4000000 in
set_option maxRecDepth 100000 in
theorem t_X5_which {into : Option Nat} {L : mh_L} {I : mh_I} {p1 : Int32} {p2 : Int32} {res : Int64 × mh_I × mh_L} (h : X5_which p1 p2 I L = some res) : mh_CT yX5_which cX5_which 6 (some .long) (mh_rm 6) (SHX into) I L [.ref 0, .int p1, .int p2] (mh_ret (some (.long res.1)) (SHX into) res.2.1 res.2.2) := by
  refine mh_ofW (ini := false) RX5 rfl (by decide) (fun h => by cases h) (Nat.le_of_ble_eq_true rfl) ?_
  show w_X5_which (SHX into) (mh_ret (some (.long res.1)) (SHX into) res.2.1 res.2.2) I L 0 [(0, .ref 0), (1, .int p1), (2, .int p2)] []
  unfold X5_which at h
  refine mw_aload_n dX5_which_0 0 rfl ?_
  refine mw_iload_n dX5_which_1 1 rfl ?_
  refine mw_bipush (v := 48) dX5_which_2 (by decide) ?_
  obtain ⟨q1, hq1, h⟩ := mh_bind h
  refine mw_vr (dc := 2) (ci := 5) (fs := fsX5) (T := TX5) (N := 9) cv_X5_199 wd_557 dX5_which_4 [.int p1, .int (48 : Int32)] [.int (48 : Int32), .int p1, .ref 0] rfl rfl rfl rfl (t_X5_sheetRefusal hq1) ⟨by decide, by decide⟩ (Nat.le_of_ble_eq_true rfl) ⟨rfl, rfl⟩ ?_
  refine mw_if_ne (tgt := 17) dX5_which_7 (by decide) (fun hc15 => ?_) (fun hc15 => ?_)
  · replace h := mh_ifn hc15 h
    refine mw_ldc2 dX5_which_17 wd_418 ?_
    obtain rfl := Option.some.inj h
    exact mw_lret dX5_which_20 rfl (Nat.le_of_ble_eq_true rfl) (Nat.le_refl 0) mh_ret_rfl
  · replace h := mh_ifp hc15 h
    refine mw_iload_n dX5_which_10 2 rfl ?_
    obtain ⟨q2, hq2, h⟩ := mh_bind h
    refine mw_sz (dc := 1) cs_X5_104 wd_332 dX5_which_11 [.int p2] [.int p2] rfl rfl (t_X5_isPull hq2) ⟨by decide, by decide⟩ (Nat.le_of_ble_eq_true rfl) ⟨rfl, rfl⟩ (fun zq2 => ?_)
    refine mw_if_ne (tgt := 21) dX5_which_14 (by decide) (fun hc14 => ?_) (fun hc14 => ?_)
    · replace h := mh_ifn hc14 h
      refine mw_lconst (v := 0) dX5_which_21 (by decide) ?_
      refine mw_lstore_n dX5_which_22 (by decide) rfl ?_
      refine mw_iconst (v := 0) dX5_which_23 (by decide) ?_
      refine mw_istore dX5_which_24 (by decide) rfl ?_
      refine mw_loc [2, 3, 4, 1, 0] rfl ?_
      exact t_X5_which_l26  _ _ _ _ _ h 
    · replace h := mh_ifp hc14 h
      refine mw_ldc2 dX5_which_17 wd_418 ?_
      obtain rfl := Option.some.inj h
      exact mw_lret dX5_which_20 rfl (Nat.le_of_ble_eq_true rfl) (Nat.le_refl 0) mh_ret_rfl
abbrev w_X5_span (sh : List mh_C) (Φ : mh_P) (I : mh_I) (L : mh_L) (pc : Nat) (lv : List (Nat × Value)) (st : List Value) : Prop := mh_W RX5 cX5_span 7 (some .int) false (mh_rm 6) 46 0 0 mh_noX Φ 0 sh I L pc lv st
def X5_span_l31 (u1 : Int32) (u2 : Int32) (u3 : Int32) : Nat → Int32 → mh_I → mh_L → Option (Int32 × mh_I × mh_L)
  | 0, _, _, _ => none
  | n + 1, u5, I, L => if (99 : Int32) < u5 then some ((-1 : Int32), I, L) else mh_j (fun (s3 : Int32) => (X5_drop u2 s3 I L).bind (fun q6 => mh_ix u1 4 (fun k7 => (X2_firstUnlike (38 + 2 * k7) (q6.2.2 10 1) q6.2.1).bind (fun q9 => if q9 = (-1 : Int32) then some (s3, q6.2.1, q6.2.2) else mh_b (u5 + (1 : Int32)) (fun b10 => (X5_span_l31 u1 u2 u3 n b10 q6.2.1 q6.2.2)))))) (fun J4 => if u3 = 0 then (J4 u5) else (J4 ((99 : Int32) - u5)))
set_option maxHeartbeats 4000000 in
set_option maxRecDepth 100000 in
theorem t_X5_span_l31 {into : Option Nat} {u1 : Int32} {u2 : Int32} {u3 : Int32} {res : Int32 × mh_I × mh_L} (n : Nat) (u5 : Int32) (I : mh_I) (L : mh_L) (h : X5_span_l31 u1 u2 u3 n u5 I L = some res)  : w_X5_span (SHX into) (mh_ret (some (.int res.1)) (SHX into) res.2.1 res.2.2) I L 31 [(0, .ref 0), (1, .int u1), (2, .int u2), (3, .int u3), (5, .int u5)] [] := by
  induction n generalizing u5 I L with
  | zero => rw [X5_span_l31] at h; cases h
  | succ n ih =>
    rw [X5_span_l31] at h
    refine mw_iload dX5_span_31 4 rfl ?_
    refine mw_bipush (v := 99) dX5_span_33 (by decide) ?_
    refine mw_icmp_gt (tgt := 91) dX5_span_35 (by decide) (fun hc12 => ?_) (fun hc12 => ?_)
    · replace h := mh_ifp hc12 h
      refine mw_iconst (v := -1) dX5_span_91 (by decide) ?_
      obtain rfl := Option.some.inj h
      exact mw_iret dX5_span_92 rfl rfl (Nat.le_of_ble_eq_true rfl) (Nat.le_refl 0) mh_ret_rfl
    · replace h := mh_ifn hc12 h
      refine mw_iload_n dX5_span_38 3 rfl ?_
      refine mh_jw (fun J4 => ∀ (s3 : Int32), J4 s3 = some res → w_X5_span (SHX into) (mh_ret (some (.int res.1)) (SHX into) res.2.1 res.2.2) I L 52 [(0, .ref 0), (1, .int u1), (2, .int u2), (3, .int u3), (5, .int u5)] [.int s3]) h (fun s3 h => ?_) (fun J4 hJ4 h => ?_)
      · refine mw_istore dX5_span_52 (by decide) rfl ?_
        refine mw_aload_n dX5_span_54 1 rfl ?_
        refine mw_iload_n dX5_span_55 3 rfl ?_
        refine mw_iload dX5_span_56 0 rfl ?_
        obtain ⟨q6, hq6, h⟩ := mh_bind h
        refine mw_vr (dc := 5) (ci := 5) (fs := fsX5) (T := TX5) (N := 9) cv_X5_163 wd_457 dX5_span_58 [.int u2, .int s3] [.int s3, .int u2, .ref 0] rfl rfl rfl rfl (t_X5_drop hq6) ⟨by decide, by decide⟩ (Nat.le_of_ble_eq_true rfl) ⟨rfl, rfl⟩ ?_
        refine mw_pop dX5_span_61 rfl ?_
        refine mw_aload_n dX5_span_62 1 rfl ?_
        refine mw_getr (b := 12) (fs := fsX5) gf_X5_41 dX5_span_63 rfl rfl ?_
        refine mw_iload_n dX5_span_66 2 rfl ?_
        obtain ⟨k7, hk8, hk8n, hk8l, h⟩ := mh_ix_some h
        refine mw_xaald (t := 0) dX5_span_67 rfl hk8 hk8n (sx_rS hk8l) ?_
        refine mw_aload_n dX5_span_68 1 rfl ?_
        refine mw_getr (b := 10) (fs := fsX5) gf_X5_35 dX5_span_69 rfl rfl ?_
        refine mw_getl (fs := (fsX0 10)) gf_X5_167 dX5_span_72 (sx_fall into).1 rfl ?_
        obtain ⟨q9, hq9, h⟩ := mh_bind h
        refine mw_vr (dc := 1) (ci := 2) (fs := (fsX2 (38 + 2 * k7))) (T := TX2) (N := 3) cv_X5_219 wd_613 dX5_span_75 [.long (q6.2.2 10 1)] [.long (q6.2.2 10 1), .ref (38 + 2 * k7)] rfl rfl (sx_sheet into hk8l).1 rfl (t_X2_firstUnlike (sx_sheet into hk8l) hq9) ⟨by decide, by decide⟩ (Nat.le_of_ble_eq_true rfl) ⟨rfl, rfl⟩ ?_
        refine mw_iconst (v := -1) dX5_span_78 (by decide) ?_
        refine mw_icmp_ne (tgt := 85) dX5_span_79 (by decide) (fun hc11 => ?_) (fun hc11 => ?_)
        · replace h := mh_ifn hc11 h
          obtain ⟨b10, eb10, h⟩ := mh_b_some h
          refine mw_iinc (v := b10) dX5_span_85 5 rfl (by rw [← eb10]; rfl) (by decide) rfl ?_
          refine mw_goto (tgt := 31) dX5_span_88 (by decide) ?_
          refine mw_loc [2, 3, 4, 5, 0] rfl ?_
          exact ih _ _ _ h
        · replace h := mh_ifp hc11 h
          refine mw_iload dX5_span_82 0 rfl ?_
          obtain rfl := Option.some.inj h
          exact mw_iret dX5_span_84 rfl rfl (Nat.le_of_ble_eq_true rfl) (Nat.le_refl 0) mh_ret_rfl
      · refine mw_if_ne (tgt := 47) dX5_span_39 (by decide) (fun hc5 => ?_) (fun hc5 => ?_)
        · replace h := mh_ifn hc5 h
          refine mw_bipush (v := 99) dX5_span_47 (by decide) ?_
          refine mw_iload dX5_span_49 4 rfl ?_
          refine mw_isub dX5_span_51 ?_
          refine mw_loc [0, 1, 2, 3, 4] rfl ?_
          exact hJ4 _ h
        · replace h := mh_ifp hc5 h
          refine mw_iload dX5_span_42 4 rfl ?_
          refine mw_goto (tgt := 52) dX5_span_44 (by decide) ?_
          refine mw_loc [0, 1, 2, 3, 4] rfl ?_
          exact hJ4 _ h
def X5_span (p1 : Int32) (p2 : Int32) (p3 : Int32) (I : mh_I) (L : mh_L) : Option (Int32 × mh_I × mh_L) := (X5_ragRefusal p1 p2 I).bind (fun q1 => if q1 = 0 then (X5_within p3 (0 : Int32) (1 : Int32)).bind (fun q2 => if q2 = 0 then some ((-7 : Int32), I, L) else X5_span_l31 p1 p2 p3 mh_fuel (0 : Int32) I L) else some (q1, I, L))
set_option maxHeartbeats 4000000 in
set_option maxRecDepth 100000 in
theorem t_X5_span {into : Option Nat} {L : mh_L} {I : mh_I} {p1 : Int32} {p2 : Int32} {p3 : Int32} {res : Int32 × mh_I × mh_L} (h : X5_span p1 p2 p3 I L = some res) : mh_CT yX5_span cX5_span 7 (some .int) (mh_rm 6) (SHX into) I L [.ref 0, .int p1, .int p2, .int p3] (mh_ret (some (.int res.1)) (SHX into) res.2.1 res.2.2) := by
  refine mh_ofW (ini := false) RX5 rfl (by decide) (fun h => by cases h) (Nat.le_of_ble_eq_true rfl) ?_
  show w_X5_span (SHX into) (mh_ret (some (.int res.1)) (SHX into) res.2.1 res.2.2) I L 0 [(0, .ref 0), (1, .int p1), (2, .int p2), (3, .int p3)] []
  unfold X5_span at h
  refine mw_aload_n dX5_span_0 0 rfl ?_
  refine mw_iload_n dX5_span_1 1 rfl ?_
  refine mw_iload_n dX5_span_2 2 rfl ?_
  obtain ⟨q1, hq1, h⟩ := mh_bind h
  refine mw_vr (dc := 3) (ci := 5) (fs := fsX5) (T := TX5) (N := 9) cv_X5_216 wd_609 dX5_span_3 [.int p1, .int p2] [.int p2, .int p1, .ref 0] rfl rfl rfl rfl (t_X5_ragRefusal hq1) ⟨by decide, by decide⟩ (Nat.le_of_ble_eq_true rfl) ⟨rfl, rfl⟩ ?_
  refine mw_istore dX5_span_6 (by decide) rfl ?_
  refine mw_iload dX5_span_8 0 rfl ?_
  refine mw_if_eq (tgt := 16) dX5_span_10 (by decide) (fun hc14 => ?_) (fun hc14 => ?_)
  · replace h := mh_ifp hc14 h
    refine mw_iload_n dX5_span_16 4 rfl ?_
    refine mw_iconst (v := 0) dX5_span_17 (by decide) ?_
    refine mw_iconst (v := 1) dX5_span_18 (by decide) ?_
    obtain ⟨q2, hq2, h⟩ := mh_bind h
    refine mw_sz (dc := 0) cs_X5_97 wd_223 dX5_span_19 [.int p3, .int (0 : Int32), .int (1 : Int32)] [.int (1 : Int32), .int (0 : Int32), .int p3] rfl rfl (t_X5_within hq2) ⟨by decide, by decide⟩ (Nat.le_of_ble_eq_true rfl) ⟨rfl, rfl⟩ (fun zq2 => ?_)
    refine mw_if_ne (tgt := 28) dX5_span_22 (by decide) (fun hc13 => ?_) (fun hc13 => ?_)
    · replace h := mh_ifn hc13 h
      refine mw_iconst (v := 0) dX5_span_28 (by decide) ?_
      refine mw_istore dX5_span_29 (by decide) rfl ?_
      refine mw_loc [2, 3, 4, 5, 0] rfl ?_
      exact t_X5_span_l31  _ _ _ _ h 
    · replace h := mh_ifp hc13 h
      refine mw_bipush (v := -7) dX5_span_25 (by decide) ?_
      obtain rfl := Option.some.inj h
      exact mw_iret dX5_span_27 rfl rfl (Nat.le_of_ble_eq_true rfl) (Nat.le_refl 0) mh_ret_rfl
  · replace h := mh_ifn hc14 h
    refine mw_iload dX5_span_13 0 rfl ?_
    obtain rfl := Option.some.inj h
    exact mw_iret dX5_span_15 rfl rfl (Nat.le_of_ble_eq_true rfl) (Nat.le_refl 0) mh_ret_rfl
abbrev w_X5_laws (sh : List mh_C) (Φ : mh_P) (I : mh_I) (L : mh_L) (pc : Nat) (lv : List (Nat × Value)) (st : List Value) : Prop := mh_W RX5 cX5_laws 7 (some .int) false (mh_rm 5) 46 0 0 mh_noX Φ 0 sh I L pc lv st
def X5_laws_l32 (u1 : Int32) (u2 : Int32) (u3 : Int32) : Nat → Int32 → Int32 → mh_I → mh_L → Option (Int32 × mh_I × mh_L)
  | 0, _, _, _, _ => none
  | n + 1, u5, u6, I, L => if (I 0 5) ≤ u6 then some (u5, I, L) else if (6 : Int32) ≤ u6 then some (u5, I, L) else mh_ix u6 6 (fun k3 => (X5_bit u2).bind (fun q5 => (X0_runFrom 10 1 (14 + 4 * k3) q5 (0 : Int64) u3 I L).bind (fun q6 => mh_ix u1 4 (fun k7 => (X2_firstUnlike (38 + 2 * k7) (q6.2.2 10 1) q6.2.1).bind (fun q9 => mh_j (fun (v10 : Int32) => mh_b (u6 + (1 : Int32)) (fun b14 => (X5_laws_l32 u1 u2 u3 n v10 b14 q6.2.1 q6.2.2))) (fun J11 => if q9 = (-1 : Int32) then mh_b (u5 ||| ((1 : Int32) <<< (u6 &&& 31))) (fun b12 => (J11 b12)) else (J11 u5)))))))
set_option maxHeartbeats 4000000 in
set_option maxRecDepth 100000 in
theorem t_X5_laws_l32 {into : Option Nat} {u1 : Int32} {u2 : Int32} {u3 : Int32} {res : Int32 × mh_I × mh_L} (n : Nat) (u5 : Int32) (u6 : Int32) (I : mh_I) (L : mh_L) (h : X5_laws_l32 u1 u2 u3 n u5 u6 I L = some res)  : w_X5_laws (SHX into) (mh_ret (some (.int res.1)) (SHX into) res.2.1 res.2.2) I L 32 [(0, .ref 0), (1, .int u1), (2, .int u2), (3, .int u3), (5, .int u5), (6, .int u6)] [] := by
  induction n generalizing u5 u6 I L with
  | zero => rw [X5_laws_l32] at h; cases h
  | succ n ih =>
    rw [X5_laws_l32] at h
    refine mw_iload dX5_laws_32 5 rfl ?_
    refine mw_aload_n dX5_laws_34 0 rfl ?_
    refine mw_geti (fs := fsX5) gf_X5_83 dX5_laws_35 rfl rfl ?_
    refine mw_icmp_ge (tgt := 108) dX5_laws_38 (by decide) (fun hc16 => ?_) (fun hc16 => ?_)
    · replace h := mh_ifp hc16 h
      refine mw_iload dX5_laws_108 4 rfl ?_
      obtain rfl := Option.some.inj h
      exact mw_iret dX5_laws_110 rfl rfl (Nat.le_of_ble_eq_true rfl) (Nat.le_refl 0) mh_ret_rfl
    · replace h := mh_ifn hc16 h
      refine mw_iload dX5_laws_41 5 rfl ?_
      refine mw_bipush (v := 6) dX5_laws_43 (by decide) ?_
      refine mw_icmp_ge (tgt := 108) dX5_laws_45 (by decide) (fun hc15 => ?_) (fun hc15 => ?_)
      · replace h := mh_ifp hc15 h
        refine mw_iload dX5_laws_108 4 rfl ?_
        obtain rfl := Option.some.inj h
        exact mw_iret dX5_laws_110 rfl rfl (Nat.le_of_ble_eq_true rfl) (Nat.le_refl 0) mh_ret_rfl
      · replace h := mh_ifn hc15 h
        refine mw_aload_n dX5_laws_48 0 rfl ?_
        refine mw_getr (b := 10) (fs := fsX5) gf_X5_35 dX5_laws_49 rfl rfl ?_
        refine mw_aload_n dX5_laws_52 0 rfl ?_
        refine mw_getr (b := 1) (fs := fsX5) gf_X5_10 dX5_laws_53 rfl rfl ?_
        refine mw_aload_n dX5_laws_56 0 rfl ?_
        refine mw_getr (b := 9) (fs := fsX5) gf_X5_28 dX5_laws_57 rfl rfl ?_
        refine mw_iload dX5_laws_60 5 rfl ?_
        obtain ⟨k3, hk4, hk4n, hk4l, h⟩ := mh_ix_some h
        refine mw_xaald (t := 1) dX5_laws_62 rfl hk4 hk4n (sx_rT hk4l) ?_
        refine mw_iload_n dX5_laws_63 2 rfl ?_
        obtain ⟨q5, hq5, h⟩ := mh_bind h
        refine mw_sr (dc := 0) cs_X5_143 wd_412 dX5_laws_64 [.int u2] [.int u2, .ref (14 + 4 * k3), .ref 1, .ref 10] rfl rfl (t_X5_bit hq5) ⟨by decide, by decide⟩ (Nat.le_of_ble_eq_true rfl) ⟨rfl, rfl⟩ ?_
        refine mw_lconst (v := 0) dX5_laws_67 (by decide) ?_
        refine mw_iload_n dX5_laws_68 3 rfl ?_
        obtain ⟨q6, hq6, h⟩ := mh_bind h
        refine mw_vr (dc := 4) (ci := 0) (fs := (fsX0 10)) (T := TX0) (N := 3) cv_X5_182 wd_461 dX5_laws_69 [.ref 1, .ref (14 + 4 * k3), .long q5, .long (0 : Int64), .int u3] [.int u3, .long (0 : Int64), .long q5, .ref (14 + 4 * k3), .ref 1, .ref 10] rfl rfl (sx_fall into).1 rfl (t_X0_runFrom (sx_fall into) (sx_piece into) (sx_text into hk4l) hq6) ⟨by decide, by decide⟩ (Nat.le_of_ble_eq_true rfl) ⟨rfl, rfl⟩ ?_
        refine mw_pop dX5_laws_72 rfl ?_
        refine mw_aload_n dX5_laws_73 0 rfl ?_
        refine mw_getr (b := 12) (fs := fsX5) gf_X5_41 dX5_laws_74 rfl rfl ?_
        refine mw_iload_n dX5_laws_77 1 rfl ?_
        obtain ⟨k7, hk8, hk8n, hk8l, h⟩ := mh_ix_some h
        refine mw_xaald (t := 0) dX5_laws_78 rfl hk8 hk8n (sx_rS hk8l) ?_
        refine mw_aload_n dX5_laws_79 0 rfl ?_
        refine mw_getr (b := 10) (fs := fsX5) gf_X5_35 dX5_laws_80 rfl rfl ?_
        refine mw_getl (fs := (fsX0 10)) gf_X5_167 dX5_laws_83 (sx_fall into).1 rfl ?_
        obtain ⟨q9, hq9, h⟩ := mh_bind h
        refine mw_vr (dc := 1) (ci := 2) (fs := (fsX2 (38 + 2 * k7))) (T := TX2) (N := 3) cv_X5_219 wd_613 dX5_laws_86 [.long (q6.2.2 10 1)] [.long (q6.2.2 10 1), .ref (38 + 2 * k7)] rfl rfl (sx_sheet into hk8l).1 rfl (t_X2_firstUnlike (sx_sheet into hk8l) hq9) ⟨by decide, by decide⟩ (Nat.le_of_ble_eq_true rfl) ⟨rfl, rfl⟩ ?_
        refine mw_iconst (v := -1) dX5_laws_89 (by decide) ?_
        refine mh_jw (fun J11 => ∀ (v10 : Int32), J11 v10 = some res → w_X5_laws (SHX into) (mh_ret (some (.int res.1)) (SHX into) res.2.1 res.2.2) q6.2.1 q6.2.2 102 [(0, .ref 0), (1, .int u1), (2, .int u2), (3, .int u3), (5, .int v10), (6, .int u6)] []) h (fun v10 h => ?_) (fun J11 hJ11 h => ?_)
        · obtain ⟨b14, eb14, h⟩ := mh_b_some h
          refine mw_iinc (v := b14) dX5_laws_102 5 rfl (by rw [← eb14]; rfl) (by decide) rfl ?_
          refine mw_goto (tgt := 32) dX5_laws_105 (by decide) ?_
          refine mw_loc [1, 2, 3, 4, 5, 0] rfl ?_
          exact ih _ _ _ _ h
        · refine mw_icmp_ne (tgt := 102) dX5_laws_90 (by decide) (fun hc13 => ?_) (fun hc13 => ?_)
          · replace h := mh_ifn hc13 h
            refine mw_loc [0, 1, 2, 3, 4, 5] rfl ?_
            exact hJ11 _ h
          · replace h := mh_ifp hc13 h
            refine mw_iload dX5_laws_93 4 rfl ?_
            refine mw_iconst (v := 1) dX5_laws_95 (by decide) ?_
            refine mw_iload dX5_laws_96 5 rfl ?_
            refine mw_ishl dX5_laws_98 ?_
            refine mw_ior dX5_laws_99 ?_
            obtain ⟨b12, eb12, h⟩ := mh_b_some h
            refine mw_nmi eb12 ?_
            refine mw_istore dX5_laws_100 (by decide) rfl ?_
            refine mw_loc [1, 2, 3, 4, 0, 5] rfl ?_
            exact hJ11 _ h
def X5_laws (p1 : Int32) (p2 : Int32) (p3 : Int32) (I : mh_I) (L : mh_L) : Option (Int32 × mh_I × mh_L) := (X5_ragRefusal p1 p2 I).bind (fun q1 => if q1 = 0 then (X5_isPull p3).bind (fun q2 => if q2 = 0 then some ((-7 : Int32), I, L) else X5_laws_l32 p1 p2 p3 mh_fuel (0 : Int32) (0 : Int32) I L) else some (q1, I, L))
set_option maxHeartbeats 4000000 in
set_option maxRecDepth 100000 in
theorem t_X5_laws {into : Option Nat} {L : mh_L} {I : mh_I} {p1 : Int32} {p2 : Int32} {p3 : Int32} {res : Int32 × mh_I × mh_L} (h : X5_laws p1 p2 p3 I L = some res) : mh_CT yX5_laws cX5_laws 7 (some .int) (mh_rm 5) (SHX into) I L [.ref 0, .int p1, .int p2, .int p3] (mh_ret (some (.int res.1)) (SHX into) res.2.1 res.2.2) := by
  refine mh_ofW (ini := false) RX5 rfl (by decide) (fun h => by cases h) (Nat.le_of_ble_eq_true rfl) ?_
  show w_X5_laws (SHX into) (mh_ret (some (.int res.1)) (SHX into) res.2.1 res.2.2) I L 0 [(0, .ref 0), (1, .int p1), (2, .int p2), (3, .int p3)] []
  unfold X5_laws at h
  refine mw_aload_n dX5_laws_0 0 rfl ?_
  refine mw_iload_n dX5_laws_1 1 rfl ?_
  refine mw_iload_n dX5_laws_2 2 rfl ?_
  obtain ⟨q1, hq1, h⟩ := mh_bind h
  refine mw_vr (dc := 3) (ci := 5) (fs := fsX5) (T := TX5) (N := 9) cv_X5_216 wd_609 dX5_laws_3 [.int p1, .int p2] [.int p2, .int p1, .ref 0] rfl rfl rfl rfl (t_X5_ragRefusal hq1) ⟨by decide, by decide⟩ (Nat.le_of_ble_eq_true rfl) ⟨rfl, rfl⟩ ?_
  refine mw_istore dX5_laws_6 (by decide) rfl ?_
  refine mw_iload dX5_laws_8 0 rfl ?_
  refine mw_if_eq (tgt := 16) dX5_laws_10 (by decide) (fun hc18 => ?_) (fun hc18 => ?_)
  · replace h := mh_ifp hc18 h
    refine mw_iload_n dX5_laws_16 4 rfl ?_
    obtain ⟨q2, hq2, h⟩ := mh_bind h
    refine mw_sz (dc := 1) cs_X5_104 wd_332 dX5_laws_17 [.int p3] [.int p3] rfl rfl (t_X5_isPull hq2) ⟨by decide, by decide⟩ (Nat.le_of_ble_eq_true rfl) ⟨rfl, rfl⟩ (fun zq2 => ?_)
    refine mw_if_ne (tgt := 26) dX5_laws_20 (by decide) (fun hc17 => ?_) (fun hc17 => ?_)
    · replace h := mh_ifn hc17 h
      refine mw_iconst (v := 0) dX5_laws_26 (by decide) ?_
      refine mw_istore dX5_laws_27 (by decide) rfl ?_
      refine mw_iconst (v := 0) dX5_laws_29 (by decide) ?_
      refine mw_istore dX5_laws_30 (by decide) rfl ?_
      refine mw_loc [3, 4, 5, 6, 1, 0] rfl ?_
      exact t_X5_laws_l32  _ _ _ _ _ h 
    · replace h := mh_ifp hc17 h
      refine mw_bipush (v := -7) dX5_laws_23 (by decide) ?_
      obtain rfl := Option.some.inj h
      exact mw_iret dX5_laws_25 rfl rfl (Nat.le_of_ble_eq_true rfl) (Nat.le_refl 0) mh_ret_rfl
  · replace h := mh_ifn hc18 h
    refine mw_iload dX5_laws_13 0 rfl ?_
    obtain rfl := Option.some.inj h
    exact mw_iret dX5_laws_15 rfl rfl (Nat.le_of_ble_eq_true rfl) (Nat.le_refl 0) mh_ret_rfl
abbrev w_X5_film (sh : List mh_C) (Φ : mh_P) (I : mh_I) (L : mh_L) (pc : Nat) (lv : List (Nat × Value)) (st : List Value) : Prop := mh_W RX5 cX5_film 5 (some .int) false (mh_rm 6) 46 0 0 mh_noX Φ 0 sh I L pc lv st
def X5_film_l52 (u1 : Int32) (L : mh_L) : Nat → Int32 → mh_I → Option (Int32 × mh_I × mh_L)
  | 0, _, _ => none
  | n + 1, u4, I => if (48 : Int32) ≤ u4 then some ((48 : Int32), I, L) else mh_ix u1 4 (fun k8 => (X5_hasBit (L 10 1) u4).bind (fun q10 => mh_j (fun (s11 : Int32) => (X2_put (38 + 2 * k8) u4 s11 I).bind (fun q14 => mh_b (u4 + (1 : Int32)) (fun b15 => (X5_film_l52 u1 L n b15 q14)))) (fun J12 => if q10 = 0 then (J12 (0 : Int32)) else (J12 (1 : Int32)))))
set_option maxHeartbeats 4000000 in
set_option maxRecDepth 100000 in
theorem t_X5_film_l52 {into : Option Nat} {u1 : Int32} {L : mh_L} {res : Int32 × mh_I × mh_L} (n : Nat) (u4 : Int32) (I : mh_I) (h : X5_film_l52 u1 L n u4 I = some res)  : w_X5_film (SHX into) (mh_ret (some (.int res.1)) (SHX into) res.2.1 res.2.2) I L 52 [(0, .ref 0), (1, .int u1), (4, .int u4)] [] := by
  induction n generalizing u4 I with
  | zero => rw [X5_film_l52] at h; cases h
  | succ n ih =>
    rw [X5_film_l52] at h
    refine mw_iload dX5_film_52 2 rfl ?_
    refine mw_bipush (v := 48) dX5_film_54 (by decide) ?_
    refine mw_icmp_ge (tgt := 96) dX5_film_56 (by decide) (fun hc16 => ?_) (fun hc16 => ?_)
    · replace h := mh_ifp hc16 h
      refine mw_bipush (v := 48) dX5_film_96 (by decide) ?_
      obtain rfl := Option.some.inj h
      exact mw_iret dX5_film_98 rfl rfl (Nat.le_of_ble_eq_true rfl) (Nat.le_refl 0) mh_ret_rfl
    · replace h := mh_ifn hc16 h
      refine mw_aload_n dX5_film_59 0 rfl ?_
      refine mw_getr (b := 12) (fs := fsX5) gf_X5_41 dX5_film_60 rfl rfl ?_
      refine mw_iload_n dX5_film_63 1 rfl ?_
      obtain ⟨k8, hk9, hk9n, hk9l, h⟩ := mh_ix_some h
      refine mw_xaald (t := 0) dX5_film_64 rfl hk9 hk9n (sx_rS hk9l) ?_
      refine mw_iload dX5_film_65 2 rfl ?_
      refine mw_aload_n dX5_film_67 0 rfl ?_
      refine mw_getr (b := 10) (fs := fsX5) gf_X5_35 dX5_film_68 rfl rfl ?_
      refine mw_getl (fs := (fsX0 10)) gf_X5_167 dX5_film_71 (sx_fall into).1 rfl ?_
      refine mw_iload dX5_film_74 2 rfl ?_
      obtain ⟨q10, hq10, h⟩ := mh_bind h
      refine mw_sz (dc := 0) cs_X5_139 wd_357 dX5_film_76 [.long (L 10 1), .int u4] [.int u4, .long (L 10 1), .int u4, .ref (38 + 2 * k8)] rfl rfl (t_X5_hasBit hq10) ⟨by decide, by decide⟩ (Nat.le_of_ble_eq_true rfl) ⟨rfl, rfl⟩ (fun zq10 => ?_)
      refine mh_jw (fun J12 => ∀ (s11 : Int32), J12 s11 = some res → w_X5_film (SHX into) (mh_ret (some (.int res.1)) (SHX into) res.2.1 res.2.2) I L 87 [(0, .ref 0), (1, .int u1), (4, .int u4)] [.int s11, .int u4, .ref (38 + 2 * k8)]) h (fun s11 h => ?_) (fun J12 hJ12 h => ?_)
      · obtain ⟨q14, hq14, h⟩ := mh_bind h
        refine mw_vv (dc := 0) (ci := 2) (fs := (fsX2 (38 + 2 * k8))) (T := TX2) (N := 3) cv_X5_228 wd_638 dX5_film_87 [.int u4, .int s11] [.int s11, .int u4, .ref (38 + 2 * k8)] rfl rfl (sx_sheet into hk9l).1 rfl (t_X2_put (sx_sheet into hk9l) hq14) ⟨by decide, by decide⟩ (Nat.le_of_ble_eq_true rfl) ⟨rfl, rfl⟩ ?_
        obtain ⟨b15, eb15, h⟩ := mh_b_some h
        refine mw_iinc (v := b15) dX5_film_90 2 rfl (by rw [← eb15]; rfl) (by decide) rfl ?_
        refine mw_goto (tgt := 52) dX5_film_93 (by decide) ?_
        refine mw_loc [1, 2, 0] rfl ?_
        exact ih _ _ h
      · refine mw_if_eq (tgt := 86) dX5_film_79 (by decide) (fun hc13 => ?_) (fun hc13 => ?_)
        · replace h := mh_ifp hc13 h
          refine mw_iconst (v := 0) dX5_film_86 (by decide) ?_
          refine mw_loc [0, 1, 2] rfl ?_
          exact hJ12 _ h
        · replace h := mh_ifn hc13 h
          refine mw_iconst (v := 1) dX5_film_82 (by decide) ?_
          refine mw_goto (tgt := 87) dX5_film_83 (by decide) ?_
          refine mw_loc [0, 1, 2] rfl ?_
          exact hJ12 _ h
def X5_film (p1 : Int32) (p2 : Int32) (p3 : Int32) (I : mh_I) (L : mh_L) : Option (Int32 × mh_I × mh_L) := (X5_isSheet p1).bind (fun q1 => if q1 = 0 then some ((-2 : Int32), I, L) else (X5_isLoop p2).bind (fun q2 => if q2 = 0 then some ((-5 : Int32), I, L) else (X5_isPull p3).bind (fun q3 => if q3 = 0 then some ((-7 : Int32), I, L) else (X5_drop p2 p3 I L).bind (fun q4 => mh_ix p1 4 (fun k5 => (X2_become (38 + 2 * k5) (2 : Int32) (48 : Int32) q4.2.1).bind (fun q7 => X5_film_l52 p1 q4.2.2 mh_fuel (0 : Int32) q7))))))
set_option maxHeartbeats 4000000 in
set_option maxRecDepth 100000 in
theorem t_X5_film {into : Option Nat} {L : mh_L} {I : mh_I} {p1 : Int32} {p2 : Int32} {p3 : Int32} {res : Int32 × mh_I × mh_L} (h : X5_film p1 p2 p3 I L = some res) : mh_CT yX5_film cX5_film 5 (some .int) (mh_rm 6) (SHX into) I L [.ref 0, .int p1, .int p2, .int p3] (mh_ret (some (.int res.1)) (SHX into) res.2.1 res.2.2) := by
  refine mh_ofW (ini := false) RX5 rfl (by decide) (fun h => by cases h) (Nat.le_of_ble_eq_true rfl) ?_
  show w_X5_film (SHX into) (mh_ret (some (.int res.1)) (SHX into) res.2.1 res.2.2) I L 0 [(0, .ref 0), (1, .int p1), (2, .int p2), (3, .int p3)] []
  unfold X5_film at h
  refine mw_iload_n dX5_film_0 1 rfl ?_
  obtain ⟨q1, hq1, h⟩ := mh_bind h
  refine mw_sz (dc := 1) cs_X5_222 wd_560 dX5_film_1 [.int p1] [.int p1] rfl rfl (t_X5_isSheet hq1) ⟨by decide, by decide⟩ (Nat.le_of_ble_eq_true rfl) ⟨rfl, rfl⟩ (fun zq1 => ?_)
  refine mw_if_ne (tgt := 10) dX5_film_4 (by decide) (fun hc19 => ?_) (fun hc19 => ?_)
  · replace h := mh_ifn hc19 h
    refine mw_iload_n dX5_film_10 2 rfl ?_
    obtain ⟨q2, hq2, h⟩ := mh_bind h
    refine mw_sz (dc := 1) cs_X5_101 wd_329 dX5_film_11 [.int p2] [.int p2] rfl rfl (t_X5_isLoop hq2) ⟨by decide, by decide⟩ (Nat.le_of_ble_eq_true rfl) ⟨rfl, rfl⟩ (fun zq2 => ?_)
    refine mw_if_ne (tgt := 20) dX5_film_14 (by decide) (fun hc18 => ?_) (fun hc18 => ?_)
    · replace h := mh_ifn hc18 h
      refine mw_iload_n dX5_film_20 3 rfl ?_
      obtain ⟨q3, hq3, h⟩ := mh_bind h
      refine mw_sz (dc := 1) cs_X5_104 wd_332 dX5_film_21 [.int p3] [.int p3] rfl rfl (t_X5_isPull hq3) ⟨by decide, by decide⟩ (Nat.le_of_ble_eq_true rfl) ⟨rfl, rfl⟩ (fun zq3 => ?_)
      refine mw_if_ne (tgt := 30) dX5_film_24 (by decide) (fun hc17 => ?_) (fun hc17 => ?_)
      · replace h := mh_ifn hc17 h
        refine mw_aload_n dX5_film_30 0 rfl ?_
        refine mw_iload_n dX5_film_31 2 rfl ?_
        refine mw_iload_n dX5_film_32 3 rfl ?_
        obtain ⟨q4, hq4, h⟩ := mh_bind h
        refine mw_vr (dc := 5) (ci := 5) (fs := fsX5) (T := TX5) (N := 9) cv_X5_163 wd_457 dX5_film_33 [.int p2, .int p3] [.int p3, .int p2, .ref 0] rfl rfl rfl rfl (t_X5_drop hq4) ⟨by decide, by decide⟩ (Nat.le_of_ble_eq_true rfl) ⟨rfl, rfl⟩ ?_
        refine mw_pop dX5_film_36 rfl ?_
        refine mw_aload_n dX5_film_37 0 rfl ?_
        refine mw_getr (b := 12) (fs := fsX5) gf_X5_41 dX5_film_38 rfl rfl ?_
        refine mw_iload_n dX5_film_41 1 rfl ?_
        obtain ⟨k5, hk6, hk6n, hk6l, h⟩ := mh_ix_some h
        refine mw_xaald (t := 0) dX5_film_42 rfl hk6 hk6n (sx_rS hk6l) ?_
        refine mw_iconst (v := 2) dX5_film_43 (by decide) ?_
        refine mw_bipush (v := 48) dX5_film_44 (by decide) ?_
        obtain ⟨q7, hq7, h⟩ := mh_bind h
        refine mw_vv (dc := 0) (ci := 2) (fs := (fsX2 (38 + 2 * k5))) (T := TX2) (N := 3) cv_X5_225 wd_634 dX5_film_46 [.int (2 : Int32), .int (48 : Int32)] [.int (48 : Int32), .int (2 : Int32), .ref (38 + 2 * k5)] rfl rfl (sx_sheet into hk6l).1 rfl (t_X2_become (sx_sheet into hk6l) hq7) ⟨by decide, by decide⟩ (Nat.le_of_ble_eq_true rfl) ⟨rfl, rfl⟩ ?_
        refine mw_iconst (v := 0) dX5_film_49 (by decide) ?_
        refine mw_istore dX5_film_50 (by decide) rfl ?_
        refine mw_loc [1, 2, 0] rfl ?_
        exact t_X5_film_l52  _ _ _ h 
      · replace h := mh_ifp hc17 h
        refine mw_bipush (v := -7) dX5_film_27 (by decide) ?_
        obtain rfl := Option.some.inj h
        exact mw_iret dX5_film_29 rfl rfl (Nat.le_of_ble_eq_true rfl) (Nat.le_refl 0) mh_ret_rfl
    · replace h := mh_ifp hc18 h
      refine mw_bipush (v := -5) dX5_film_17 (by decide) ?_
      obtain rfl := Option.some.inj h
      exact mw_iret dX5_film_19 rfl rfl (Nat.le_of_ble_eq_true rfl) (Nat.le_refl 0) mh_ret_rfl
  · replace h := mh_ifp hc19 h
    refine mw_bipush (v := -2) dX5_film_7 (by decide) ?_
    obtain rfl := Option.some.inj h
    exact mw_iret dX5_film_9 rfl rfl (Nat.le_of_ble_eq_true rfl) (Nat.le_refl 0) mh_ret_rfl
abbrev w_X5_missed (sh : List mh_C) (Φ : mh_P) (I : mh_I) (L : mh_L) (pc : Nat) (lv : List (Nat × Value)) (st : List Value) : Prop := mh_W RX5 cX5_missed 7 (some .int) false (mh_rm 1) 46 0 0 mh_noX Φ 0 sh I L pc lv st
def X5_missed_l19 (u2 : Int32) (L : mh_L) : Nat → Int64 → Int32 → Int32 → Option (Int32)
  | 0, _, _, _ => none
  | n + 1, u3, u5, u6 => if (48 : Int32) ≤ u6 then some u5 else (X5_hasBit (L 10 1) u6).bind (fun q2 => mh_j (fun (v3 : Int64) (v4 : Int32) => mh_b (u6 + (1 : Int32)) (fun b12 => (X5_missed_l19 u2 L n v3 v4 b12))) (fun J5 => if q2 = 0 then (J5 u3 u5) else mh_j (fun (v6 : Int32) => mh_b (mh_reml (u3 * (48271 : Int64)) (2147483647 : Int64)) (fun b10 => (J5 b10 v6))) (fun J7 => if 0 ≤ (lg_cmp (mh_reml u3 (100 : Int64)) (u2.toInt64)) then (J7 u5) else mh_b (u5 + (1 : Int32)) (fun b8 => (J7 b8)))))
set_option maxHeartbeats 4000000 in
set_option maxRecDepth 100000 in
theorem t_X5_missed_l19 {into : Option Nat} {u2 : Int32} {I : mh_I} {L : mh_L} {res : Int32} (n : Nat) (u3 : Int64) (u5 : Int32) (u6 : Int32) (h : X5_missed_l19 u2 L n u3 u5 u6 = some res)  : w_X5_missed (SHX into) (mh_ret (some (.int res)) (SHX into) I L) I L 19 [(0, .ref 0), (2, .int u2), (3, .long u3), (5, .int u5), (6, .int u6)] [] := by
  induction n generalizing u3 u5 u6 with
  | zero => rw [X5_missed_l19] at h; cases h
  | succ n ih =>
    rw [X5_missed_l19] at h
    refine mw_iload dX5_missed_19 4 rfl ?_
    refine mw_bipush (v := 48) dX5_missed_21 (by decide) ?_
    refine mw_icmp_ge (tgt := 71) dX5_missed_23 (by decide) (fun hc13 => ?_) (fun hc13 => ?_)
    · replace h := mh_ifp hc13 h
      refine mw_iload dX5_missed_71 3 rfl ?_
      obtain rfl := Option.some.inj h
      exact mw_iret dX5_missed_73 rfl rfl (Nat.le_of_ble_eq_true rfl) (Nat.le_refl 0) mh_ret_rfl
    · replace h := mh_ifn hc13 h
      refine mw_aload_n dX5_missed_26 0 rfl ?_
      refine mw_getr (b := 10) (fs := fsX5) gf_X5_35 dX5_missed_27 rfl rfl ?_
      refine mw_getl (fs := (fsX0 10)) gf_X5_167 dX5_missed_30 (sx_fall into).1 rfl ?_
      refine mw_iload dX5_missed_33 4 rfl ?_
      obtain ⟨q2, hq2, h⟩ := mh_bind h
      refine mw_sz (dc := 0) cs_X5_139 wd_357 dX5_missed_35 [.long (L 10 1), .int u6] [.int u6, .long (L 10 1)] rfl rfl (t_X5_hasBit hq2) ⟨by decide, by decide⟩ (Nat.le_of_ble_eq_true rfl) ⟨rfl, rfl⟩ (fun zq2 => ?_)
      refine mh_jw (fun J5 => ∀ (v3 : Int64) (v4 : Int32), J5 v3 v4 = some res → w_X5_missed (SHX into) (mh_ret (some (.int res)) (SHX into) I L) I L 65 [(0, .ref 0), (2, .int u2), (3, .long v3), (5, .int v4), (6, .int u6)] []) h (fun v3 v4 h => ?_) (fun J5 hJ5 h => ?_)
      · obtain ⟨b12, eb12, h⟩ := mh_b_some h
        refine mw_iinc (v := b12) dX5_missed_65 4 rfl (by rw [← eb12]; rfl) (by decide) rfl ?_
        refine mw_goto (tgt := 19) dX5_missed_68 (by decide) ?_
        refine mw_loc [1, 2, 3, 4, 0] rfl ?_
        exact ih _ _ _ h
      · refine mw_if_eq (tgt := 65) dX5_missed_38 (by decide) (fun hc11 => ?_) (fun hc11 => ?_)
        · replace h := mh_ifp hc11 h
          refine mw_loc [0, 1, 2, 3, 4] rfl ?_
          exact hJ5 _ _ h
        · replace h := mh_ifn hc11 h
          refine mw_lload_n dX5_missed_41 2 rfl ?_
          refine mw_ldc2 dX5_missed_42 wd_650 ?_
          refine mw_lrem dX5_missed_45 (by decide) ?_
          refine mw_iload_n dX5_missed_46 1 rfl ?_
          refine mw_i2l dX5_missed_47 ?_
          refine mw_lcmp dX5_missed_48 ?_
          refine mh_jw (fun J7 => ∀ (v6 : Int32), J7 v6 = some res → w_X5_missed (SHX into) (mh_ret (some (.int res)) (SHX into) I L) I L 55 [(0, .ref 0), (2, .int u2), (3, .long u3), (5, .int v6), (6, .int u6)] []) h (fun v6 h => ?_) (fun J7 hJ7 h => ?_)
          · refine mw_lload_n dX5_missed_55 2 rfl ?_
            refine mw_ldc2 dX5_missed_56 wd_648 ?_
            refine mw_lmul dX5_missed_59 ?_
            refine mw_ldc2 dX5_missed_60 wd_649 ?_
            refine mw_lrem dX5_missed_63 (by decide) ?_
            obtain ⟨b10, eb10, h⟩ := mh_b_some h
            refine mw_nml eb10 ?_
            refine mw_lstore_n dX5_missed_64 (by decide) rfl ?_
            refine mw_loc [1, 2, 0, 3, 4] rfl ?_
            exact hJ5 _ _ h
          · refine mw_if_ge (tgt := 55) dX5_missed_49 (by decide) (fun hc9 => ?_) (fun hc9 => ?_)
            · replace h := mh_ifp hc9 h
              refine mw_loc [0, 1, 2, 3, 4] rfl ?_
              exact hJ7 _ h
            · replace h := mh_ifn hc9 h
              obtain ⟨b8, eb8, h⟩ := mh_b_some h
              refine mw_iinc (v := b8) dX5_missed_52 3 rfl (by rw [← eb8]; rfl) (by decide) rfl ?_
              refine mw_loc [1, 2, 3, 0, 4] rfl ?_
              exact hJ7 _ h
def X5_missed (p1 : Int32) (p2 : Int32) (L : mh_L) : Option (Int32) := mh_b (mh_reml (((p1 + (1 : Int32)).toInt64) * (48271 : Int64)) (2147483647 : Int64)) (fun b1 => X5_missed_l19 p2 L mh_fuel b1 (0 : Int32) (0 : Int32))
set_option maxHeartbeats 4000000 in
set_option maxRecDepth 100000 in
theorem t_X5_missed {into : Option Nat} {L : mh_L} {I : mh_I} {p1 : Int32} {p2 : Int32} {res : Int32} (h : X5_missed p1 p2 L = some res) : mh_CT yX5_missed cX5_missed 7 (some .int) (mh_rm 1) (SHX into) I L [.ref 0, .int p1, .int p2] (mh_ret (some (.int res)) (SHX into) I L) := by
  refine mh_ofW (ini := false) RX5 rfl (by decide) (fun h => by cases h) (Nat.le_of_ble_eq_true rfl) ?_
  show w_X5_missed (SHX into) (mh_ret (some (.int res)) (SHX into) I L) I L 0 [(0, .ref 0), (1, .int p1), (2, .int p2)] []
  unfold X5_missed at h
  refine mw_iload_n dX5_missed_0 1 rfl ?_
  refine mw_iconst (v := 1) dX5_missed_1 (by decide) ?_
  refine mw_iadd dX5_missed_2 ?_
  refine mw_i2l dX5_missed_3 ?_
  refine mw_ldc2 dX5_missed_4 wd_648 ?_
  refine mw_lmul dX5_missed_7 ?_
  refine mw_ldc2 dX5_missed_8 wd_649 ?_
  refine mw_lrem dX5_missed_11 (by decide) ?_
  obtain ⟨b1, eb1, h⟩ := mh_b_some h
  refine mw_nml eb1 ?_
  refine mw_lstore_n dX5_missed_12 (by decide) rfl ?_
  refine mw_iconst (v := 0) dX5_missed_13 (by decide) ?_
  refine mw_istore dX5_missed_14 (by decide) rfl ?_
  refine mw_iconst (v := 0) dX5_missed_16 (by decide) ?_
  refine mw_istore dX5_missed_17 (by decide) rfl ?_
  refine mw_loc [3, 5, 2, 1, 0] rfl ?_
  exact t_X5_missed_l19  _ _ _ _ h 
abbrev w_X5_slips (sh : List mh_C) (Φ : mh_P) (I : mh_I) (L : mh_L) (pc : Nat) (lv : List (Nat × Value)) (st : List Value) : Prop := mh_W RX5 cX5_slips 5 (some .int) false (mh_rm 6) 46 0 0 mh_noX Φ 0 sh I L pc lv st
def X5_slips (p1 : Int32) (p2 : Int32) (p3 : Int32) (p4 : Int32) (I : mh_I) (L : mh_L) : Option (Int32 × mh_I × mh_L) := (X5_isLoop p2).bind (fun q1 => if q1 = 0 then some ((-5 : Int32), I, L) else (X5_within p1 (0 : Int32) (99999 : Int32)).bind (fun q2 => if q2 = 0 then some ((-7 : Int32), I, L) else (X5_isPull p3).bind (fun q3 => if q3 = 0 then some ((-7 : Int32), I, L) else (X5_within p4 (0 : Int32) (100 : Int32)).bind (fun q4 => if q4 = 0 then some ((-7 : Int32), I, L) else (X5_drop p2 p3 I L).bind (fun q5 => (X5_missed p1 p4 q5.2.2).bind (fun q6 => some (q6, q5.2.1, q5.2.2)))))))
set_option maxHeartbeats 4000000 in
set_option maxRecDepth 100000 in
theorem t_X5_slips {into : Option Nat} {L : mh_L} {I : mh_I} {p1 : Int32} {p2 : Int32} {p3 : Int32} {p4 : Int32} {res : Int32 × mh_I × mh_L} (h : X5_slips p1 p2 p3 p4 I L = some res) : mh_CT yX5_slips cX5_slips 5 (some .int) (mh_rm 6) (SHX into) I L [.ref 0, .int p1, .int p2, .int p3, .int p4] (mh_ret (some (.int res.1)) (SHX into) res.2.1 res.2.2) := by
  refine mh_ofW (ini := false) RX5 rfl (by decide) (fun h => by cases h) (Nat.le_of_ble_eq_true rfl) ?_
  show w_X5_slips (SHX into) (mh_ret (some (.int res.1)) (SHX into) res.2.1 res.2.2) I L 0 [(0, .ref 0), (1, .int p1), (2, .int p2), (3, .int p3), (4, .int p4)] []
  unfold X5_slips at h
  refine mw_iload_n dX5_slips_0 2 rfl ?_
  obtain ⟨q1, hq1, h⟩ := mh_bind h
  refine mw_sz (dc := 1) cs_X5_101 wd_329 dX5_slips_1 [.int p2] [.int p2] rfl rfl (t_X5_isLoop hq1) ⟨by decide, by decide⟩ (Nat.le_of_ble_eq_true rfl) ⟨rfl, rfl⟩ (fun zq1 => ?_)
  refine mw_if_ne (tgt := 10) dX5_slips_4 (by decide) (fun hc10 => ?_) (fun hc10 => ?_)
  · replace h := mh_ifn hc10 h
    refine mw_iload_n dX5_slips_10 1 rfl ?_
    refine mw_iconst (v := 0) dX5_slips_11 (by decide) ?_
    refine mw_ldc dX5_slips_12 wd_643 ?_
    obtain ⟨q2, hq2, h⟩ := mh_bind h
    refine mw_sz (dc := 0) cs_X5_97 wd_223 dX5_slips_14 [.int p1, .int (0 : Int32), .int (99999 : Int32)] [.int (99999 : Int32), .int (0 : Int32), .int p1] rfl rfl (t_X5_within hq2) ⟨by decide, by decide⟩ (Nat.le_of_ble_eq_true rfl) ⟨rfl, rfl⟩ (fun zq2 => ?_)
    refine mw_if_eq (tgt := 38) dX5_slips_17 (by decide) (fun hc9 => ?_) (fun hc9 => ?_)
    · replace h := mh_ifp hc9 h
      refine mw_bipush (v := -7) dX5_slips_38 (by decide) ?_
      obtain rfl := Option.some.inj h
      exact mw_iret dX5_slips_40 rfl rfl (Nat.le_of_ble_eq_true rfl) (Nat.le_refl 0) mh_ret_rfl
    · replace h := mh_ifn hc9 h
      refine mw_iload_n dX5_slips_20 3 rfl ?_
      obtain ⟨q3, hq3, h⟩ := mh_bind h
      refine mw_sz (dc := 1) cs_X5_104 wd_332 dX5_slips_21 [.int p3] [.int p3] rfl rfl (t_X5_isPull hq3) ⟨by decide, by decide⟩ (Nat.le_of_ble_eq_true rfl) ⟨rfl, rfl⟩ (fun zq3 => ?_)
      refine mw_if_eq (tgt := 38) dX5_slips_24 (by decide) (fun hc8 => ?_) (fun hc8 => ?_)
      · replace h := mh_ifp hc8 h
        refine mw_bipush (v := -7) dX5_slips_38 (by decide) ?_
        obtain rfl := Option.some.inj h
        exact mw_iret dX5_slips_40 rfl rfl (Nat.le_of_ble_eq_true rfl) (Nat.le_refl 0) mh_ret_rfl
      · replace h := mh_ifn hc8 h
        refine mw_iload dX5_slips_27 4 rfl ?_
        refine mw_iconst (v := 0) dX5_slips_29 (by decide) ?_
        refine mw_bipush (v := 100) dX5_slips_30 (by decide) ?_
        obtain ⟨q4, hq4, h⟩ := mh_bind h
        refine mw_sz (dc := 0) cs_X5_97 wd_223 dX5_slips_32 [.int p4, .int (0 : Int32), .int (100 : Int32)] [.int (100 : Int32), .int (0 : Int32), .int p4] rfl rfl (t_X5_within hq4) ⟨by decide, by decide⟩ (Nat.le_of_ble_eq_true rfl) ⟨rfl, rfl⟩ (fun zq4 => ?_)
        refine mw_if_ne (tgt := 41) dX5_slips_35 (by decide) (fun hc7 => ?_) (fun hc7 => ?_)
        · replace h := mh_ifn hc7 h
          refine mw_aload_n dX5_slips_41 0 rfl ?_
          refine mw_iload_n dX5_slips_42 2 rfl ?_
          refine mw_iload_n dX5_slips_43 3 rfl ?_
          obtain ⟨q5, hq5, h⟩ := mh_bind h
          refine mw_vr (dc := 5) (ci := 5) (fs := fsX5) (T := TX5) (N := 9) cv_X5_163 wd_457 dX5_slips_44 [.int p2, .int p3] [.int p3, .int p2, .ref 0] rfl rfl rfl rfl (t_X5_drop hq5) ⟨by decide, by decide⟩ (Nat.le_of_ble_eq_true rfl) ⟨rfl, rfl⟩ ?_
          refine mw_pop dX5_slips_47 rfl ?_
          refine mw_aload_n dX5_slips_48 0 rfl ?_
          refine mw_iload_n dX5_slips_49 1 rfl ?_
          refine mw_iload dX5_slips_50 4 rfl ?_
          obtain ⟨q6, hq6, h⟩ := mh_bind h
          refine mw_vr (dc := 1) (ci := 5) (fs := fsX5) (T := TX5) (N := 9) cv_X5_232 wd_647 dX5_slips_52 [.int p1, .int p4] [.int p4, .int p1, .ref 0] rfl rfl rfl rfl (t_X5_missed hq6) ⟨by decide, by decide⟩ (Nat.le_of_ble_eq_true rfl) ⟨rfl, rfl⟩ ?_
          obtain rfl := Option.some.inj h
          exact mw_iret dX5_slips_55 rfl rfl (Nat.le_of_ble_eq_true rfl) (Nat.le_refl 0) mh_ret_rfl
        · replace h := mh_ifp hc7 h
          refine mw_bipush (v := -7) dX5_slips_38 (by decide) ?_
          obtain rfl := Option.some.inj h
          exact mw_iret dX5_slips_40 rfl rfl (Nat.le_of_ble_eq_true rfl) (Nat.le_refl 0) mh_ret_rfl
  · replace h := mh_ifp hc10 h
    refine mw_bipush (v := -5) dX5_slips_7 (by decide) ?_
    obtain rfl := Option.some.inj h
    exact mw_iret dX5_slips_9 rfl rfl (Nat.le_of_ble_eq_true rfl) (Nat.le_refl 0) mh_ret_rfl
abbrev w_X5_odds (sh : List mh_C) (Φ : mh_P) (I : mh_I) (L : mh_L) (pc : Nat) (lv : List (Nat × Value)) (st : List Value) : Prop := mh_W RX5 cX5_odds 10 (some .long) false (mh_rm 6) 46 0 0 mh_noX Φ 0 sh I L pc lv st
def X5_odds_l78 (u1 : Int32) (u2 : Int32) (u5 : Int32) (L : mh_L) (k106 : (Int32 → Option (Int64 × mh_I × mh_L))) : Nat → Int32 → Int32 → Option (Int64 × mh_I × mh_L)
  | 0, _, _ => none
  | n + 1, u7, u8 => if u2 ≤ u8 then (k106 u7) else (X5_missed (u1 + u8) u5 L).bind (fun q8 => mh_j (fun (v9 : Int32) => mh_b (u8 + (1 : Int32)) (fun b13 => (X5_odds_l78 u1 u2 u5 L k106 n v9 b13))) (fun J10 => if q8 = 0 then mh_b (u7 + (1 : Int32)) (fun b11 => (J10 b11)) else (J10 u7)))
set_option maxHeartbeats 4000000 in
set_option maxRecDepth 100000 in
theorem t_X5_odds_l78 {into : Option Nat} {u1 : Int32} {u2 : Int32} {u5 : Int32} {u6 : Int32} {k106 : (Int32 → Option (Int64 × mh_I × mh_L))} {I : mh_I} {L : mh_L} {res : Int64 × mh_I × mh_L} (n : Nat) (u7 : Int32) (u8 : Int32) (h : X5_odds_l78 u1 u2 u5 L k106 n u7 u8 = some res) (hk106 : ∀ (u7 : Int32), k106 u7 = some res → w_X5_odds (SHX into) (mh_ret (some (.long res.1)) (SHX into) res.2.1 res.2.2) I L 106 [(2, .int u2), (6, .int u6), (7, .int u7)] []) : w_X5_odds (SHX into) (mh_ret (some (.long res.1)) (SHX into) res.2.1 res.2.2) I L 78 [(0, .ref 0), (1, .int u1), (2, .int u2), (5, .int u5), (6, .int u6), (7, .int u7), (8, .int u8)] [] := by
  induction n generalizing u7 u8 with
  | zero => rw [X5_odds_l78] at h; cases h
  | succ n ih =>
    rw [X5_odds_l78] at h
    refine mw_iload dX5_odds_78 6 rfl ?_
    refine mw_iload_n dX5_odds_80 2 rfl ?_
    refine mw_icmp_ge (tgt := 106) dX5_odds_81 (by decide) (fun hc14 => ?_) (fun hc14 => ?_)
    · replace h := mh_ifp hc14 h
      refine mw_loc [2, 4, 5] rfl ?_
      exact hk106 _ h
    · replace h := mh_ifn hc14 h
      refine mw_aload_n dX5_odds_84 0 rfl ?_
      refine mw_iload_n dX5_odds_85 1 rfl ?_
      refine mw_iload dX5_odds_86 6 rfl ?_
      refine mw_iadd dX5_odds_88 ?_
      refine mw_iload dX5_odds_89 3 rfl ?_
      obtain ⟨q8, hq8, h⟩ := mh_bind h
      refine mw_vr (dc := 1) (ci := 5) (fs := fsX5) (T := TX5) (N := 9) cv_X5_232 wd_647 dX5_odds_91 [.int (u1 + u8), .int u5] [.int u5, .int (u1 + u8), .ref 0] rfl rfl rfl rfl (t_X5_missed hq8) ⟨by decide, by decide⟩ (Nat.le_of_ble_eq_true rfl) ⟨rfl, rfl⟩ ?_
      refine mh_jw (fun J10 => ∀ (v9 : Int32), J10 v9 = some res → w_X5_odds (SHX into) (mh_ret (some (.long res.1)) (SHX into) res.2.1 res.2.2) I L 100 [(0, .ref 0), (1, .int u1), (2, .int u2), (5, .int u5), (6, .int u6), (7, .int v9), (8, .int u8)] []) h (fun v9 h => ?_) (fun J10 hJ10 h => ?_)
      · obtain ⟨b13, eb13, h⟩ := mh_b_some h
        refine mw_iinc (v := b13) dX5_odds_100 6 rfl (by rw [← eb13]; rfl) (by decide) rfl ?_
        refine mw_goto (tgt := 78) dX5_odds_103 (by decide) ?_
        refine mw_loc [1, 2, 3, 4, 5, 6, 0] rfl ?_
        exact ih _ _ h
      · refine mw_if_ne (tgt := 100) dX5_odds_94 (by decide) (fun hc12 => ?_) (fun hc12 => ?_)
        · replace h := mh_ifn hc12 h
          refine mw_loc [0, 1, 2, 3, 4, 5, 6] rfl ?_
          exact hJ10 _ h
        · replace h := mh_ifp hc12 h
          obtain ⟨b11, eb11, h⟩ := mh_b_some h
          refine mw_iinc (v := b11) dX5_odds_97 5 rfl (by rw [← eb11]; rfl) (by decide) rfl ?_
          refine mw_loc [1, 2, 3, 4, 5, 0, 6] rfl ?_
          exact hJ10 _ h
def X5_odds (p1 : Int32) (p2 : Int32) (p3 : Int32) (p4 : Int32) (p5 : Int32) (p6 : Int32) (I : mh_I) (L : mh_L) : Option (Int64 × mh_I × mh_L) := (X5_within p1 (0 : Int32) (99999 : Int32)).bind (fun q1 => if q1 = 0 then some ((-4611686018427387904 : Int64), I, L) else (X5_within p2 (1 : Int32) (50 : Int32)).bind (fun q2 => if q2 = 0 then some ((-4611686018427387904 : Int64), I, L) else (X5_isLoop p3).bind (fun q3 => if q3 = 0 then some ((-4611686018427387904 : Int64), I, L) else (X5_isPull p4).bind (fun q4 => if q4 = 0 then some ((-4611686018427387904 : Int64), I, L) else (X5_within p5 (0 : Int32) (100 : Int32)).bind (fun q5 => if q5 = 0 then some ((-4611686018427387904 : Int64), I, L) else (X5_within p6 (0 : Int32) (1 : Int32)).bind (fun q6 => if q6 = 0 then some ((-4611686018427387904 : Int64), I, L) else (X5_drop p3 p4 I L).bind (fun q7 => X5_odds_l78 p1 p2 p5 q7.2.2 (fun (v15 : Int32) => mh_j (fun (s16 : Int32) => (X5_commonDivisor v15 p2).bind (fun q19 => if q19 ≤ (1 : Int32) then some ((s16.toInt64), q7.2.1, q7.2.2) else mh_dv q19 (some (((s16 / q19).toInt64), q7.2.1, q7.2.2)))) (fun J17 => if p6 = 0 then (J17 v15) else (J17 p2))) mh_fuel (0 : Int32) (0 : Int32))))))))
set_option maxHeartbeats 4000000 in
set_option maxRecDepth 100000 in
theorem t_X5_odds {into : Option Nat} {L : mh_L} {I : mh_I} {p1 : Int32} {p2 : Int32} {p3 : Int32} {p4 : Int32} {p5 : Int32} {p6 : Int32} {res : Int64 × mh_I × mh_L} (h : X5_odds p1 p2 p3 p4 p5 p6 I L = some res) : mh_CT yX5_odds cX5_odds 10 (some .long) (mh_rm 6) (SHX into) I L [.ref 0, .int p1, .int p2, .int p3, .int p4, .int p5, .int p6] (mh_ret (some (.long res.1)) (SHX into) res.2.1 res.2.2) := by
  refine mh_ofW (ini := false) RX5 rfl (by decide) (fun h => by cases h) (Nat.le_of_ble_eq_true rfl) ?_
  show w_X5_odds (SHX into) (mh_ret (some (.long res.1)) (SHX into) res.2.1 res.2.2) I L 0 [(0, .ref 0), (1, .int p1), (2, .int p2), (3, .int p3), (4, .int p4), (5, .int p5), (6, .int p6)] []
  unfold X5_odds at h
  refine mw_iload_n dX5_odds_0 1 rfl ?_
  refine mw_iconst (v := 0) dX5_odds_1 (by decide) ?_
  refine mw_ldc dX5_odds_2 wd_643 ?_
  obtain ⟨q1, hq1, h⟩ := mh_bind h
  refine mw_sz (dc := 0) cs_X5_97 wd_223 dX5_odds_4 [.int p1, .int (0 : Int32), .int (99999 : Int32)] [.int (99999 : Int32), .int (0 : Int32), .int p1] rfl rfl (t_X5_within hq1) ⟨by decide, by decide⟩ (Nat.le_of_ble_eq_true rfl) ⟨rfl, rfl⟩ (fun zq1 => ?_)
  refine mw_if_eq (tgt := 27) dX5_odds_7 (by decide) (fun hc27 => ?_) (fun hc27 => ?_)
  · replace h := mh_ifp hc27 h
    refine mw_ldc2 dX5_odds_27 wd_418 ?_
    obtain rfl := Option.some.inj h
    exact mw_lret dX5_odds_30 rfl (Nat.le_of_ble_eq_true rfl) (Nat.le_refl 0) mh_ret_rfl
  · replace h := mh_ifn hc27 h
    refine mw_iload_n dX5_odds_10 2 rfl ?_
    refine mw_iconst (v := 1) dX5_odds_11 (by decide) ?_
    refine mw_bipush (v := 50) dX5_odds_12 (by decide) ?_
    obtain ⟨q2, hq2, h⟩ := mh_bind h
    refine mw_sz (dc := 0) cs_X5_97 wd_223 dX5_odds_14 [.int p2, .int (1 : Int32), .int (50 : Int32)] [.int (50 : Int32), .int (1 : Int32), .int p2] rfl rfl (t_X5_within hq2) ⟨by decide, by decide⟩ (Nat.le_of_ble_eq_true rfl) ⟨rfl, rfl⟩ (fun zq2 => ?_)
    refine mw_if_eq (tgt := 27) dX5_odds_17 (by decide) (fun hc26 => ?_) (fun hc26 => ?_)
    · replace h := mh_ifp hc26 h
      refine mw_ldc2 dX5_odds_27 wd_418 ?_
      obtain rfl := Option.some.inj h
      exact mw_lret dX5_odds_30 rfl (Nat.le_of_ble_eq_true rfl) (Nat.le_refl 0) mh_ret_rfl
    · replace h := mh_ifn hc26 h
      refine mw_iload_n dX5_odds_20 3 rfl ?_
      obtain ⟨q3, hq3, h⟩ := mh_bind h
      refine mw_sz (dc := 1) cs_X5_101 wd_329 dX5_odds_21 [.int p3] [.int p3] rfl rfl (t_X5_isLoop hq3) ⟨by decide, by decide⟩ (Nat.le_of_ble_eq_true rfl) ⟨rfl, rfl⟩ (fun zq3 => ?_)
      refine mw_if_ne (tgt := 31) dX5_odds_24 (by decide) (fun hc25 => ?_) (fun hc25 => ?_)
      · replace h := mh_ifn hc25 h
        refine mw_iload dX5_odds_31 4 rfl ?_
        obtain ⟨q4, hq4, h⟩ := mh_bind h
        refine mw_sz (dc := 1) cs_X5_104 wd_332 dX5_odds_33 [.int p4] [.int p4] rfl rfl (t_X5_isPull hq4) ⟨by decide, by decide⟩ (Nat.le_of_ble_eq_true rfl) ⟨rfl, rfl⟩ (fun zq4 => ?_)
        refine mw_if_eq (tgt := 60) dX5_odds_36 (by decide) (fun hc24 => ?_) (fun hc24 => ?_)
        · replace h := mh_ifp hc24 h
          refine mw_ldc2 dX5_odds_60 wd_418 ?_
          obtain rfl := Option.some.inj h
          exact mw_lret dX5_odds_63 rfl (Nat.le_of_ble_eq_true rfl) (Nat.le_refl 0) mh_ret_rfl
        · replace h := mh_ifn hc24 h
          refine mw_iload dX5_odds_39 5 rfl ?_
          refine mw_iconst (v := 0) dX5_odds_41 (by decide) ?_
          refine mw_bipush (v := 100) dX5_odds_42 (by decide) ?_
          obtain ⟨q5, hq5, h⟩ := mh_bind h
          refine mw_sz (dc := 0) cs_X5_97 wd_223 dX5_odds_44 [.int p5, .int (0 : Int32), .int (100 : Int32)] [.int (100 : Int32), .int (0 : Int32), .int p5] rfl rfl (t_X5_within hq5) ⟨by decide, by decide⟩ (Nat.le_of_ble_eq_true rfl) ⟨rfl, rfl⟩ (fun zq5 => ?_)
          refine mw_if_eq (tgt := 60) dX5_odds_47 (by decide) (fun hc23 => ?_) (fun hc23 => ?_)
          · replace h := mh_ifp hc23 h
            refine mw_ldc2 dX5_odds_60 wd_418 ?_
            obtain rfl := Option.some.inj h
            exact mw_lret dX5_odds_63 rfl (Nat.le_of_ble_eq_true rfl) (Nat.le_refl 0) mh_ret_rfl
          · replace h := mh_ifn hc23 h
            refine mw_iload dX5_odds_50 6 rfl ?_
            refine mw_iconst (v := 0) dX5_odds_52 (by decide) ?_
            refine mw_iconst (v := 1) dX5_odds_53 (by decide) ?_
            obtain ⟨q6, hq6, h⟩ := mh_bind h
            refine mw_sz (dc := 0) cs_X5_97 wd_223 dX5_odds_54 [.int p6, .int (0 : Int32), .int (1 : Int32)] [.int (1 : Int32), .int (0 : Int32), .int p6] rfl rfl (t_X5_within hq6) ⟨by decide, by decide⟩ (Nat.le_of_ble_eq_true rfl) ⟨rfl, rfl⟩ (fun zq6 => ?_)
            refine mw_if_ne (tgt := 64) dX5_odds_57 (by decide) (fun hc22 => ?_) (fun hc22 => ?_)
            · replace h := mh_ifn hc22 h
              refine mw_aload_n dX5_odds_64 0 rfl ?_
              refine mw_iload_n dX5_odds_65 3 rfl ?_
              refine mw_iload dX5_odds_66 4 rfl ?_
              obtain ⟨q7, hq7, h⟩ := mh_bind h
              refine mw_vr (dc := 5) (ci := 5) (fs := fsX5) (T := TX5) (N := 9) cv_X5_163 wd_457 dX5_odds_68 [.int p3, .int p4] [.int p4, .int p3, .ref 0] rfl rfl rfl rfl (t_X5_drop hq7) ⟨by decide, by decide⟩ (Nat.le_of_ble_eq_true rfl) ⟨rfl, rfl⟩ ?_
              refine mw_pop dX5_odds_71 rfl ?_
              refine mw_iconst (v := 0) dX5_odds_72 (by decide) ?_
              refine mw_istore dX5_odds_73 (by decide) rfl ?_
              refine mw_iconst (v := 0) dX5_odds_75 (by decide) ?_
              refine mw_istore dX5_odds_76 (by decide) rfl ?_
              refine mw_loc [2, 3, 4, 7, 8, 1, 0] rfl ?_
              refine t_X5_odds_l78  _ _ _ h (fun v15 h => ?_)
              refine mw_iload dX5_odds_106 1 rfl ?_
              refine mh_jw (fun J17 => ∀ (s16 : Int32), J17 s16 = some res → w_X5_odds (SHX into) (mh_ret (some (.long res.1)) (SHX into) res.2.1 res.2.2) q7.2.1 q7.2.2 117 [(2, .int p2), (7, .int v15)] [.int s16]) h (fun s16 h => ?_) (fun J17 hJ17 h => ?_)
              · refine mw_istore dX5_odds_117 (by decide) rfl ?_
                refine mw_iload dX5_odds_119 2 rfl ?_
                refine mw_iload_n dX5_odds_121 1 rfl ?_
                obtain ⟨q19, hq19, h⟩ := mh_bind h
                refine mw_sr (dc := 0) cs_X5_235 wd_657 dX5_odds_122 [.int v15, .int p2] [.int p2, .int v15] rfl rfl (t_X5_commonDivisor hq19) ⟨by decide, by decide⟩ (Nat.le_of_ble_eq_true rfl) ⟨rfl, rfl⟩ ?_
                refine mw_istore dX5_odds_125 (by decide) rfl ?_
                refine mw_iload dX5_odds_127 0 rfl ?_
                refine mw_iconst (v := 1) dX5_odds_129 (by decide) ?_
                refine mw_icmp_le (tgt := 142) dX5_odds_130 (by decide) (fun hc21 => ?_) (fun hc21 => ?_)
                · replace h := mh_ifp hc21 h
                  refine mw_iload dX5_odds_142 1 rfl ?_
                  refine mw_i2l dX5_odds_144 ?_
                  obtain rfl := Option.some.inj h
                  exact mw_lret dX5_odds_145 rfl (Nat.le_of_ble_eq_true rfl) (Nat.le_refl 0) mh_ret_rfl
                · replace h := mh_ifn hc21 h
                  refine mw_iload dX5_odds_133 1 rfl ?_
                  refine mw_iload dX5_odds_135 0 rfl ?_
                  obtain ⟨hn20, h⟩ := mh_dv_some h
                  refine mw_idiv dX5_odds_137 hn20 ?_
                  refine mw_i2l dX5_odds_138 ?_
                  refine mw_goto (tgt := 145) dX5_odds_139 (by decide) ?_
                  obtain rfl := Option.some.inj h
                  exact mw_lret dX5_odds_145 rfl (Nat.le_of_ble_eq_true rfl) (Nat.le_refl 0) mh_ret_rfl
              · refine mw_if_ne (tgt := 116) dX5_odds_108 (by decide) (fun hc18 => ?_) (fun hc18 => ?_)
                · replace h := mh_ifn hc18 h
                  refine mw_iload_n dX5_odds_116 0 rfl ?_
                  refine mw_loc [0, 2] rfl ?_
                  exact hJ17 _ h
                · replace h := mh_ifp hc18 h
                  refine mw_iload dX5_odds_111 2 rfl ?_
                  refine mw_goto (tgt := 117) dX5_odds_113 (by decide) ?_
                  refine mw_loc [0, 2] rfl ?_
                  exact hJ17 _ h
            · replace h := mh_ifp hc22 h
              refine mw_ldc2 dX5_odds_60 wd_418 ?_
              obtain rfl := Option.some.inj h
              exact mw_lret dX5_odds_63 rfl (Nat.le_of_ble_eq_true rfl) (Nat.le_refl 0) mh_ret_rfl
      · replace h := mh_ifp hc25 h
        refine mw_ldc2 dX5_odds_27 wd_418 ?_
        obtain rfl := Option.some.inj h
        exact mw_lret dX5_odds_30 rfl (Nat.le_of_ble_eq_true rfl) (Nat.le_refl 0) mh_ret_rfl
abbrev w_X5_image (sh : List mh_C) (Φ : mh_P) (I : mh_I) (L : mh_L) (pc : Nat) (lv : List (Nat × Value)) (st : List Value) : Prop := mh_W RX5 cX5_image 1 (some .int) false (mh_rm 2) 46 0 0 mh_noX Φ 0 sh I L pc lv st
def X5_image (I : mh_I) (L : mh_L) : Option (Int32 × mh_I × mh_L) := (X1_takeFrom 4 1 I L).bind (fun q1 => (J13_bitCount_95d88 (q1.2 1 2)).bind (fun q2 => some (q2, (mh_u q1.1 0 2 (1 : Int32)), q1.2)))
set_option maxHeartbeats 4000000 in
set_option maxRecDepth 100000 in
theorem t_X5_image {into : Option Nat} {L : mh_L} {I : mh_I} {res : Int32 × mh_I × mh_L} (h : X5_image I L = some res) : mh_CT yX5_image cX5_image 1 (some .int) (mh_rm 2) (SHX into) I L [.ref 0] (mh_ret (some (.int res.1)) (SHX into) res.2.1 res.2.2) := by
  refine mh_ofW (ini := false) RX5 rfl (by decide) (fun h => by cases h) (Nat.le_of_ble_eq_true rfl) ?_
  show w_X5_image (SHX into) (mh_ret (some (.int res.1)) (SHX into) res.2.1 res.2.2) I L 0 [(0, .ref 0)] []
  unfold X5_image at h
  refine mw_aload_n dX5_image_0 0 rfl ?_
  refine mw_getr (b := 4) (fs := fsX5) gf_X5_16 dX5_image_1 rfl rfl ?_
  refine mw_aload_n dX5_image_4 0 rfl ?_
  refine mw_getr (b := 1) (fs := fsX5) gf_X5_10 dX5_image_5 rfl rfl ?_
  obtain ⟨q1, hq1, h⟩ := mh_bind h
  refine mw_vv (dc := 1) (ci := 1) (fs := (fsX1 4)) (T := TX1) (N := 5) cv_X5_238 wd_665 dX5_image_8 [.ref 1] [.ref 1, .ref 4] rfl rfl (sx_kept into).1 rfl (t_X1_takeFrom (sx_kept into) (sx_piece into) hq1) ⟨by decide, by decide⟩ (Nat.le_of_ble_eq_true rfl) ⟨rfl, rfl⟩ ?_
  refine mw_aload_n dX5_image_11 0 rfl ?_
  refine mw_iconst (v := 1) dX5_image_12 (by decide) ?_
  refine mw_puti (fs := fsX5) pf_X5_242 (fun h => by cases h) rfl rfl dX5_image_13 rfl rfl ?_
  refine mw_aload_n dX5_image_16 0 rfl ?_
  refine mw_getr (b := 1) (fs := fsX5) gf_X5_10 dX5_image_17 rfl rfl ?_
  refine mw_getl (fs := (fsX1 1)) gf_X5_70 dX5_image_20 (sx_piece into).1 rfl ?_
  obtain ⟨q2, hq2, h⟩ := mh_bind h
  refine mw_sr (dc := 0) cs_X5_74 wd_303 dX5_image_23 [.long (q1.2 1 2)] [.long (q1.2 1 2)] rfl rfl (t_J13_bitCount_95d88 hq2) ⟨by decide, by decide⟩ (Nat.le_of_ble_eq_true rfl) ⟨rfl, rfl⟩ ?_
  obtain rfl := Option.some.inj h
  exact mw_iret dX5_image_26 rfl rfl (Nat.le_of_ble_eq_true rfl) (Nat.le_refl 0) mh_ret_rfl
abbrev w_X5_restore (sh : List mh_C) (Φ : mh_P) (I : mh_I) (L : mh_L) (pc : Nat) (lv : List (Nat × Value)) (st : List Value) : Prop := mh_W RX5 cX5_restore 1 (some .int) false (mh_rm 2) 46 0 0 mh_noX Φ 0 sh I L pc lv st
def X5_restore (I : mh_I) (L : mh_L) : Option (Int32 × mh_I × mh_L) := if (I 0 2) = 0 then some ((-3 : Int32), I, L) else (X1_takeFrom 1 4 I L).bind (fun q1 => (J13_bitCount_95d88 (q1.2 1 2)).bind (fun q2 => some (q2, q1.1, q1.2)))
set_option maxHeartbeats 4000000 in
set_option maxRecDepth 100000 in
theorem t_X5_restore {into : Option Nat} {L : mh_L} {I : mh_I} {res : Int32 × mh_I × mh_L} (h : X5_restore I L = some res) : mh_CT yX5_restore cX5_restore 1 (some .int) (mh_rm 2) (SHX into) I L [.ref 0] (mh_ret (some (.int res.1)) (SHX into) res.2.1 res.2.2) := by
  refine mh_ofW (ini := false) RX5 rfl (by decide) (fun h => by cases h) (Nat.le_of_ble_eq_true rfl) ?_
  show w_X5_restore (SHX into) (mh_ret (some (.int res.1)) (SHX into) res.2.1 res.2.2) I L 0 [(0, .ref 0)] []
  unfold X5_restore at h
  refine mw_aload_n dX5_restore_0 0 rfl ?_
  refine mw_geti (fs := fsX5) gf_X5_242 dX5_restore_1 rfl rfl ?_
  refine mw_if_ne (tgt := 10) dX5_restore_4 (by decide) (fun hc3 => ?_) (fun hc3 => ?_)
  · replace h := mh_ifn hc3 h
    refine mw_aload_n dX5_restore_10 0 rfl ?_
    refine mw_getr (b := 1) (fs := fsX5) gf_X5_10 dX5_restore_11 rfl rfl ?_
    refine mw_aload_n dX5_restore_14 0 rfl ?_
    refine mw_getr (b := 4) (fs := fsX5) gf_X5_16 dX5_restore_15 rfl rfl ?_
    obtain ⟨q1, hq1, h⟩ := mh_bind h
    refine mw_vv (dc := 1) (ci := 1) (fs := (fsX1 1)) (T := TX1) (N := 5) cv_X5_238 wd_665 dX5_restore_18 [.ref 4] [.ref 4, .ref 1] rfl rfl (sx_piece into).1 rfl (t_X1_takeFrom (sx_piece into) (sx_kept into) hq1) ⟨by decide, by decide⟩ (Nat.le_of_ble_eq_true rfl) ⟨rfl, rfl⟩ ?_
    refine mw_aload_n dX5_restore_21 0 rfl ?_
    refine mw_getr (b := 1) (fs := fsX5) gf_X5_10 dX5_restore_22 rfl rfl ?_
    refine mw_getl (fs := (fsX1 1)) gf_X5_70 dX5_restore_25 (sx_piece into).1 rfl ?_
    obtain ⟨q2, hq2, h⟩ := mh_bind h
    refine mw_sr (dc := 0) cs_X5_74 wd_303 dX5_restore_28 [.long (q1.2 1 2)] [.long (q1.2 1 2)] rfl rfl (t_J13_bitCount_95d88 hq2) ⟨by decide, by decide⟩ (Nat.le_of_ble_eq_true rfl) ⟨rfl, rfl⟩ ?_
    obtain rfl := Option.some.inj h
    exact mw_iret dX5_restore_31 rfl rfl (Nat.le_of_ble_eq_true rfl) (Nat.le_refl 0) mh_ret_rfl
  · replace h := mh_ifp hc3 h
    refine mw_bipush (v := -3) dX5_restore_7 (by decide) ?_
    obtain rfl := Option.some.inj h
    exact mw_iret dX5_restore_9 rfl rfl (Nat.le_of_ble_eq_true rfl) (Nat.le_refl 0) mh_ret_rfl
abbrev w_X5_sheet (sh : List mh_C) (Φ : mh_P) (I : mh_I) (L : mh_L) (pc : Nat) (lv : List (Nat × Value)) (st : List Value) : Prop := mh_W RX5 cX5_sheet 4 (some .int) false (mh_rm 2) 46 0 0 mh_noX Φ 0 sh I L pc lv st
def X5_sheet (p1 : Int32) (p2 : Int32) (p3 : Int32) (I : mh_I) : Option (Int32 × mh_I) := (X5_isSheet p1).bind (fun q1 => if q1 = 0 then some ((-2 : Int32), I) else (X5_within p2 (-1 : Int32) (2 : Int32)).bind (fun q2 => if q2 = 0 then some ((-2 : Int32), I) else if p2 = (-1 : Int32) then mh_ix p1 4 (fun k8 => (X2_become (38 + 2 * k8) (-1 : Int32) (0 : Int32) I).bind (fun q10 => some ((1 : Int32), q10))) else if p3 ≤ (48 : Int32) then if 0 ≤ p3 then mh_ix p1 4 (fun k3 => (X2_become (38 + 2 * k3) p2 p3 I).bind (fun q5 => some ((1 : Int32), q5))) else some ((-14 : Int32), I) else some ((-2 : Int32), I)))
set_option maxHeartbeats 4000000 in
set_option maxRecDepth 100000 in
theorem t_X5_sheet {into : Option Nat} {L : mh_L} {I : mh_I} {p1 : Int32} {p2 : Int32} {p3 : Int32} {res : Int32 × mh_I} (h : X5_sheet p1 p2 p3 I = some res) : mh_CT yX5_sheet cX5_sheet 4 (some .int) (mh_rm 2) (SHX into) I L [.ref 0, .int p1, .int p2, .int p3] (mh_ret (some (.int res.1)) (SHX into) res.2 L) := by
  refine mh_ofW (ini := false) RX5 rfl (by decide) (fun h => by cases h) (Nat.le_of_ble_eq_true rfl) ?_
  show w_X5_sheet (SHX into) (mh_ret (some (.int res.1)) (SHX into) res.2 L) I L 0 [(0, .ref 0), (1, .int p1), (2, .int p2), (3, .int p3)] []
  unfold X5_sheet at h
  refine mw_iload_n dX5_sheet_0 1 rfl ?_
  obtain ⟨q1, hq1, h⟩ := mh_bind h
  refine mw_sz (dc := 1) cs_X5_222 wd_560 dX5_sheet_1 [.int p1] [.int p1] rfl rfl (t_X5_isSheet hq1) ⟨by decide, by decide⟩ (Nat.le_of_ble_eq_true rfl) ⟨rfl, rfl⟩ (fun zq1 => ?_)
  refine mw_if_eq (tgt := 16) dX5_sheet_4 (by decide) (fun hc13 => ?_) (fun hc13 => ?_)
  · replace h := mh_ifp hc13 h
    refine mw_bipush (v := -2) dX5_sheet_16 (by decide) ?_
    obtain rfl := Option.some.inj h
    exact mw_iret dX5_sheet_18 rfl rfl (Nat.le_of_ble_eq_true rfl) (Nat.le_refl 0) mh_ret_rfl
  · replace h := mh_ifn hc13 h
    refine mw_iload_n dX5_sheet_7 2 rfl ?_
    refine mw_iconst (v := -1) dX5_sheet_8 (by decide) ?_
    refine mw_iconst (v := 2) dX5_sheet_9 (by decide) ?_
    obtain ⟨q2, hq2, h⟩ := mh_bind h
    refine mw_sz (dc := 0) cs_X5_97 wd_223 dX5_sheet_10 [.int p2, .int (-1 : Int32), .int (2 : Int32)] [.int (2 : Int32), .int (-1 : Int32), .int p2] rfl rfl (t_X5_within hq2) ⟨by decide, by decide⟩ (Nat.le_of_ble_eq_true rfl) ⟨rfl, rfl⟩ (fun zq2 => ?_)
    refine mw_if_ne (tgt := 19) dX5_sheet_13 (by decide) (fun hc12 => ?_) (fun hc12 => ?_)
    · replace h := mh_ifn hc12 h
      refine mw_iload_n dX5_sheet_19 2 rfl ?_
      refine mw_iconst (v := -1) dX5_sheet_20 (by decide) ?_
      refine mw_icmp_ne (tgt := 37) dX5_sheet_21 (by decide) (fun hc11 => ?_) (fun hc11 => ?_)
      · replace h := mh_ifn hc11 h
        refine mw_iload_n dX5_sheet_37 3 rfl ?_
        refine mw_bipush (v := 48) dX5_sheet_38 (by decide) ?_
        refine mw_icmp_le (tgt := 46) dX5_sheet_40 (by decide) (fun hc7 => ?_) (fun hc7 => ?_)
        · replace h := mh_ifp hc7 h
          refine mw_iload_n dX5_sheet_46 3 rfl ?_
          refine mw_if_ge (tgt := 53) dX5_sheet_47 (by decide) (fun hc6 => ?_) (fun hc6 => ?_)
          · replace h := mh_ifp hc6 h
            refine mw_aload_n dX5_sheet_53 0 rfl ?_
            refine mw_getr (b := 12) (fs := fsX5) gf_X5_41 dX5_sheet_54 rfl rfl ?_
            refine mw_iload_n dX5_sheet_57 1 rfl ?_
            obtain ⟨k3, hk4, hk4n, hk4l, h⟩ := mh_ix_some h
            refine mw_xaald (t := 0) dX5_sheet_58 rfl hk4 hk4n (sx_rS hk4l) ?_
            refine mw_iload_n dX5_sheet_59 2 rfl ?_
            refine mw_iload_n dX5_sheet_60 3 rfl ?_
            obtain ⟨q5, hq5, h⟩ := mh_bind h
            refine mw_vv (dc := 0) (ci := 2) (fs := (fsX2 (38 + 2 * k3))) (T := TX2) (N := 3) cv_X5_225 wd_634 dX5_sheet_61 [.int p2, .int p3] [.int p3, .int p2, .ref (38 + 2 * k3)] rfl rfl (sx_sheet into hk4l).1 rfl (t_X2_become (sx_sheet into hk4l) hq5) ⟨by decide, by decide⟩ (Nat.le_of_ble_eq_true rfl) ⟨rfl, rfl⟩ ?_
            refine mw_iconst (v := 1) dX5_sheet_64 (by decide) ?_
            obtain rfl := Option.some.inj h
            exact mw_iret dX5_sheet_65 rfl rfl (Nat.le_of_ble_eq_true rfl) (Nat.le_refl 0) mh_ret_rfl
          · replace h := mh_ifn hc6 h
            refine mw_bipush (v := -14) dX5_sheet_50 (by decide) ?_
            obtain rfl := Option.some.inj h
            exact mw_iret dX5_sheet_52 rfl rfl (Nat.le_of_ble_eq_true rfl) (Nat.le_refl 0) mh_ret_rfl
        · replace h := mh_ifn hc7 h
          refine mw_bipush (v := -2) dX5_sheet_43 (by decide) ?_
          obtain rfl := Option.some.inj h
          exact mw_iret dX5_sheet_45 rfl rfl (Nat.le_of_ble_eq_true rfl) (Nat.le_refl 0) mh_ret_rfl
      · replace h := mh_ifp hc11 h
        refine mw_aload_n dX5_sheet_24 0 rfl ?_
        refine mw_getr (b := 12) (fs := fsX5) gf_X5_41 dX5_sheet_25 rfl rfl ?_
        refine mw_iload_n dX5_sheet_28 1 rfl ?_
        obtain ⟨k8, hk9, hk9n, hk9l, h⟩ := mh_ix_some h
        refine mw_xaald (t := 0) dX5_sheet_29 rfl hk9 hk9n (sx_rS hk9l) ?_
        refine mw_iconst (v := -1) dX5_sheet_30 (by decide) ?_
        refine mw_iconst (v := 0) dX5_sheet_31 (by decide) ?_
        obtain ⟨q10, hq10, h⟩ := mh_bind h
        refine mw_vv (dc := 0) (ci := 2) (fs := (fsX2 (38 + 2 * k8))) (T := TX2) (N := 3) cv_X5_225 wd_634 dX5_sheet_32 [.int (-1 : Int32), .int (0 : Int32)] [.int (0 : Int32), .int (-1 : Int32), .ref (38 + 2 * k8)] rfl rfl (sx_sheet into hk9l).1 rfl (t_X2_become (sx_sheet into hk9l) hq10) ⟨by decide, by decide⟩ (Nat.le_of_ble_eq_true rfl) ⟨rfl, rfl⟩ ?_
        refine mw_iconst (v := 1) dX5_sheet_35 (by decide) ?_
        obtain rfl := Option.some.inj h
        exact mw_iret dX5_sheet_36 rfl rfl (Nat.le_of_ble_eq_true rfl) (Nat.le_refl 0) mh_ret_rfl
    · replace h := mh_ifp hc12 h
      refine mw_bipush (v := -2) dX5_sheet_16 (by decide) ?_
      obtain rfl := Option.some.inj h
      exact mw_iret dX5_sheet_18 rfl rfl (Nat.le_of_ble_eq_true rfl) (Nat.le_refl 0) mh_ret_rfl
abbrev w_X5_cell (sh : List mh_C) (Φ : mh_P) (I : mh_I) (L : mh_L) (pc : Nat) (lv : List (Nat × Value)) (st : List Value) : Prop := mh_W RX5 cX5_cell 4 (some .int) false (mh_rm 2) 46 0 0 mh_noX Φ 0 sh I L pc lv st
def X5_cell (p1 : Int32) (p2 : Int32) (p3 : Int32) (I : mh_I) : Option (Int32 × mh_I) := (X5_isSheet p1).bind (fun q1 => if q1 = 0 then some ((-2 : Int32), I) else mh_ix p1 4 (fun k2 => (X2_isMissing (38 + 2 * k2) I).bind (fun q4 => if q4 = 0 then mh_ix p1 4 (fun k5 => (X5_within p2 (0 : Int32) ((I (38 + 2 * k5) 2) - (1 : Int32))).bind (fun q7 => if q7 = 0 then some ((-12 : Int32), I) else mh_ix p1 4 (fun k8 => (X2_put (38 + 2 * k8) p2 p3 I).bind (fun q10 => some ((1 : Int32), q10))))) else some ((-11 : Int32), I))))
set_option maxHeartbeats 4000000 in
set_option maxRecDepth 100000 in
theorem t_X5_cell {into : Option Nat} {L : mh_L} {I : mh_I} {p1 : Int32} {p2 : Int32} {p3 : Int32} {res : Int32 × mh_I} (h : X5_cell p1 p2 p3 I = some res) : mh_CT yX5_cell cX5_cell 4 (some .int) (mh_rm 2) (SHX into) I L [.ref 0, .int p1, .int p2, .int p3] (mh_ret (some (.int res.1)) (SHX into) res.2 L) := by
  refine mh_ofW (ini := false) RX5 rfl (by decide) (fun h => by cases h) (Nat.le_of_ble_eq_true rfl) ?_
  show w_X5_cell (SHX into) (mh_ret (some (.int res.1)) (SHX into) res.2 L) I L 0 [(0, .ref 0), (1, .int p1), (2, .int p2), (3, .int p3)] []
  unfold X5_cell at h
  refine mw_iload_n dX5_cell_0 1 rfl ?_
  obtain ⟨q1, hq1, h⟩ := mh_bind h
  refine mw_sz (dc := 1) cs_X5_222 wd_560 dX5_cell_1 [.int p1] [.int p1] rfl rfl (t_X5_isSheet hq1) ⟨by decide, by decide⟩ (Nat.le_of_ble_eq_true rfl) ⟨rfl, rfl⟩ (fun zq1 => ?_)
  refine mw_if_ne (tgt := 10) dX5_cell_4 (by decide) (fun hc13 => ?_) (fun hc13 => ?_)
  · replace h := mh_ifn hc13 h
    refine mw_aload_n dX5_cell_10 0 rfl ?_
    refine mw_getr (b := 12) (fs := fsX5) gf_X5_41 dX5_cell_11 rfl rfl ?_
    refine mw_iload_n dX5_cell_14 1 rfl ?_
    obtain ⟨k2, hk3, hk3n, hk3l, h⟩ := mh_ix_some h
    refine mw_xaald (t := 0) dX5_cell_15 rfl hk3 hk3n (sx_rS hk3l) ?_
    obtain ⟨q4, hq4, h⟩ := mh_bind h
    refine mw_vz (dc := 0) (ci := 2) (fs := (fsX2 (38 + 2 * k2))) (T := TX2) (N := 3) cv_X5_246 wd_564 dX5_cell_16 [] [.ref (38 + 2 * k2)] rfl rfl (sx_sheet into hk3l).1 rfl (t_X2_isMissing (sx_sheet into hk3l) hq4) ⟨by decide, by decide⟩ (Nat.le_of_ble_eq_true rfl) ⟨rfl, rfl⟩ (fun zq4 => ?_)
    refine mw_if_eq (tgt := 25) dX5_cell_19 (by decide) (fun hc12 => ?_) (fun hc12 => ?_)
    · replace h := mh_ifp hc12 h
      refine mw_iload_n dX5_cell_25 2 rfl ?_
      refine mw_iconst (v := 0) dX5_cell_26 (by decide) ?_
      refine mw_aload_n dX5_cell_27 0 rfl ?_
      refine mw_getr (b := 12) (fs := fsX5) gf_X5_41 dX5_cell_28 rfl rfl ?_
      refine mw_iload_n dX5_cell_31 1 rfl ?_
      obtain ⟨k5, hk6, hk6n, hk6l, h⟩ := mh_ix_some h
      refine mw_xaald (t := 0) dX5_cell_32 rfl hk6 hk6n (sx_rS hk6l) ?_
      refine mw_geti (fs := (fsX2 (38 + 2 * k5))) gf_X5_250 dX5_cell_33 (sx_sheet into hk6l).1 rfl ?_
      refine mw_iconst (v := 1) dX5_cell_36 (by decide) ?_
      refine mw_isub dX5_cell_37 ?_
      obtain ⟨q7, hq7, h⟩ := mh_bind h
      refine mw_sz (dc := 0) cs_X5_97 wd_223 dX5_cell_38 [.int p2, .int (0 : Int32), .int ((I (38 + 2 * k5) 2) - (1 : Int32))] [.int ((I (38 + 2 * k5) 2) - (1 : Int32)), .int (0 : Int32), .int p2] rfl rfl (t_X5_within hq7) ⟨by decide, by decide⟩ (Nat.le_of_ble_eq_true rfl) ⟨rfl, rfl⟩ (fun zq7 => ?_)
      refine mw_if_ne (tgt := 47) dX5_cell_41 (by decide) (fun hc11 => ?_) (fun hc11 => ?_)
      · replace h := mh_ifn hc11 h
        refine mw_aload_n dX5_cell_47 0 rfl ?_
        refine mw_getr (b := 12) (fs := fsX5) gf_X5_41 dX5_cell_48 rfl rfl ?_
        refine mw_iload_n dX5_cell_51 1 rfl ?_
        obtain ⟨k8, hk9, hk9n, hk9l, h⟩ := mh_ix_some h
        refine mw_xaald (t := 0) dX5_cell_52 rfl hk9 hk9n (sx_rS hk9l) ?_
        refine mw_iload_n dX5_cell_53 2 rfl ?_
        refine mw_iload_n dX5_cell_54 3 rfl ?_
        obtain ⟨q10, hq10, h⟩ := mh_bind h
        refine mw_vv (dc := 0) (ci := 2) (fs := (fsX2 (38 + 2 * k8))) (T := TX2) (N := 3) cv_X5_228 wd_638 dX5_cell_55 [.int p2, .int p3] [.int p3, .int p2, .ref (38 + 2 * k8)] rfl rfl (sx_sheet into hk9l).1 rfl (t_X2_put (sx_sheet into hk9l) hq10) ⟨by decide, by decide⟩ (Nat.le_of_ble_eq_true rfl) ⟨rfl, rfl⟩ ?_
        refine mw_iconst (v := 1) dX5_cell_58 (by decide) ?_
        obtain rfl := Option.some.inj h
        exact mw_iret dX5_cell_59 rfl rfl (Nat.le_of_ble_eq_true rfl) (Nat.le_refl 0) mh_ret_rfl
      · replace h := mh_ifp hc11 h
        refine mw_bipush (v := -12) dX5_cell_44 (by decide) ?_
        obtain rfl := Option.some.inj h
        exact mw_iret dX5_cell_46 rfl rfl (Nat.le_of_ble_eq_true rfl) (Nat.le_refl 0) mh_ret_rfl
    · replace h := mh_ifn hc12 h
      refine mw_bipush (v := -11) dX5_cell_22 (by decide) ?_
      obtain rfl := Option.some.inj h
      exact mw_iret dX5_cell_24 rfl rfl (Nat.le_of_ble_eq_true rfl) (Nat.le_refl 0) mh_ret_rfl
  · replace h := mh_ifp hc13 h
    refine mw_bipush (v := -2) dX5_cell_7 (by decide) ?_
    obtain rfl := Option.some.inj h
    exact mw_iret dX5_cell_9 rfl rfl (Nat.le_of_ble_eq_true rfl) (Nat.le_refl 0) mh_ret_rfl
abbrev w_X5_copy (sh : List mh_C) (Φ : mh_P) (I : mh_I) (L : mh_L) (pc : Nat) (lv : List (Nat × Value)) (st : List Value) : Prop := mh_W RX5 cX5_copy 8 (some .int) false (mh_rm 2) 46 0 0 mh_noX Φ 0 sh I L pc lv st
def X5_copy (p1 : Int32) (p2 : Int32) (p3 : Int32) (p4 : Int32) (p5 : Int32) (I : mh_I) : Option (Int32 × mh_I) := (X5_isSheet p1).bind (fun q1 => if q1 = 0 then some ((-2 : Int32), I) else (X5_isSheet p3).bind (fun q2 => if q2 = 0 then some ((-2 : Int32), I) else mh_ix p1 4 (fun k3 => mh_ix p3 4 (fun k5 => (X2_isMissing (38 + 2 * k3) I).bind (fun q7 => if q7 = 0 then (X2_isMissing (38 + 2 * k5) I).bind (fun q8 => if q8 = 0 then if (I (38 + 2 * k3) 1) = (I (38 + 2 * k5) 1) then (X2_hasRoom (38 + 2 * k3) p2 p5 I).bind (fun q9 => if q9 = 0 then some ((-12 : Int32), I) else (X2_hasRoom (38 + 2 * k5) p4 p5 I).bind (fun q10 => if q10 = 0 then some ((-12 : Int32), I) else if ¬ p2 < 0 ∧ ¬ p4 < 0 ∧ ¬ p5 < 0 ∧ p2.toNatClampNeg + p5.toNatClampNeg ≤ 48 ∧ p4.toNatClampNeg + p5.toNatClampNeg ≤ 48 then some (p5, (mh_cpy I ((38 + 2 * k3) + 1) ((38 + 2 * k5) + 1) p2.toNatClampNeg p4.toNatClampNeg p5.toNatClampNeg)) else none)) else some ((-13 : Int32), I) else some ((-11 : Int32), I)) else some ((-11 : Int32), I))))))
set_option maxHeartbeats 4000000 in
set_option maxRecDepth 100000 in
theorem t_X5_copy {into : Option Nat} {L : mh_L} {I : mh_I} {p1 : Int32} {p2 : Int32} {p3 : Int32} {p4 : Int32} {p5 : Int32} {res : Int32 × mh_I} (h : X5_copy p1 p2 p3 p4 p5 I = some res) : mh_CT yX5_copy cX5_copy 8 (some .int) (mh_rm 2) (SHX into) I L [.ref 0, .int p1, .int p2, .int p3, .int p4, .int p5] (mh_ret (some (.int res.1)) (SHX into) res.2 L) := by
  refine mh_ofW (ini := false) RX5 rfl (by decide) (fun h => by cases h) (Nat.le_of_ble_eq_true rfl) ?_
  show w_X5_copy (SHX into) (mh_ret (some (.int res.1)) (SHX into) res.2 L) I L 0 [(0, .ref 0), (1, .int p1), (2, .int p2), (3, .int p3), (4, .int p4), (5, .int p5)] []
  unfold X5_copy at h
  refine mw_iload_n dX5_copy_0 1 rfl ?_
  obtain ⟨q1, hq1, h⟩ := mh_bind h
  refine mw_sz (dc := 1) cs_X5_222 wd_560 dX5_copy_1 [.int p1] [.int p1] rfl rfl (t_X5_isSheet hq1) ⟨by decide, by decide⟩ (Nat.le_of_ble_eq_true rfl) ⟨rfl, rfl⟩ (fun zq1 => ?_)
  refine mw_if_eq (tgt := 14) dX5_copy_4 (by decide) (fun hc18 => ?_) (fun hc18 => ?_)
  · replace h := mh_ifp hc18 h
    refine mw_bipush (v := -2) dX5_copy_14 (by decide) ?_
    obtain rfl := Option.some.inj h
    exact mw_iret dX5_copy_16 rfl rfl (Nat.le_of_ble_eq_true rfl) (Nat.le_refl 0) mh_ret_rfl
  · replace h := mh_ifn hc18 h
    refine mw_iload_n dX5_copy_7 3 rfl ?_
    obtain ⟨q2, hq2, h⟩ := mh_bind h
    refine mw_sz (dc := 1) cs_X5_222 wd_560 dX5_copy_8 [.int p3] [.int p3] rfl rfl (t_X5_isSheet hq2) ⟨by decide, by decide⟩ (Nat.le_of_ble_eq_true rfl) ⟨rfl, rfl⟩ (fun zq2 => ?_)
    refine mw_if_ne (tgt := 17) dX5_copy_11 (by decide) (fun hc17 => ?_) (fun hc17 => ?_)
    · replace h := mh_ifn hc17 h
      refine mw_aload_n dX5_copy_17 0 rfl ?_
      refine mw_getr (b := 12) (fs := fsX5) gf_X5_41 dX5_copy_18 rfl rfl ?_
      refine mw_iload_n dX5_copy_21 1 rfl ?_
      obtain ⟨k3, hk4, hk4n, hk4l, h⟩ := mh_ix_some h
      refine mw_xaald (t := 0) dX5_copy_22 rfl hk4 hk4n (sx_rS hk4l) ?_
      refine mw_astore dX5_copy_23 (by decide) rfl ?_
      refine mw_aload_n dX5_copy_25 1 rfl ?_
      refine mw_getr (b := 12) (fs := fsX5) gf_X5_41 dX5_copy_26 rfl rfl ?_
      refine mw_iload_n dX5_copy_29 4 rfl ?_
      obtain ⟨k5, hk6, hk6n, hk6l, h⟩ := mh_ix_some h
      refine mw_xaald (t := 0) dX5_copy_30 rfl hk6 hk6n (sx_rS hk6l) ?_
      refine mw_astore dX5_copy_31 (by decide) rfl ?_
      refine mw_aload dX5_copy_33 1 rfl ?_
      obtain ⟨q7, hq7, h⟩ := mh_bind h
      refine mw_vz (dc := 0) (ci := 2) (fs := (fsX2 (38 + 2 * k3))) (T := TX2) (N := 3) cv_X5_246 wd_564 dX5_copy_35 [] [.ref (38 + 2 * k3)] rfl rfl (sx_sheet into hk4l).1 rfl (t_X2_isMissing (sx_sheet into hk4l) hq7) ⟨by decide, by decide⟩ (Nat.le_of_ble_eq_true rfl) ⟨rfl, rfl⟩ (fun zq7 => ?_)
      refine mw_if_ne (tgt := 49) dX5_copy_38 (by decide) (fun hc16 => ?_) (fun hc16 => ?_)
      · replace h := mh_ifn hc16 h
        refine mw_bipush (v := -11) dX5_copy_49 (by decide) ?_
        obtain rfl := Option.some.inj h
        exact mw_iret dX5_copy_51 rfl rfl (Nat.le_of_ble_eq_true rfl) (Nat.le_refl 0) mh_ret_rfl
      · replace h := mh_ifp hc16 h
        refine mw_aload dX5_copy_41 0 rfl ?_
        obtain ⟨q8, hq8, h⟩ := mh_bind h
        refine mw_vz (dc := 0) (ci := 2) (fs := (fsX2 (38 + 2 * k5))) (T := TX2) (N := 3) cv_X5_246 wd_564 dX5_copy_43 [] [.ref (38 + 2 * k5)] rfl rfl (sx_sheet into hk6l).1 rfl (t_X2_isMissing (sx_sheet into hk6l) hq8) ⟨by decide, by decide⟩ (Nat.le_of_ble_eq_true rfl) ⟨rfl, rfl⟩ (fun zq8 => ?_)
        refine mw_if_eq (tgt := 52) dX5_copy_46 (by decide) (fun hc15 => ?_) (fun hc15 => ?_)
        · replace h := mh_ifp hc15 h
          refine mw_aload dX5_copy_52 1 rfl ?_
          refine mw_geti (fs := (fsX2 (38 + 2 * k3))) gf_X5_251 dX5_copy_54 (sx_sheet into hk4l).1 rfl ?_
          refine mw_aload dX5_copy_57 0 rfl ?_
          refine mw_geti (fs := (fsX2 (38 + 2 * k5))) gf_X5_251 dX5_copy_59 (sx_sheet into hk6l).1 rfl ?_
          refine mw_icmp_eq (tgt := 68) dX5_copy_62 (by decide) (fun hc14 => ?_) (fun hc14 => ?_)
          · replace h := mh_ifp hc14 h
            refine mw_aload dX5_copy_68 1 rfl ?_
            refine mw_iload_n dX5_copy_70 4 rfl ?_
            refine mw_iload dX5_copy_71 7 rfl ?_
            obtain ⟨q9, hq9, h⟩ := mh_bind h
            refine mw_vz (dc := 0) (ci := 2) (fs := (fsX2 (38 + 2 * k3))) (T := TX2) (N := 3) cv_X5_254 wd_688 dX5_copy_73 [.int p2, .int p5] [.int p5, .int p2, .ref (38 + 2 * k3)] rfl rfl (sx_sheet into hk4l).1 rfl (t_X2_hasRoom (sx_sheet into hk4l) hq9) ⟨by decide, by decide⟩ (Nat.le_of_ble_eq_true rfl) ⟨rfl, rfl⟩ (fun zq9 => ?_)
            refine mw_if_eq (tgt := 91) dX5_copy_76 (by decide) (fun hc13 => ?_) (fun hc13 => ?_)
            · replace h := mh_ifp hc13 h
              refine mw_bipush (v := -12) dX5_copy_91 (by decide) ?_
              obtain rfl := Option.some.inj h
              exact mw_iret dX5_copy_93 rfl rfl (Nat.le_of_ble_eq_true rfl) (Nat.le_refl 0) mh_ret_rfl
            · replace h := mh_ifn hc13 h
              refine mw_aload dX5_copy_79 0 rfl ?_
              refine mw_iload dX5_copy_81 6 rfl ?_
              refine mw_iload dX5_copy_83 7 rfl ?_
              obtain ⟨q10, hq10, h⟩ := mh_bind h
              refine mw_vz (dc := 0) (ci := 2) (fs := (fsX2 (38 + 2 * k5))) (T := TX2) (N := 3) cv_X5_254 wd_688 dX5_copy_85 [.int p4, .int p5] [.int p5, .int p4, .ref (38 + 2 * k5)] rfl rfl (sx_sheet into hk6l).1 rfl (t_X2_hasRoom (sx_sheet into hk6l) hq10) ⟨by decide, by decide⟩ (Nat.le_of_ble_eq_true rfl) ⟨rfl, rfl⟩ (fun zq10 => ?_)
              refine mw_if_ne (tgt := 94) dX5_copy_88 (by decide) (fun hc12 => ?_) (fun hc12 => ?_)
              · replace h := mh_ifn hc12 h
                refine mw_aload dX5_copy_94 1 rfl ?_
                refine mw_getr (b := ((38 + 2 * k3) + 1)) (fs := (fsX2 (38 + 2 * k3))) gf_X5_202 dX5_copy_96 (sx_sheet into hk4l).1 rfl ?_
                refine mw_iload_n dX5_copy_99 4 rfl ?_
                refine mw_aload dX5_copy_100 0 rfl ?_
                refine mw_getr (b := ((38 + 2 * k5) + 1)) (fs := (fsX2 (38 + 2 * k5))) gf_X5_202 dX5_copy_102 (sx_sheet into hk6l).1 rfl ?_
                refine mw_iload dX5_copy_105 6 rfl ?_
                refine mw_iload dX5_copy_107 7 rfl ?_
                by_cases hc11 : ¬ p2 < 0 ∧ ¬ p4 < 0 ∧ ¬ p5 < 0 ∧ p2.toNatClampNeg + p5.toNatClampNeg ≤ 48 ∧ p4.toNatClampNeg + p5.toNatClampNeg ≤ 48
                rotate_left
                · replace h := mh_ifn hc11 h
                  cases h
                replace h := mh_ifp hc11 h
                refine mw_copy wd_689 dX5_copy_109 (sx_sheet into hk4l).2 (sx_sheet into hk6l).2 hc11.1 hc11.2.1 hc11.2.2.1 hc11.2.2.2.1 hc11.2.2.2.2 ⟨wd_668, wd_667, wd_15⟩ ⟨by decide, by decide⟩ ?_
                show w_X5_copy (SHX into) (mh_ret (some (.int res.1)) (SHX into) res.2 L) (mh_cpy I ((38 + 2 * k3) + 1) ((38 + 2 * k5) + 1) p2.toNatClampNeg p4.toNatClampNeg p5.toNatClampNeg) L 112 [(7, .ref (38 + 2 * k5)), (6, .ref (38 + 2 * k3)), (0, .ref 0), (1, .int p1), (2, .int p2), (3, .int p3), (4, .int p4), (5, .int p5)] []
                refine mw_iload dX5_copy_112 7 rfl ?_
                obtain rfl := Option.some.inj h
                exact mw_iret dX5_copy_114 rfl rfl (Nat.le_of_ble_eq_true rfl) (Nat.le_refl 0) mh_ret_rfl
              · replace h := mh_ifp hc12 h
                refine mw_bipush (v := -12) dX5_copy_91 (by decide) ?_
                obtain rfl := Option.some.inj h
                exact mw_iret dX5_copy_93 rfl rfl (Nat.le_of_ble_eq_true rfl) (Nat.le_refl 0) mh_ret_rfl
          · replace h := mh_ifn hc14 h
            refine mw_bipush (v := -13) dX5_copy_65 (by decide) ?_
            obtain rfl := Option.some.inj h
            exact mw_iret dX5_copy_67 rfl rfl (Nat.le_of_ble_eq_true rfl) (Nat.le_refl 0) mh_ret_rfl
        · replace h := mh_ifn hc15 h
          refine mw_bipush (v := -11) dX5_copy_49 (by decide) ?_
          obtain rfl := Option.some.inj h
          exact mw_iret dX5_copy_51 rfl rfl (Nat.le_of_ble_eq_true rfl) (Nat.le_refl 0) mh_ret_rfl
    · replace h := mh_ifp hc17 h
      refine mw_bipush (v := -2) dX5_copy_14 (by decide) ?_
      obtain rfl := Option.some.inj h
      exact mw_iret dX5_copy_16 rfl rfl (Nat.le_of_ble_eq_true rfl) (Nat.le_refl 0) mh_ret_rfl
abbrev w_X5_knits (sh : List mh_C) (Φ : mh_P) (I : mh_I) (L : mh_L) (pc : Nat) (lv : List (Nat × Value)) (st : List Value) : Prop := mh_W RX5 cX5_knits 9 (some .int) false (mh_rm 3) 46 0 0 mh_noX Φ 0 sh I L pc lv st
def X5_knits_l67 (u3 : Int32) (u4 : Int32) (u5 : Nat) : Nat → Int32 → Int32 → mh_I → Option (Int32 × mh_I)
  | 0, _, _, _ => none
  | n + 1, u6, u7, I => if u4 ≤ u7 then some (u6, I) else mh_b (u3 + ((3 : Int32) * u7)) (fun b7 => (X2_hasRoom u5 b7 (3 : Int32) I).bind (fun q8 => if q8 = 0 then some ((-12 : Int32), I) else mh_ix b7 48 (fun k9 => mh_ix (b7 + (1 : Int32)) 48 (fun k11 => mh_ix (b7 + (2 : Int32)) 48 (fun k13 => (X5_knit (I (u5 + 1) k9) (I (u5 + 1) k11) (I (u5 + 1) k13) I).bind (fun q15 => mh_j (fun (v16 : Int32) => mh_b (u7 + (1 : Int32)) (fun b20 => (X5_knits_l67 u3 u4 u5 n v16 b20 q15.2))) (fun J17 => if q15.1 < 0 then (J17 u6) else mh_b (u6 + (1 : Int32)) (fun b18 => (J17 b18)))))))))
set_option maxHeartbeats 4000000 in
set_option maxRecDepth 100000 in
theorem t_X5_knits_l67 {into : Option Nat} {u5 : Nat} (hf5 : hs_X2 (SHX into) u5) {u3 : Int32} {u4 : Int32} {L : mh_L} {res : Int32 × mh_I} (n : Nat) (u6 : Int32) (u7 : Int32) (I : mh_I) (h : X5_knits_l67 u3 u4 u5 n u6 u7 I = some res)  : w_X5_knits (SHX into) (mh_ret (some (.int res.1)) (SHX into) res.2 L) I L 67 [(0, .ref 0), (3, .int u3), (4, .int u4), (5, .ref u5), (6, .int u6), (7, .int u7)] [] := by
  induction n generalizing u6 u7 I with
  | zero => rw [X5_knits_l67] at h; cases h
  | succ n ih =>
    rw [X5_knits_l67] at h
    refine mw_iload dX5_knits_67 5 rfl ?_
    refine mw_iload dX5_knits_69 2 rfl ?_
    refine mw_icmp_ge (tgt := 140) dX5_knits_71 (by decide) (fun hc22 => ?_) (fun hc22 => ?_)
    · replace h := mh_ifp hc22 h
      refine mw_iload dX5_knits_140 4 rfl ?_
      obtain rfl := Option.some.inj h
      exact mw_iret dX5_knits_142 rfl rfl (Nat.le_of_ble_eq_true rfl) (Nat.le_refl 0) mh_ret_rfl
    · replace h := mh_ifn hc22 h
      refine mw_iload_n dX5_knits_74 1 rfl ?_
      refine mw_iconst (v := 3) dX5_knits_75 (by decide) ?_
      refine mw_iload dX5_knits_76 5 rfl ?_
      refine mw_imul dX5_knits_78 ?_
      refine mw_iadd dX5_knits_79 ?_
      obtain ⟨b7, eb7, h⟩ := mh_b_some h
      refine mw_nmi eb7 ?_
      refine mw_istore dX5_knits_80 (by decide) rfl ?_
      refine mw_aload dX5_knits_82 4 rfl ?_
      refine mw_iload dX5_knits_84 0 rfl ?_
      refine mw_iconst (v := 3) dX5_knits_86 (by decide) ?_
      obtain ⟨q8, hq8, h⟩ := mh_bind h
      refine mw_vz (dc := 0) (ci := 2) (fs := (fsX2 u5)) (T := TX2) (N := 3) cv_X5_254 wd_688 dX5_knits_87 [.int b7, .int (3 : Int32)] [.int (3 : Int32), .int b7, .ref u5] rfl rfl hf5.1 rfl (t_X2_hasRoom hf5 hq8) ⟨by decide, by decide⟩ (Nat.le_of_ble_eq_true rfl) ⟨rfl, rfl⟩ (fun zq8 => ?_)
      refine mw_if_ne (tgt := 96) dX5_knits_90 (by decide) (fun hc21 => ?_) (fun hc21 => ?_)
      · replace h := mh_ifn hc21 h
        refine mw_aload_n dX5_knits_96 1 rfl ?_
        refine mw_aload dX5_knits_97 4 rfl ?_
        refine mw_getr (b := (u5 + 1)) (fs := (fsX2 u5)) gf_X5_202 dX5_knits_99 hf5.1 rfl ?_
        refine mw_iload dX5_knits_102 0 rfl ?_
        obtain ⟨k9, hk10, hk10n, hk10l, h⟩ := mh_ix_some h
        refine mw_xiald dX5_knits_104 hf5.2 hk10 hk10n ?_
        refine mw_aload dX5_knits_105 4 rfl ?_
        refine mw_getr (b := (u5 + 1)) (fs := (fsX2 u5)) gf_X5_202 dX5_knits_107 hf5.1 rfl ?_
        refine mw_iload dX5_knits_110 0 rfl ?_
        refine mw_iconst (v := 1) dX5_knits_112 (by decide) ?_
        refine mw_iadd dX5_knits_113 ?_
        obtain ⟨k11, hk12, hk12n, hk12l, h⟩ := mh_ix_some h
        refine mw_xiald dX5_knits_114 hf5.2 hk12 hk12n ?_
        refine mw_aload dX5_knits_115 4 rfl ?_
        refine mw_getr (b := (u5 + 1)) (fs := (fsX2 u5)) gf_X5_202 dX5_knits_117 hf5.1 rfl ?_
        refine mw_iload dX5_knits_120 0 rfl ?_
        refine mw_iconst (v := 2) dX5_knits_122 (by decide) ?_
        refine mw_iadd dX5_knits_123 ?_
        obtain ⟨k13, hk14, hk14n, hk14l, h⟩ := mh_ix_some h
        refine mw_xiald dX5_knits_124 hf5.2 hk14 hk14n ?_
        obtain ⟨q15, hq15, h⟩ := mh_bind h
        refine mw_vr (dc := 2) (ci := 5) (fs := fsX5) (T := TX5) (N := 9) cv_X5_263 wd_375 dX5_knits_125 [.int (I (u5 + 1) k9), .int (I (u5 + 1) k11), .int (I (u5 + 1) k13)] [.int (I (u5 + 1) k13), .int (I (u5 + 1) k11), .int (I (u5 + 1) k9), .ref 0] rfl rfl rfl rfl (t_X5_knit hq15) ⟨by decide, by decide⟩ (Nat.le_of_ble_eq_true rfl) ⟨rfl, rfl⟩ ?_
        refine mh_jw (fun J17 => ∀ (v16 : Int32), J17 v16 = some res → w_X5_knits (SHX into) (mh_ret (some (.int res.1)) (SHX into) res.2 L) q15.2 L 134 [(0, .ref 0), (3, .int u3), (4, .int u4), (5, .ref u5), (6, .int v16), (7, .int u7)] []) h (fun v16 h => ?_) (fun J17 hJ17 h => ?_)
        · obtain ⟨b20, eb20, h⟩ := mh_b_some h
          refine mw_iinc (v := b20) dX5_knits_134 5 rfl (by rw [← eb20]; rfl) (by decide) rfl ?_
          refine mw_goto (tgt := 67) dX5_knits_137 (by decide) ?_
          refine mw_loc [1, 2, 3, 4, 5, 0] rfl ?_
          exact ih _ _ _ h
        · refine mw_if_lt (tgt := 134) dX5_knits_128 (by decide) (fun hc19 => ?_) (fun hc19 => ?_)
          · replace h := mh_ifp hc19 h
            refine mw_loc [1, 2, 3, 4, 5, 6] rfl ?_
            exact hJ17 _ h
          · replace h := mh_ifn hc19 h
            obtain ⟨b18, eb18, h⟩ := mh_b_some h
            refine mw_iinc (v := b18) dX5_knits_131 5 rfl (by rw [← eb18]; rfl) (by decide) rfl ?_
            refine mw_loc [2, 3, 4, 5, 0, 6] rfl ?_
            exact hJ17 _ h
      · replace h := mh_ifp hc21 h
        refine mw_bipush (v := -12) dX5_knits_93 (by decide) ?_
        obtain rfl := Option.some.inj h
        exact mw_iret dX5_knits_95 rfl rfl (Nat.le_of_ble_eq_true rfl) (Nat.le_refl 0) mh_ret_rfl
def X5_knits (p1 : Int32) (p2 : Int32) (p3 : Int32) (p4 : Int32) (I : mh_I) : Option (Int32 × mh_I) := (X5_isSheet p1).bind (fun q1 => if q1 = 0 then some ((-2 : Int32), I) else (X5_within p2 (0 : Int32) (2 : Int32)).bind (fun q2 => if q2 = 0 then some ((-2 : Int32), I) else (X5_within p4 (0 : Int32) (16 : Int32)).bind (fun q3 => if q3 = 0 then some ((-2 : Int32), I) else mh_ix p1 4 (fun k4 => (X2_isMissing (38 + 2 * k4) I).bind (fun q6 => if q6 = 0 then if (I (38 + 2 * k4) 1) = p2 then X5_knits_l67 p3 p4 (38 + 2 * k4) mh_fuel (0 : Int32) (0 : Int32) I else some ((-13 : Int32), I) else some ((-11 : Int32), I))))))
set_option maxHeartbeats 4000000 in
set_option maxRecDepth 100000 in
theorem t_X5_knits {into : Option Nat} {L : mh_L} {I : mh_I} {p1 : Int32} {p2 : Int32} {p3 : Int32} {p4 : Int32} {res : Int32 × mh_I} (h : X5_knits p1 p2 p3 p4 I = some res) : mh_CT yX5_knits cX5_knits 9 (some .int) (mh_rm 3) (SHX into) I L [.ref 0, .int p1, .int p2, .int p3, .int p4] (mh_ret (some (.int res.1)) (SHX into) res.2 L) := by
  refine mh_ofW (ini := false) RX5 rfl (by decide) (fun h => by cases h) (Nat.le_of_ble_eq_true rfl) ?_
  show w_X5_knits (SHX into) (mh_ret (some (.int res.1)) (SHX into) res.2 L) I L 0 [(0, .ref 0), (1, .int p1), (2, .int p2), (3, .int p3), (4, .int p4)] []
  unfold X5_knits at h
  refine mw_iload_n dX5_knits_0 1 rfl ?_
  obtain ⟨q1, hq1, h⟩ := mh_bind h
  refine mw_sz (dc := 1) cs_X5_222 wd_560 dX5_knits_1 [.int p1] [.int p1] rfl rfl (t_X5_isSheet hq1) ⟨by decide, by decide⟩ (Nat.le_of_ble_eq_true rfl) ⟨rfl, rfl⟩ (fun zq1 => ?_)
  refine mw_if_eq (tgt := 27) dX5_knits_4 (by decide) (fun hc27 => ?_) (fun hc27 => ?_)
  · replace h := mh_ifp hc27 h
    refine mw_bipush (v := -2) dX5_knits_27 (by decide) ?_
    obtain rfl := Option.some.inj h
    exact mw_iret dX5_knits_29 rfl rfl (Nat.le_of_ble_eq_true rfl) (Nat.le_refl 0) mh_ret_rfl
  · replace h := mh_ifn hc27 h
    refine mw_iload_n dX5_knits_7 2 rfl ?_
    refine mw_iconst (v := 0) dX5_knits_8 (by decide) ?_
    refine mw_iconst (v := 2) dX5_knits_9 (by decide) ?_
    obtain ⟨q2, hq2, h⟩ := mh_bind h
    refine mw_sz (dc := 0) cs_X5_97 wd_223 dX5_knits_10 [.int p2, .int (0 : Int32), .int (2 : Int32)] [.int (2 : Int32), .int (0 : Int32), .int p2] rfl rfl (t_X5_within hq2) ⟨by decide, by decide⟩ (Nat.le_of_ble_eq_true rfl) ⟨rfl, rfl⟩ (fun zq2 => ?_)
    refine mw_if_eq (tgt := 27) dX5_knits_13 (by decide) (fun hc26 => ?_) (fun hc26 => ?_)
    · replace h := mh_ifp hc26 h
      refine mw_bipush (v := -2) dX5_knits_27 (by decide) ?_
      obtain rfl := Option.some.inj h
      exact mw_iret dX5_knits_29 rfl rfl (Nat.le_of_ble_eq_true rfl) (Nat.le_refl 0) mh_ret_rfl
    · replace h := mh_ifn hc26 h
      refine mw_iload dX5_knits_16 4 rfl ?_
      refine mw_iconst (v := 0) dX5_knits_18 (by decide) ?_
      refine mw_bipush (v := 16) dX5_knits_19 (by decide) ?_
      obtain ⟨q3, hq3, h⟩ := mh_bind h
      refine mw_sz (dc := 0) cs_X5_97 wd_223 dX5_knits_21 [.int p4, .int (0 : Int32), .int (16 : Int32)] [.int (16 : Int32), .int (0 : Int32), .int p4] rfl rfl (t_X5_within hq3) ⟨by decide, by decide⟩ (Nat.le_of_ble_eq_true rfl) ⟨rfl, rfl⟩ (fun zq3 => ?_)
      refine mw_if_ne (tgt := 30) dX5_knits_24 (by decide) (fun hc25 => ?_) (fun hc25 => ?_)
      · replace h := mh_ifn hc25 h
        refine mw_aload_n dX5_knits_30 0 rfl ?_
        refine mw_getr (b := 12) (fs := fsX5) gf_X5_41 dX5_knits_31 rfl rfl ?_
        refine mw_iload_n dX5_knits_34 1 rfl ?_
        obtain ⟨k4, hk5, hk5n, hk5l, h⟩ := mh_ix_some h
        refine mw_xaald (t := 0) dX5_knits_35 rfl hk5 hk5n (sx_rS hk5l) ?_
        refine mw_astore dX5_knits_36 (by decide) rfl ?_
        refine mw_aload dX5_knits_38 0 rfl ?_
        obtain ⟨q6, hq6, h⟩ := mh_bind h
        refine mw_vz (dc := 0) (ci := 2) (fs := (fsX2 (38 + 2 * k4))) (T := TX2) (N := 3) cv_X5_246 wd_564 dX5_knits_40 [] [.ref (38 + 2 * k4)] rfl rfl (sx_sheet into hk5l).1 rfl (t_X2_isMissing (sx_sheet into hk5l) hq6) ⟨by decide, by decide⟩ (Nat.le_of_ble_eq_true rfl) ⟨rfl, rfl⟩ (fun zq6 => ?_)
        refine mw_if_eq (tgt := 49) dX5_knits_43 (by decide) (fun hc24 => ?_) (fun hc24 => ?_)
        · replace h := mh_ifp hc24 h
          refine mw_aload dX5_knits_49 0 rfl ?_
          refine mw_geti (fs := (fsX2 (38 + 2 * k4))) gf_X5_251 dX5_knits_51 (sx_sheet into hk5l).1 rfl ?_
          refine mw_iload_n dX5_knits_54 3 rfl ?_
          refine mw_icmp_eq (tgt := 61) dX5_knits_55 (by decide) (fun hc23 => ?_) (fun hc23 => ?_)
          · replace h := mh_ifp hc23 h
            refine mw_iconst (v := 0) dX5_knits_61 (by decide) ?_
            refine mw_istore dX5_knits_62 (by decide) rfl ?_
            refine mw_iconst (v := 0) dX5_knits_64 (by decide) ?_
            refine mw_istore dX5_knits_65 (by decide) rfl ?_
            refine mw_loc [3, 6, 7, 2, 1, 0] rfl ?_
            exact t_X5_knits_l67 (sx_sheet into hk5l) _ _ _ _ h 
          · replace h := mh_ifn hc23 h
            refine mw_bipush (v := -13) dX5_knits_58 (by decide) ?_
            obtain rfl := Option.some.inj h
            exact mw_iret dX5_knits_60 rfl rfl (Nat.le_of_ble_eq_true rfl) (Nat.le_refl 0) mh_ret_rfl
        · replace h := mh_ifn hc24 h
          refine mw_bipush (v := -11) dX5_knits_46 (by decide) ?_
          obtain rfl := Option.some.inj h
          exact mw_iret dX5_knits_48 rfl rfl (Nat.le_of_ble_eq_true rfl) (Nat.le_refl 0) mh_ret_rfl
      · replace h := mh_ifp hc25 h
        refine mw_bipush (v := -2) dX5_knits_27 (by decide) ?_
        obtain rfl := Option.some.inj h
        exact mw_iret dX5_knits_29 rfl rfl (Nat.le_of_ble_eq_true rfl) (Nat.le_refl 0) mh_ret_rfl
abbrev w_X5_pinnedPlaces (sh : List mh_C) (Φ : mh_P) (I : mh_I) (L : mh_L) (pc : Nat) (lv : List (Nat × Value)) (st : List Value) : Prop := mh_W RX5 cX5_pinnedPlaces 4 (some .int) false (mh_rm 1) 46 0 0 mh_noX Φ 0 sh I L pc lv st
def X5_pinnedPlaces_l4 (u1 : Int32) (L : mh_L) : Nat → Int32 → Int32 → Option (Int32)
  | 0, _, _ => none
  | n + 1, u2, u3 => if (6 : Int32) ≤ u3 then some u2 else (X5_hasBit (L 1 2) ((u1 * (6 : Int32)) + u3)).bind (fun q1 => mh_j (fun (v2 : Int32) => mh_b (u3 + (1 : Int32)) (fun b6 => (X5_pinnedPlaces_l4 u1 L n v2 b6))) (fun J3 => if q1 = 0 then (J3 u2) else mh_b (u2 ||| ((1 : Int32) <<< (u3 &&& 31))) (fun b4 => (J3 b4))))
set_option maxHeartbeats 4000000 in
set_option maxRecDepth 100000 in
theorem t_X5_pinnedPlaces_l4 {into : Option Nat} {u1 : Int32} {I : mh_I} {L : mh_L} {res : Int32} (n : Nat) (u2 : Int32) (u3 : Int32) (h : X5_pinnedPlaces_l4 u1 L n u2 u3 = some res)  : w_X5_pinnedPlaces (SHX into) (mh_ret (some (.int res)) (SHX into) I L) I L 4 [(0, .ref 0), (1, .int u1), (2, .int u2), (3, .int u3)] [] := by
  induction n generalizing u2 u3 with
  | zero => rw [X5_pinnedPlaces_l4] at h; cases h
  | succ n ih =>
    rw [X5_pinnedPlaces_l4] at h
    refine mw_iload_n dX5_pinnedPlaces_4 3 rfl ?_
    refine mw_bipush (v := 6) dX5_pinnedPlaces_5 (by decide) ?_
    refine mw_icmp_ge (tgt := 41) dX5_pinnedPlaces_7 (by decide) (fun hc7 => ?_) (fun hc7 => ?_)
    · replace h := mh_ifp hc7 h
      refine mw_iload_n dX5_pinnedPlaces_41 2 rfl ?_
      obtain rfl := Option.some.inj h
      exact mw_iret dX5_pinnedPlaces_42 rfl rfl (Nat.le_of_ble_eq_true rfl) (Nat.le_refl 0) mh_ret_rfl
    · replace h := mh_ifn hc7 h
      refine mw_aload_n dX5_pinnedPlaces_10 0 rfl ?_
      refine mw_getr (b := 1) (fs := fsX5) gf_X5_10 dX5_pinnedPlaces_11 rfl rfl ?_
      refine mw_getl (fs := (fsX1 1)) gf_X5_70 dX5_pinnedPlaces_14 (sx_piece into).1 rfl ?_
      refine mw_iload_n dX5_pinnedPlaces_17 1 rfl ?_
      refine mw_bipush (v := 6) dX5_pinnedPlaces_18 (by decide) ?_
      refine mw_imul dX5_pinnedPlaces_20 ?_
      refine mw_iload_n dX5_pinnedPlaces_21 3 rfl ?_
      refine mw_iadd dX5_pinnedPlaces_22 ?_
      obtain ⟨q1, hq1, h⟩ := mh_bind h
      refine mw_sz (dc := 0) cs_X5_139 wd_357 dX5_pinnedPlaces_23 [.long (L 1 2), .int ((u1 * (6 : Int32)) + u3)] [.int ((u1 * (6 : Int32)) + u3), .long (L 1 2)] rfl rfl (t_X5_hasBit hq1) ⟨by decide, by decide⟩ (Nat.le_of_ble_eq_true rfl) ⟨rfl, rfl⟩ (fun zq1 => ?_)
      refine mh_jw (fun J3 => ∀ (v2 : Int32), J3 v2 = some res → w_X5_pinnedPlaces (SHX into) (mh_ret (some (.int res)) (SHX into) I L) I L 35 [(0, .ref 0), (1, .int u1), (2, .int v2), (3, .int u3)] []) h (fun v2 h => ?_) (fun J3 hJ3 h => ?_)
      · obtain ⟨b6, eb6, h⟩ := mh_b_some h
        refine mw_iinc (v := b6) dX5_pinnedPlaces_35 3 rfl (by rw [← eb6]; rfl) (by decide) rfl ?_
        refine mw_goto (tgt := 4) dX5_pinnedPlaces_38 (by decide) ?_
        refine mw_loc [1, 2, 3, 0] rfl ?_
        exact ih _ _ h
      · refine mw_if_eq (tgt := 35) dX5_pinnedPlaces_26 (by decide) (fun hc5 => ?_) (fun hc5 => ?_)
        · replace h := mh_ifp hc5 h
          refine mw_loc [0, 1, 2, 3] rfl ?_
          exact hJ3 _ h
        · replace h := mh_ifn hc5 h
          refine mw_iload_n dX5_pinnedPlaces_29 2 rfl ?_
          refine mw_iconst (v := 1) dX5_pinnedPlaces_30 (by decide) ?_
          refine mw_iload_n dX5_pinnedPlaces_31 3 rfl ?_
          refine mw_ishl dX5_pinnedPlaces_32 ?_
          refine mw_ior dX5_pinnedPlaces_33 ?_
          obtain ⟨b4, eb4, h⟩ := mh_b_some h
          refine mw_nmi eb4 ?_
          refine mw_istore_n dX5_pinnedPlaces_34 (by decide) rfl ?_
          refine mw_loc [1, 2, 0, 3] rfl ?_
          exact hJ3 _ h
def X5_pinnedPlaces (p1 : Int32) (L : mh_L) : Option (Int32) := X5_pinnedPlaces_l4 p1 L mh_fuel (0 : Int32) (0 : Int32)
set_option maxHeartbeats 4000000 in
set_option maxRecDepth 100000 in
theorem t_X5_pinnedPlaces {into : Option Nat} {L : mh_L} {I : mh_I} {p1 : Int32} {res : Int32} (h : X5_pinnedPlaces p1 L = some res) : mh_CT yX5_pinnedPlaces cX5_pinnedPlaces 4 (some .int) (mh_rm 1) (SHX into) I L [.ref 0, .int p1] (mh_ret (some (.int res)) (SHX into) I L) := by
  refine mh_ofW (ini := false) RX5 rfl (by decide) (fun h => by cases h) (Nat.le_of_ble_eq_true rfl) ?_
  show w_X5_pinnedPlaces (SHX into) (mh_ret (some (.int res)) (SHX into) I L) I L 0 [(0, .ref 0), (1, .int p1)] []
  unfold X5_pinnedPlaces at h
  refine mw_iconst (v := 0) dX5_pinnedPlaces_0 (by decide) ?_
  refine mw_istore_n dX5_pinnedPlaces_1 (by decide) rfl ?_
  refine mw_iconst (v := 0) dX5_pinnedPlaces_2 (by decide) ?_
  refine mw_istore_n dX5_pinnedPlaces_3 (by decide) rfl ?_
  refine mw_loc [2, 3, 1, 0] rfl ?_
  exact t_X5_pinnedPlaces_l4  _ _ _ h 
abbrev w_X5_taken (sh : List mh_C) (Φ : mh_P) (I : mh_I) (L : mh_L) (pc : Nat) (lv : List (Nat × Value)) (st : List Value) : Prop := mh_W RX5 cX5_taken 4 (some .int) false (mh_rm 2) 46 0 0 mh_noX Φ 0 sh I L pc lv st
def X5_taken (p1 : Int32) (p2 : Int32) (I : mh_I) (L : mh_L) : Option (Int32) := (X5_within p2 (0 : Int32) (6 : Int32)).bind (fun q1 => if q1 = 0 then some (-2 : Int32) else (X5_within p1 (0 : Int32) (55 : Int32)).bind (fun q2 => if q2 = 0 then some (-12 : Int32) else (X5_isLoop p1).bind (fun q3 => if q3 = 0 then (X5_pinnedPlaces (p1 - (48 : Int32)) L).bind (fun q4 => if q4 = 0 then some (-11 : Int32) else if p2 = (6 : Int32) then some q4 else some (-13 : Int32)) else if p2 = (6 : Int32) then some (-13 : Int32) else mh_ix p1 48 (fun k7 => (X5_isOne (I 2 k7) p2).bind (fun q9 => if q9 = 0 then some (-13 : Int32) else some p1)))))
set_option maxHeartbeats 4000000 in
set_option maxRecDepth 100000 in
theorem t_X5_taken {into : Option Nat} {L : mh_L} {I : mh_I} {p1 : Int32} {p2 : Int32} {res : Int32} (h : X5_taken p1 p2 I L = some res) : mh_CT yX5_taken cX5_taken 4 (some .int) (mh_rm 2) (SHX into) I L [.ref 0, .int p1, .int p2] (mh_ret (some (.int res)) (SHX into) I L) := by
  refine mh_ofW (ini := false) RX5 rfl (by decide) (fun h => by cases h) (Nat.le_of_ble_eq_true rfl) ?_
  show w_X5_taken (SHX into) (mh_ret (some (.int res)) (SHX into) I L) I L 0 [(0, .ref 0), (1, .int p1), (2, .int p2)] []
  unfold X5_taken at h
  refine mw_iload_n dX5_taken_0 2 rfl ?_
  refine mw_iconst (v := 0) dX5_taken_1 (by decide) ?_
  refine mw_bipush (v := 6) dX5_taken_2 (by decide) ?_
  obtain ⟨q1, hq1, h⟩ := mh_bind h
  refine mw_sz (dc := 0) cs_X5_97 wd_223 dX5_taken_4 [.int p2, .int (0 : Int32), .int (6 : Int32)] [.int (6 : Int32), .int (0 : Int32), .int p2] rfl rfl (t_X5_within hq1) ⟨by decide, by decide⟩ (Nat.le_of_ble_eq_true rfl) ⟨rfl, rfl⟩ (fun zq1 => ?_)
  refine mw_if_ne (tgt := 13) dX5_taken_7 (by decide) (fun hc14 => ?_) (fun hc14 => ?_)
  · replace h := mh_ifn hc14 h
    refine mw_iload_n dX5_taken_13 1 rfl ?_
    refine mw_iconst (v := 0) dX5_taken_14 (by decide) ?_
    refine mw_bipush (v := 55) dX5_taken_15 (by decide) ?_
    obtain ⟨q2, hq2, h⟩ := mh_bind h
    refine mw_sz (dc := 0) cs_X5_97 wd_223 dX5_taken_17 [.int p1, .int (0 : Int32), .int (55 : Int32)] [.int (55 : Int32), .int (0 : Int32), .int p1] rfl rfl (t_X5_within hq2) ⟨by decide, by decide⟩ (Nat.le_of_ble_eq_true rfl) ⟨rfl, rfl⟩ (fun zq2 => ?_)
    refine mw_if_ne (tgt := 26) dX5_taken_20 (by decide) (fun hc13 => ?_) (fun hc13 => ?_)
    · replace h := mh_ifn hc13 h
      refine mw_iload_n dX5_taken_26 1 rfl ?_
      obtain ⟨q3, hq3, h⟩ := mh_bind h
      refine mw_sz (dc := 1) cs_X5_101 wd_329 dX5_taken_27 [.int p1] [.int p1] rfl rfl (t_X5_isLoop hq3) ⟨by decide, by decide⟩ (Nat.le_of_ble_eq_true rfl) ⟨rfl, rfl⟩ (fun zq3 => ?_)
      refine mw_if_eq (tgt := 62) dX5_taken_30 (by decide) (fun hc12 => ?_) (fun hc12 => ?_)
      · replace h := mh_ifp hc12 h
        refine mw_aload_n dX5_taken_62 0 rfl ?_
        refine mw_iload_n dX5_taken_63 1 rfl ?_
        refine mw_bipush (v := 48) dX5_taken_64 (by decide) ?_
        refine mw_isub dX5_taken_66 ?_
        obtain ⟨q4, hq4, h⟩ := mh_bind h
        refine mw_vr (dc := 1) (ci := 5) (fs := fsX5) (T := TX5) (N := 9) cv_X5_269 wd_705 dX5_taken_67 [.int (p1 - (48 : Int32))] [.int (p1 - (48 : Int32)), .ref 0] rfl rfl rfl rfl (t_X5_pinnedPlaces hq4) ⟨by decide, by decide⟩ (Nat.le_of_ble_eq_true rfl) ⟨rfl, rfl⟩ ?_
        refine mw_istore_n dX5_taken_70 (by decide) rfl ?_
        refine mw_iload_n dX5_taken_71 0 rfl ?_
        refine mw_if_ne (tgt := 78) dX5_taken_72 (by decide) (fun hc6 => ?_) (fun hc6 => ?_)
        · replace h := mh_ifn hc6 h
          refine mw_iload_n dX5_taken_78 3 rfl ?_
          refine mw_bipush (v := 6) dX5_taken_79 (by decide) ?_
          refine mw_icmp_ne (tgt := 88) dX5_taken_81 (by decide) (fun hc5 => ?_) (fun hc5 => ?_)
          · replace h := mh_ifn hc5 h
            refine mw_bipush (v := -13) dX5_taken_88 (by decide) ?_
            obtain rfl := Option.some.inj h
            exact mw_iret dX5_taken_90 rfl rfl (Nat.le_of_ble_eq_true rfl) (Nat.le_refl 0) mh_ret_rfl
          · replace h := mh_ifp hc5 h
            refine mw_iload_n dX5_taken_84 0 rfl ?_
            refine mw_goto (tgt := 90) dX5_taken_85 (by decide) ?_
            obtain rfl := Option.some.inj h
            exact mw_iret dX5_taken_90 rfl rfl (Nat.le_of_ble_eq_true rfl) (Nat.le_refl 0) mh_ret_rfl
        · replace h := mh_ifp hc6 h
          refine mw_bipush (v := -11) dX5_taken_75 (by decide) ?_
          obtain rfl := Option.some.inj h
          exact mw_iret dX5_taken_77 rfl rfl (Nat.le_of_ble_eq_true rfl) (Nat.le_refl 0) mh_ret_rfl
      · replace h := mh_ifn hc12 h
        refine mw_iload_n dX5_taken_33 2 rfl ?_
        refine mw_bipush (v := 6) dX5_taken_34 (by decide) ?_
        refine mw_icmp_eq (tgt := 59) dX5_taken_36 (by decide) (fun hc11 => ?_) (fun hc11 => ?_)
        · replace h := mh_ifp hc11 h
          refine mw_bipush (v := -13) dX5_taken_59 (by decide) ?_
          obtain rfl := Option.some.inj h
          exact mw_iret dX5_taken_61 rfl rfl (Nat.le_of_ble_eq_true rfl) (Nat.le_refl 0) mh_ret_rfl
        · replace h := mh_ifn hc11 h
          refine mw_aload_n dX5_taken_39 0 rfl ?_
          refine mw_getr (b := 1) (fs := fsX5) gf_X5_10 dX5_taken_40 rfl rfl ?_
          refine mw_getr (b := 2) (fs := (fsX1 1)) gf_X5_118 dX5_taken_43 (sx_piece into).1 rfl ?_
          refine mw_iload_n dX5_taken_46 1 rfl ?_
          obtain ⟨k7, hk8, hk8n, hk8l, h⟩ := mh_ix_some h
          refine mw_xiald dX5_taken_47 (sx_piece into).2.1 hk8 hk8n ?_
          refine mw_iload_n dX5_taken_48 2 rfl ?_
          obtain ⟨q9, hq9, h⟩ := mh_bind h
          refine mw_sz (dc := 0) cs_X5_266 wd_701 dX5_taken_49 [.int (I 2 k7), .int p2] [.int p2, .int (I 2 k7)] rfl rfl (t_X5_isOne hq9) ⟨by decide, by decide⟩ (Nat.le_of_ble_eq_true rfl) ⟨rfl, rfl⟩ (fun zq9 => ?_)
          refine mw_if_eq (tgt := 59) dX5_taken_52 (by decide) (fun hc10 => ?_) (fun hc10 => ?_)
          · replace h := mh_ifp hc10 h
            refine mw_bipush (v := -13) dX5_taken_59 (by decide) ?_
            obtain rfl := Option.some.inj h
            exact mw_iret dX5_taken_61 rfl rfl (Nat.le_of_ble_eq_true rfl) (Nat.le_refl 0) mh_ret_rfl
          · replace h := mh_ifn hc10 h
            refine mw_iload_n dX5_taken_55 1 rfl ?_
            refine mw_goto (tgt := 61) dX5_taken_56 (by decide) ?_
            obtain rfl := Option.some.inj h
            exact mw_iret dX5_taken_61 rfl rfl (Nat.le_of_ble_eq_true rfl) (Nat.le_refl 0) mh_ret_rfl
    · replace h := mh_ifp hc13 h
      refine mw_bipush (v := -12) dX5_taken_23 (by decide) ?_
      obtain rfl := Option.some.inj h
      exact mw_iret dX5_taken_25 rfl rfl (Nat.le_of_ble_eq_true rfl) (Nat.le_refl 0) mh_ret_rfl
  · replace h := mh_ifp hc14 h
    refine mw_bipush (v := -2) dX5_taken_10 (by decide) ?_
    obtain rfl := Option.some.inj h
    exact mw_iret dX5_taken_12 rfl rfl (Nat.le_of_ble_eq_true rfl) (Nat.le_refl 0) mh_ret_rfl
