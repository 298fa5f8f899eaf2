abbrev w_X6_in (sh : List mh_C) (Φ : mh_P) (I : mh_I) (L : mh_L) (pc : Nat) (lv : List (Nat × Value)) (st : List Value) : Prop := mh_W RX6 cX6_in 3 (some .boolean) false (mh_rm 0) 18 0 0 mh_noX Φ 0 sh I L pc lv st
def X6_in (p0 : Int32) (p1 : Int32) (p2 : Int32) : Option (Int32) := if p0 < p1 then some (0 : Int32) else if p2 < p0 then some (0 : Int32) else some (1 : Int32)
set_option maxHeartbeats 4000000 in
set_option maxRecDepth 100000 in
theorem t_X6_in {L : mh_L} {I : mh_I} {p0 : Int32} {p1 : Int32} {p2 : Int32} {res : Int32} (h : X6_in p0 p1 p2 = some res) : mh_CT yX6_in cX6_in 3 (some .boolean) (mh_rm 0) SHM I L [.int p0, .int p1, .int p2] (mh_retz res SHM I L) := by
  refine mh_ofW (ini := false) RX6 rfl (by decide) (fun h => by cases h) (Nat.le_of_ble_eq_true rfl) ?_
  show w_X6_in SHM (mh_retz res SHM I L) I L 0 [(0, .int p0), (1, .int p1), (2, .int p2)] []
  unfold X6_in at h
  refine mw_iload_n dX6_in_0 0 rfl ?_
  refine mw_iload_n dX6_in_1 1 rfl ?_
  refine mw_icmp_lt (tgt := 14) dX6_in_2 (by decide) (fun hc2 => ?_) (fun hc2 => ?_)
  · replace h := mh_ifp hc2 h
    refine mw_iconst (v := 0) dX6_in_14 (by decide) ?_
    obtain rfl := Option.some.inj h
    exact mw_zret dX6_in_15 rfl (Or.inl rfl) (Nat.le_of_ble_eq_true rfl) (Nat.le_refl 0) (mh_retz_rfl (Or.inl rfl))
  · replace h := mh_ifn hc2 h
    refine mw_iload_n dX6_in_5 0 rfl ?_
    refine mw_iload_n dX6_in_6 2 rfl ?_
    refine mw_icmp_gt (tgt := 14) dX6_in_7 (by decide) (fun hc1 => ?_) (fun hc1 => ?_)
    · replace h := mh_ifp hc1 h
      refine mw_iconst (v := 0) dX6_in_14 (by decide) ?_
      obtain rfl := Option.some.inj h
      exact mw_zret dX6_in_15 rfl (Or.inl rfl) (Nat.le_of_ble_eq_true rfl) (Nat.le_refl 0) (mh_retz_rfl (Or.inl rfl))
    · replace h := mh_ifn hc1 h
      refine mw_iconst (v := 1) dX6_in_10 (by decide) ?_
      refine mw_goto (tgt := 15) dX6_in_11 (by decide) ?_
      obtain rfl := Option.some.inj h
      exact mw_zret dX6_in_15 rfl (Or.inr rfl) (Nat.le_of_ble_eq_true rfl) (Nat.le_refl 0) (mh_retz_rfl (Or.inr rfl))
abbrev w_X6_within (sh : List mh_C) (Φ : mh_P) (I : mh_I) (L : mh_L) (pc : Nat) (lv : List (Nat × Value)) (st : List Value) : Prop := mh_W RX6 cX6_within 3 (some .int) false (mh_rm 0) 18 0 0 mh_noX Φ 0 sh I L pc lv st
def X6_within (p0 : Int32) (p1 : Int32) (p2 : Int32) : Option (Int32) := if p1 ≤ p0 then if p0 ≤ p2 then some p0 else some p2 else some p1
set_option maxHeartbeats 4000000 in
set_option maxRecDepth 100000 in
theorem t_X6_within {L : mh_L} {I : mh_I} {p0 : Int32} {p1 : Int32} {p2 : Int32} {res : Int32} (h : X6_within p0 p1 p2 = some res) : mh_CT yX6_within cX6_within 3 (some .int) (mh_rm 0) SHM I L [.int p0, .int p1, .int p2] (mh_ret (some (.int res)) SHM I L) := by
  refine mh_ofW (ini := false) RX6 rfl (by decide) (fun h => by cases h) (Nat.le_of_ble_eq_true rfl) ?_
  show w_X6_within SHM (mh_ret (some (.int res)) SHM I L) I L 0 [(0, .int p0), (1, .int p1), (2, .int p2)] []
  unfold X6_within at h
  refine mw_iload_n dX6_within_0 0 rfl ?_
  refine mw_iload_n dX6_within_1 1 rfl ?_
  refine mw_icmp_ge (tgt := 9) dX6_within_2 (by decide) (fun hc2 => ?_) (fun hc2 => ?_)
  · replace h := mh_ifp hc2 h
    refine mw_iload_n dX6_within_9 0 rfl ?_
    refine mw_iload_n dX6_within_10 2 rfl ?_
    refine mw_icmp_le (tgt := 18) dX6_within_11 (by decide) (fun hc1 => ?_) (fun hc1 => ?_)
    · replace h := mh_ifp hc1 h
      refine mw_iload_n dX6_within_18 0 rfl ?_
      obtain rfl := Option.some.inj h
      exact mw_iret dX6_within_19 rfl rfl (Nat.le_of_ble_eq_true rfl) (Nat.le_refl 0) mh_ret_rfl
    · replace h := mh_ifn hc1 h
      refine mw_iload_n dX6_within_14 2 rfl ?_
      refine mw_goto (tgt := 19) dX6_within_15 (by decide) ?_
      obtain rfl := Option.some.inj h
      exact mw_iret dX6_within_19 rfl rfl (Nat.le_of_ble_eq_true rfl) (Nat.le_refl 0) mh_ret_rfl
  · replace h := mh_ifn hc2 h
    refine mw_iload_n dX6_within_5 1 rfl ?_
    refine mw_goto (tgt := 19) dX6_within_6 (by decide) ?_
    obtain rfl := Option.some.inj h
    exact mw_iret dX6_within_19 rfl rfl (Nat.le_of_ble_eq_true rfl) (Nat.le_refl 0) mh_ret_rfl
abbrev w_X6_isLoop (sh : List mh_C) (Φ : mh_P) (I : mh_I) (L : mh_L) (pc : Nat) (lv : List (Nat × Value)) (st : List Value) : Prop := mh_W RX6 cX6_isLoop 1 (some .boolean) false (mh_rm 1) 18 0 0 mh_noX Φ 0 sh I L pc lv st
def X6_isLoop (p0 : Int32) : Option (Int32) := (X6_in p0 (0 : Int32) (47 : Int32)).bind (fun q1 => some q1)
set_option maxHeartbeats 4000000 in
set_option maxRecDepth 100000 in
theorem t_X6_isLoop {L : mh_L} {I : mh_I} {p0 : Int32} {res : Int32} (h : X6_isLoop p0 = some res) : mh_CT yX6_isLoop cX6_isLoop 1 (some .boolean) (mh_rm 1) SHM I L [.int p0] (mh_retz res SHM I L) := by
  refine mh_ofW (ini := false) RX6 rfl (by decide) (fun h => by cases h) (Nat.le_of_ble_eq_true rfl) ?_
  show w_X6_isLoop SHM (mh_retz res SHM I L) I L 0 [(0, .int p0)] []
  unfold X6_isLoop at h
  refine mw_iload_n dX6_isLoop_0 0 rfl ?_
  refine mw_iconst (v := 0) dX6_isLoop_1 (by decide) ?_
  refine mw_bipush (v := 47) dX6_isLoop_2 (by decide) ?_
  obtain ⟨q1, hq1, h⟩ := mh_bind h
  refine mw_sz (dc := 0) cs_X6_69 wd_722 dX6_isLoop_4 [.int p0, .int (0 : Int32), .int (47 : Int32)] [.int (47 : Int32), .int (0 : Int32), .int p0] rfl rfl (t_X6_in hq1) ⟨by decide, by decide⟩ (Nat.le_of_ble_eq_true rfl) ⟨rfl, rfl⟩ (fun zq1 => ?_)
  obtain rfl := Option.some.inj h
  exact mw_zret dX6_isLoop_7 rfl zq1 (Nat.le_of_ble_eq_true rfl) (Nat.le_refl 0) (mh_retz_rfl zq1)
abbrev w_X6_isPull (sh : List mh_C) (Φ : mh_P) (I : mh_I) (L : mh_L) (pc : Nat) (lv : List (Nat × Value)) (st : List Value) : Prop := mh_W RX6 cX6_isPull 1 (some .boolean) false (mh_rm 1) 18 0 0 mh_noX Φ 0 sh I L pc lv st
def X6_isPull (p0 : Int32) : Option (Int32) := (X6_in p0 (0 : Int32) (99 : Int32)).bind (fun q1 => some q1)
set_option maxHeartbeats 4000000 in
set_option maxRecDepth 100000 in
theorem t_X6_isPull {L : mh_L} {I : mh_I} {p0 : Int32} {res : Int32} (h : X6_isPull p0 = some res) : mh_CT yX6_isPull cX6_isPull 1 (some .boolean) (mh_rm 1) SHM I L [.int p0] (mh_retz res SHM I L) := by
  refine mh_ofW (ini := false) RX6 rfl (by decide) (fun h => by cases h) (Nat.le_of_ble_eq_true rfl) ?_
  show w_X6_isPull SHM (mh_retz res SHM I L) I L 0 [(0, .int p0)] []
  unfold X6_isPull at h
  refine mw_iload_n dX6_isPull_0 0 rfl ?_
  refine mw_iconst (v := 0) dX6_isPull_1 (by decide) ?_
  refine mw_bipush (v := 99) dX6_isPull_2 (by decide) ?_
  obtain ⟨q1, hq1, h⟩ := mh_bind h
  refine mw_sz (dc := 0) cs_X6_69 wd_722 dX6_isPull_4 [.int p0, .int (0 : Int32), .int (99 : Int32)] [.int (99 : Int32), .int (0 : Int32), .int p0] rfl rfl (t_X6_in hq1) ⟨by decide, by decide⟩ (Nat.le_of_ble_eq_true rfl) ⟨rfl, rfl⟩ (fun zq1 => ?_)
  obtain rfl := Option.some.inj h
  exact mw_zret dX6_isPull_7 rfl zq1 (Nat.le_of_ble_eq_true rfl) (Nat.le_refl 0) (mh_retz_rfl zq1)
abbrev w_X6_manyIn (sh : List mh_C) (Φ : mh_P) (I : mh_I) (L : mh_L) (pc : Nat) (lv : List (Nat × Value)) (st : List Value) : Prop := mh_W RX6 cX6_manyIn 4 (some .int) false (mh_rm 0) 18 0 0 mh_noX Φ 0 sh I L pc lv st
def X6_manyIn_l4 (u1 : Int32) (I : mh_I) : Nat → Int32 → Int32 → Option (Int32)
  | 0, _, _ => none
  | n + 1, u2, u3 => if (48 : Int32) ≤ u3 then some u2 else mh_j (fun (s1 : Int32) => mh_b (u2 + s1) (fun b8 => mh_b (u3 + (1 : Int32)) (fun b9 => (X6_manyIn_l4 u1 I n b8 b9)))) (fun J2 => if u1 = 0 then mh_ix u3 48 (fun k5 => (J2 (I 3 k5))) else mh_ix u3 48 (fun k3 => (J2 (I 4 k3))))
set_option maxHeartbeats 4000000 in
set_option maxRecDepth 100000 in
theorem t_X6_manyIn_l4 {u1 : Int32} {I : mh_I} {L : mh_L} {res : Int32} (n : Nat) (u2 : Int32) (u3 : Int32) (h : X6_manyIn_l4 u1 I n u2 u3 = some res)  : w_X6_manyIn SHM (mh_ret (some (.int res)) SHM I L) I L 4 [(0, .ref 0), (1, .int u1), (2, .int u2), (3, .int u3)] [] := by
  induction n generalizing u2 u3 with
  | zero => rw [X6_manyIn_l4] at h; cases h
  | succ n ih =>
    rw [X6_manyIn_l4] at h
    refine mw_iload_n dX6_manyIn_4 3 rfl ?_
    refine mw_bipush (v := 48) dX6_manyIn_5 (by decide) ?_
    refine mw_icmp_ge (tgt := 38) dX6_manyIn_7 (by decide) (fun hc10 => ?_) (fun hc10 => ?_)
    · replace h := mh_ifp hc10 h
      refine mw_iload_n dX6_manyIn_38 2 rfl ?_
      obtain rfl := Option.some.inj h
      exact mw_iret dX6_manyIn_39 rfl rfl (Nat.le_of_ble_eq_true rfl) (Nat.le_refl 0) mh_ret_rfl
    · replace h := mh_ifn hc10 h
      refine mw_iload_n dX6_manyIn_10 2 rfl ?_
      refine mw_iload_n dX6_manyIn_11 1 rfl ?_
      refine mh_jw (fun J2 => ∀ (s1 : Int32), J2 s1 = some res → w_X6_manyIn SHM (mh_ret (some (.int res)) SHM I L) I L 30 [(0, .ref 0), (1, .int u1), (3, .int u3)] [.int s1, .int u2]) h (fun s1 h => ?_) (fun J2 hJ2 h => ?_)
      · refine mw_iadd dX6_manyIn_30 ?_
        obtain ⟨b8, eb8, h⟩ := mh_b_some h
        refine mw_nmi eb8 ?_
        refine mw_istore_n dX6_manyIn_31 (by decide) rfl ?_
        obtain ⟨b9, eb9, h⟩ := mh_b_some h
        refine mw_iinc (v := b9) dX6_manyIn_32 3 rfl (by rw [← eb9]; rfl) (by decide) rfl ?_
        refine mw_goto (tgt := 4) dX6_manyIn_35 (by decide) ?_
        refine mw_loc [2, 3, 1, 0] rfl ?_
        exact ih _ _ h
      · refine mw_if_ne (tgt := 24) dX6_manyIn_12 (by decide) (fun hc7 => ?_) (fun hc7 => ?_)
        · replace h := mh_ifn hc7 h
          refine mw_aload_n dX6_manyIn_24 0 rfl ?_
          refine mw_getr (b := 4) (fs := fsX6) gf_X6_19 dX6_manyIn_25 rfl rfl ?_
          refine mw_iload_n dX6_manyIn_28 3 rfl ?_
          obtain ⟨k3, hk4, hk4n, hk4l, h⟩ := mh_ix_some h
          refine mw_xiald dX6_manyIn_29 rfl hk4 hk4n ?_
          refine mw_loc [0, 1, 3] rfl ?_
          exact hJ2 _ h
        · replace h := mh_ifp hc7 h
          refine mw_aload_n dX6_manyIn_15 0 rfl ?_
          refine mw_getr (b := 3) (fs := fsX6) gf_X6_16 dX6_manyIn_16 rfl rfl ?_
          refine mw_iload_n dX6_manyIn_19 3 rfl ?_
          obtain ⟨k5, hk6, hk6n, hk6l, h⟩ := mh_ix_some h
          refine mw_xiald dX6_manyIn_20 rfl hk6 hk6n ?_
          refine mw_goto (tgt := 30) dX6_manyIn_21 (by decide) ?_
          refine mw_loc [0, 1, 3] rfl ?_
          exact hJ2 _ h
def X6_manyIn (p1 : Int32) (I : mh_I) : Option (Int32) := X6_manyIn_l4 p1 I mh_fuel (0 : Int32) (0 : Int32)
set_option maxHeartbeats 4000000 in
set_option maxRecDepth 100000 in
theorem t_X6_manyIn {L : mh_L} {I : mh_I} {p1 : Int32} {res : Int32} (h : X6_manyIn p1 I = some res) : mh_CT yX6_manyIn cX6_manyIn 4 (some .int) (mh_rm 0) SHM I L [.ref 0, .int p1] (mh_ret (some (.int res)) SHM I L) := by
  refine mh_ofW (ini := false) RX6 rfl (by decide) (fun h => by cases h) (Nat.le_of_ble_eq_true rfl) ?_
  show w_X6_manyIn SHM (mh_ret (some (.int res)) SHM I L) I L 0 [(0, .ref 0), (1, .int p1)] []
  unfold X6_manyIn at h
  refine mw_iconst (v := 0) dX6_manyIn_0 (by decide) ?_
  refine mw_istore_n dX6_manyIn_1 (by decide) rfl ?_
  refine mw_iconst (v := 0) dX6_manyIn_2 (by decide) ?_
  refine mw_istore_n dX6_manyIn_3 (by decide) rfl ?_
  refine mw_loc [2, 3, 1, 0] rfl ?_
  exact t_X6_manyIn_l4  _ _ _ h 
abbrev w_X6_count (sh : List mh_C) (Φ : mh_P) (I : mh_I) (L : mh_L) (pc : Nat) (lv : List (Nat × Value)) (st : List Value) : Prop := mh_W RX6 cX6_count 2 (some .int) false (mh_rm 1) 18 0 0 mh_noX Φ 0 sh I L pc lv st
def X6_count (p1 : Int32) (I : mh_I) : Option (Int32) := mh_j ((X6_manyIn p1 I).bind (fun q7 => some q7)) (fun J1 => if p1 = 0 then J1 else if p1 = 1 then J1 else if p1 = 2 then some (I 0 8) else if p1 = 3 then some (I 0 9) else if p1 = 4 then some (I 0 5) else some (-2 : Int32))
set_option maxHeartbeats 4000000 in
set_option maxRecDepth 100000 in
theorem t_X6_count {L : mh_L} {I : mh_I} {p1 : Int32} {res : Int32} (h : X6_count p1 I = some res) : mh_CT yX6_count cX6_count 2 (some .int) (mh_rm 1) SHM I L [.ref 0, .int p1] (mh_ret (some (.int res)) SHM I L) := by
  refine mh_ofW (ini := false) RX6 rfl (by decide) (fun h => by cases h) (Nat.le_of_ble_eq_true rfl) ?_
  show w_X6_count SHM (mh_ret (some (.int res)) SHM I L) I L 0 [(0, .ref 0), (1, .int p1)] []
  unfold X6_count at h
  refine mw_iload_n dX6_count_0 1 rfl ?_
  refine mh_jw (fun J1 => J1 = some res → w_X6_count SHM (mh_ret (some (.int res)) SHM I L) I L 36 [(0, .ref 0), (1, .int p1)] []) h (fun h => ?_) (fun J1 hJ1 h => ?_)
  · refine mw_aload_n dX6_count_36 0 rfl ?_
    refine mw_iload_n dX6_count_37 1 rfl ?_
    obtain ⟨q7, hq7, h⟩ := mh_bind h
    refine mw_vr (dc := 0) (ci := 6) (fs := fsX6) (T := TX6) (N := 30) cv_X6_73 wd_857 dX6_count_38 [.int p1] [.int p1, .ref 0] rfl rfl rfl rfl (t_X6_manyIn hq7) ⟨by decide, by decide⟩ (Nat.le_of_ble_eq_true rfl) ⟨rfl, rfl⟩ ?_
    obtain rfl := Option.some.inj h
    exact mw_iret dX6_count_41 rfl rfl (Nat.le_of_ble_eq_true rfl) (Nat.le_refl 0) mh_ret_rfl
  · by_cases hc2 : p1 = 0
    · replace h := mh_ifp hc2 h
      refine mw_tableIn (off := 35) (tgt := 36) dX6_count_1 (by rw [hc2]; decide) (by rw [hc2]; decide) (by rw [hc2]; rfl) (by decide) ?_
      refine mw_loc [0, 1] rfl ?_
      exact hJ1  h
    · replace h := mh_ifn hc2 h
      by_cases hc3 : p1 = 1
      · replace h := mh_ifp hc3 h
        refine mw_tableIn (off := 35) (tgt := 36) dX6_count_1 (by rw [hc3]; decide) (by rw [hc3]; decide) (by rw [hc3]; rfl) (by decide) ?_
        refine mw_loc [0, 1] rfl ?_
        exact hJ1  h
      · replace h := mh_ifn hc3 h
        by_cases hc4 : p1 = 2
        · replace h := mh_ifp hc4 h
          refine mw_tableIn (off := 41) (tgt := 42) dX6_count_1 (by rw [hc4]; decide) (by rw [hc4]; decide) (by rw [hc4]; rfl) (by decide) ?_
          refine mw_aload_n dX6_count_42 0 rfl ?_
          refine mw_geti (fs := fsX6) gf_X6_77 dX6_count_43 rfl rfl ?_
          obtain rfl := Option.some.inj h
          exact mw_iret dX6_count_46 rfl rfl (Nat.le_of_ble_eq_true rfl) (Nat.le_refl 0) mh_ret_rfl
        · replace h := mh_ifn hc4 h
          by_cases hc5 : p1 = 3
          · replace h := mh_ifp hc5 h
            refine mw_tableIn (off := 46) (tgt := 47) dX6_count_1 (by rw [hc5]; decide) (by rw [hc5]; decide) (by rw [hc5]; rfl) (by decide) ?_
            refine mw_aload_n dX6_count_47 0 rfl ?_
            refine mw_geti (fs := fsX6) gf_X6_80 dX6_count_48 rfl rfl ?_
            obtain rfl := Option.some.inj h
            exact mw_iret dX6_count_51 rfl rfl (Nat.le_of_ble_eq_true rfl) (Nat.le_refl 0) mh_ret_rfl
          · replace h := mh_ifn hc5 h
            by_cases hc6 : p1 = 4
            · replace h := mh_ifp hc6 h
              refine mw_tableIn (off := 51) (tgt := 52) dX6_count_1 (by rw [hc6]; decide) (by rw [hc6]; decide) (by rw [hc6]; rfl) (by decide) ?_
              refine mw_aload_n dX6_count_52 0 rfl ?_
              refine mw_geti (fs := fsX6) gf_X6_61 dX6_count_53 rfl rfl ?_
              obtain rfl := Option.some.inj h
              exact mw_iret dX6_count_56 rfl rfl (Nat.le_of_ble_eq_true rfl) (Nat.le_refl 0) mh_ret_rfl
            · replace h := mh_ifn hc6 h
              refine mw_tableOut (tgt := 57) dX6_count_1 (by have e0 := mh_ne (n := 0) hc2 (by decide); have e1 := mh_ne (n := 1) hc3 (by decide); have e2 := mh_ne (n := 2) hc4 (by decide); have e3 := mh_ne (n := 3) hc5 (by decide); have e4 := mh_ne (n := 4) hc6 (by decide); omega) (by decide) ?_
              refine mw_bipush (v := -2) dX6_count_57 (by decide) ?_
              obtain rfl := Option.some.inj h
              exact mw_iret dX6_count_59 rfl rfl (Nat.le_of_ble_eq_true rfl) (Nat.le_refl 0) mh_ret_rfl
abbrev w_X6_isByte (sh : List mh_C) (Φ : mh_P) (I : mh_I) (L : mh_L) (pc : Nat) (lv : List (Nat × Value)) (st : List Value) : Prop := mh_W RX6 cX6_isByte 1 (some .boolean) false (mh_rm 1) 18 0 0 mh_noX Φ 0 sh I L pc lv st
def X6_isByte (p0 : Int32) : Option (Int32) := (X6_in p0 (0 : Int32) (255 : Int32)).bind (fun q1 => some q1)
set_option maxHeartbeats 4000000 in
set_option maxRecDepth 100000 in
theorem t_X6_isByte {L : mh_L} {I : mh_I} {p0 : Int32} {res : Int32} (h : X6_isByte p0 = some res) : mh_CT yX6_isByte cX6_isByte 1 (some .boolean) (mh_rm 1) SHM I L [.int p0] (mh_retz res SHM I L) := by
  refine mh_ofW (ini := false) RX6 rfl (by decide) (fun h => by cases h) (Nat.le_of_ble_eq_true rfl) ?_
  show w_X6_isByte SHM (mh_retz res SHM I L) I L 0 [(0, .int p0)] []
  unfold X6_isByte at h
  refine mw_iload_n dX6_isByte_0 0 rfl ?_
  refine mw_iconst (v := 0) dX6_isByte_1 (by decide) ?_
  refine mw_sipush (v := 255) dX6_isByte_2 (by decide) ?_
  obtain ⟨q1, hq1, h⟩ := mh_bind h
  refine mw_sz (dc := 0) cs_X6_69 wd_722 dX6_isByte_5 [.int p0, .int (0 : Int32), .int (255 : Int32)] [.int (255 : Int32), .int (0 : Int32), .int p0] rfl rfl (t_X6_in hq1) ⟨by decide, by decide⟩ (Nat.le_of_ble_eq_true rfl) ⟨rfl, rfl⟩ (fun zq1 => ?_)
  obtain rfl := Option.some.inj h
  exact mw_zret dX6_isByte_8 rfl zq1 (Nat.le_of_ble_eq_true rfl) (Nat.le_refl 0) (mh_retz_rfl zq1)
abbrev w_X6_feed (sh : List mh_C) (Φ : mh_P) (I : mh_I) (L : mh_L) (pc : Nat) (lv : List (Nat × Value)) (st : List Value) : Prop := mh_W RX6 cX6_feed 8 (some .int) false (mh_rm 2) 18 0 0 mh_noX Φ 0 sh I L pc lv st
def X6_feed_l68 (u1 : Int32) (u2 : Int32) (u3 : Int32) (u4 : Int32) (u5 : Int32) (u6 : Int32) : Nat → Int32 → mh_I → Option (Int32 × mh_I)
  | 0, _, _ => none
  | n + 1, u7, I => if u1 ≤ u7 then some ((I 0 5), I) else mh_j (fun (s7 : Int32) => mh_ix (I 0 5) 160 (fun k13 => mh_b (u7 + (1 : Int32)) (fun b15 => (X6_feed_l68 u1 u2 u3 u4 u5 u6 n b15 (mh_u (mh_u I 5 k13 s7) 0 5 (((mh_u I 5 k13 s7) 0 5) + (1 : Int32))))))) (fun J8 => if u7 = 0 then (J8 u2) else if u7 = (1 : Int32) then (J8 u3) else if u7 = (2 : Int32) then (J8 u4) else if u7 = (3 : Int32) then (J8 u5) else (J8 u6))
set_option maxHeartbeats 4000000 in
set_option maxRecDepth 100000 in
theorem t_X6_feed_l68 {u1 : Int32} {u2 : Int32} {u3 : Int32} {u4 : Int32} {u5 : Int32} {u6 : Int32} {L : mh_L} {res : Int32 × mh_I} (n : Nat) (u7 : Int32) (I : mh_I) (h : X6_feed_l68 u1 u2 u3 u4 u5 u6 n u7 I = some res)  : w_X6_feed SHM (mh_ret (some (.int res.1)) SHM res.2 L) I L 68 [(0, .ref 0), (1, .int u1), (2, .int u2), (3, .int u3), (4, .int u4), (5, .int u5), (6, .int u6), (7, .int u7)] [] := by
  induction n generalizing u7 I with
  | zero => rw [X6_feed_l68] at h; cases h
  | succ n ih =>
    rw [X6_feed_l68] at h
    refine mw_iload dX6_feed_68 7 rfl ?_
    refine mw_iload_n dX6_feed_70 1 rfl ?_
    refine mw_icmp_ge (tgt := 142) dX6_feed_71 (by decide) (fun hc16 => ?_) (fun hc16 => ?_)
    · replace h := mh_ifp hc16 h
      refine mw_aload_n dX6_feed_142 0 rfl ?_
      refine mw_geti (fs := fsX6) gf_X6_61 dX6_feed_143 rfl rfl ?_
      obtain rfl := Option.some.inj h
      exact mw_iret dX6_feed_146 rfl rfl (Nat.le_of_ble_eq_true rfl) (Nat.le_refl 0) mh_ret_rfl
    · replace h := mh_ifn hc16 h
      refine mw_aload_n dX6_feed_74 0 rfl ?_
      refine mw_getr (b := 5) (fs := fsX6) gf_X6_22 dX6_feed_75 rfl rfl ?_
      refine mw_aload_n dX6_feed_78 0 rfl ?_
      refine mw_geti (fs := fsX6) gf_X6_61 dX6_feed_79 rfl rfl ?_
      refine mw_iload dX6_feed_82 7 rfl ?_
      refine mh_jw (fun J8 => ∀ (s7 : Int32), J8 s7 = some res → w_X6_feed SHM (mh_ret (some (.int res.1)) SHM res.2 L) I L 125 [(0, .ref 0), (1, .int u1), (2, .int u2), (3, .int u3), (4, .int u4), (5, .int u5), (6, .int u6), (7, .int u7)] [.int s7, .int (I 0 5), .ref 5]) h (fun s7 h => ?_) (fun J8 hJ8 h => ?_)
      · obtain ⟨k13, hk14, hk14n, hk14l, h⟩ := mh_ix_some h
        refine mw_xiast dX6_feed_125 rfl hk14 hk14n ?_
        refine mw_aload_n dX6_feed_126 0 rfl ?_
        refine mw_dup dX6_feed_127 rfl ?_
        refine mw_geti (fs := fsX6) gf_X6_61 dX6_feed_128 rfl rfl ?_
        refine mw_iconst (v := 1) dX6_feed_131 (by decide) ?_
        refine mw_iadd dX6_feed_132 ?_
        refine mw_puti (fs := fsX6) pf_X6_61 (fun h => by cases h) rfl rfl dX6_feed_133 rfl rfl ?_
        obtain ⟨b15, eb15, h⟩ := mh_b_some h
        refine mw_iinc (v := b15) dX6_feed_136 7 rfl (by rw [← eb15]; rfl) (by decide) rfl ?_
        refine mw_goto (tgt := 68) dX6_feed_139 (by decide) ?_
        refine mw_loc [1, 2, 3, 4, 5, 6, 7, 0] rfl ?_
        exact ih _ _ h
      · refine mw_if_ne (tgt := 91) dX6_feed_84 (by decide) (fun hc12 => ?_) (fun hc12 => ?_)
        · replace h := mh_ifn hc12 h
          refine mw_iload dX6_feed_91 7 rfl ?_
          refine mw_iconst (v := 1) dX6_feed_93 (by decide) ?_
          refine mw_icmp_ne (tgt := 101) dX6_feed_94 (by decide) (fun hc11 => ?_) (fun hc11 => ?_)
          · replace h := mh_ifn hc11 h
            refine mw_iload dX6_feed_101 7 rfl ?_
            refine mw_iconst (v := 2) dX6_feed_103 (by decide) ?_
            refine mw_icmp_ne (tgt := 112) dX6_feed_104 (by decide) (fun hc10 => ?_) (fun hc10 => ?_)
            · replace h := mh_ifn hc10 h
              refine mw_iload dX6_feed_112 7 rfl ?_
              refine mw_iconst (v := 3) dX6_feed_114 (by decide) ?_
              refine mw_icmp_ne (tgt := 123) dX6_feed_115 (by decide) (fun hc9 => ?_) (fun hc9 => ?_)
              · replace h := mh_ifn hc9 h
                refine mw_iload dX6_feed_123 6 rfl ?_
                refine mw_loc [0, 1, 2, 3, 4, 5, 6, 7] rfl ?_
                exact hJ8 _ h
              · replace h := mh_ifp hc9 h
                refine mw_iload dX6_feed_118 5 rfl ?_
                refine mw_goto (tgt := 125) dX6_feed_120 (by decide) ?_
                refine mw_loc [0, 1, 2, 3, 4, 5, 6, 7] rfl ?_
                exact hJ8 _ h
            · replace h := mh_ifp hc10 h
              refine mw_iload dX6_feed_107 4 rfl ?_
              refine mw_goto (tgt := 125) dX6_feed_109 (by decide) ?_
              refine mw_loc [0, 1, 2, 3, 4, 5, 6, 7] rfl ?_
              exact hJ8 _ h
          · replace h := mh_ifp hc11 h
            refine mw_iload_n dX6_feed_97 3 rfl ?_
            refine mw_goto (tgt := 125) dX6_feed_98 (by decide) ?_
            refine mw_loc [0, 1, 2, 3, 4, 5, 6, 7] rfl ?_
            exact hJ8 _ h
        · replace h := mh_ifp hc12 h
          refine mw_iload_n dX6_feed_87 2 rfl ?_
          refine mw_goto (tgt := 125) dX6_feed_88 (by decide) ?_
          refine mw_loc [0, 1, 2, 3, 4, 5, 6, 7] rfl ?_
          exact hJ8 _ h
def X6_feed (p1 : Int32) (p2 : Int32) (p3 : Int32) (p4 : Int32) (p5 : Int32) (p6 : Int32) (I : mh_I) : Option (Int32 × mh_I) := (X6_in p1 (1 : Int32) (5 : Int32)).bind (fun q1 => if q1 = 0 then some ((-2 : Int32), I) else (X6_isByte p2).bind (fun q2 => if q2 = 0 then some ((-2 : Int32), I) else (X6_isByte p3).bind (fun q3 => if q3 = 0 then some ((-2 : Int32), I) else (X6_isByte p4).bind (fun q4 => if q4 = 0 then some ((-2 : Int32), I) else (X6_isByte p5).bind (fun q5 => if q5 = 0 then some ((-2 : Int32), I) else (X6_isByte p6).bind (fun q6 => if q6 = 0 then some ((-2 : Int32), I) else if ((I 0 5) + p1) ≤ (160 : Int32) then X6_feed_l68 p1 p2 p3 p4 p5 p6 mh_fuel (0 : Int32) I else some ((-4 : Int32), I)))))))
set_option maxHeartbeats 4000000 in
set_option maxRecDepth 100000 in
theorem t_X6_feed {L : mh_L} {I : mh_I} {p1 : Int32} {p2 : Int32} {p3 : Int32} {p4 : Int32} {p5 : Int32} {p6 : Int32} {res : Int32 × mh_I} (h : X6_feed p1 p2 p3 p4 p5 p6 I = some res) : mh_CT yX6_feed cX6_feed 8 (some .int) (mh_rm 2) SHM I L [.ref 0, .int p1, .int p2, .int p3, .int p4, .int p5, .int p6] (mh_ret (some (.int res.1)) SHM res.2 L) := by
  refine mh_ofW (ini := false) RX6 rfl (by decide) (fun h => by cases h) (Nat.le_of_ble_eq_true rfl) ?_
  show w_X6_feed SHM (mh_ret (some (.int res.1)) SHM res.2 L) I L 0 [(0, .ref 0), (1, .int p1), (2, .int p2), (3, .int p3), (4, .int p4), (5, .int p5), (6, .int p6)] []
  unfold X6_feed at h
  refine mw_iload_n dX6_feed_0 1 rfl ?_
  refine mw_iconst (v := 1) dX6_feed_1 (by decide) ?_
  refine mw_iconst (v := 5) dX6_feed_2 (by decide) ?_
  obtain ⟨q1, hq1, h⟩ := mh_bind h
  refine mw_sz (dc := 0) cs_X6_69 wd_722 dX6_feed_3 [.int p1, .int (1 : Int32), .int (5 : Int32)] [.int (5 : Int32), .int (1 : Int32), .int p1] rfl rfl (t_X6_in hq1) ⟨by decide, by decide⟩ (Nat.le_of_ble_eq_true rfl) ⟨rfl, rfl⟩ (fun zq1 => ?_)
  refine mw_if_eq (tgt := 47) dX6_feed_6 (by decide) (fun hc23 => ?_) (fun hc23 => ?_)
  · replace h := mh_ifp hc23 h
    refine mw_bipush (v := -2) dX6_feed_47 (by decide) ?_
    obtain rfl := Option.some.inj h
    exact mw_iret dX6_feed_49 rfl rfl (Nat.le_of_ble_eq_true rfl) (Nat.le_refl 0) mh_ret_rfl
  · replace h := mh_ifn hc23 h
    refine mw_iload_n dX6_feed_9 2 rfl ?_
    obtain ⟨q2, hq2, h⟩ := mh_bind h
    refine mw_sz (dc := 1) cs_X6_83 wd_864 dX6_feed_10 [.int p2] [.int p2] rfl rfl (t_X6_isByte hq2) ⟨by decide, by decide⟩ (Nat.le_of_ble_eq_true rfl) ⟨rfl, rfl⟩ (fun zq2 => ?_)
    refine mw_if_eq (tgt := 47) dX6_feed_13 (by decide) (fun hc22 => ?_) (fun hc22 => ?_)
    · replace h := mh_ifp hc22 h
      refine mw_bipush (v := -2) dX6_feed_47 (by decide) ?_
      obtain rfl := Option.some.inj h
      exact mw_iret dX6_feed_49 rfl rfl (Nat.le_of_ble_eq_true rfl) (Nat.le_refl 0) mh_ret_rfl
    · replace h := mh_ifn hc22 h
      refine mw_iload_n dX6_feed_16 3 rfl ?_
      obtain ⟨q3, hq3, h⟩ := mh_bind h
      refine mw_sz (dc := 1) cs_X6_83 wd_864 dX6_feed_17 [.int p3] [.int p3] rfl rfl (t_X6_isByte hq3) ⟨by decide, by decide⟩ (Nat.le_of_ble_eq_true rfl) ⟨rfl, rfl⟩ (fun zq3 => ?_)
      refine mw_if_eq (tgt := 47) dX6_feed_20 (by decide) (fun hc21 => ?_) (fun hc21 => ?_)
      · replace h := mh_ifp hc21 h
        refine mw_bipush (v := -2) dX6_feed_47 (by decide) ?_
        obtain rfl := Option.some.inj h
        exact mw_iret dX6_feed_49 rfl rfl (Nat.le_of_ble_eq_true rfl) (Nat.le_refl 0) mh_ret_rfl
      · replace h := mh_ifn hc21 h
        refine mw_iload dX6_feed_23 4 rfl ?_
        obtain ⟨q4, hq4, h⟩ := mh_bind h
        refine mw_sz (dc := 1) cs_X6_83 wd_864 dX6_feed_25 [.int p4] [.int p4] rfl rfl (t_X6_isByte hq4) ⟨by decide, by decide⟩ (Nat.le_of_ble_eq_true rfl) ⟨rfl, rfl⟩ (fun zq4 => ?_)
        refine mw_if_eq (tgt := 47) dX6_feed_28 (by decide) (fun hc20 => ?_) (fun hc20 => ?_)
        · replace h := mh_ifp hc20 h
          refine mw_bipush (v := -2) dX6_feed_47 (by decide) ?_
          obtain rfl := Option.some.inj h
          exact mw_iret dX6_feed_49 rfl rfl (Nat.le_of_ble_eq_true rfl) (Nat.le_refl 0) mh_ret_rfl
        · replace h := mh_ifn hc20 h
          refine mw_iload dX6_feed_31 5 rfl ?_
          obtain ⟨q5, hq5, h⟩ := mh_bind h
          refine mw_sz (dc := 1) cs_X6_83 wd_864 dX6_feed_33 [.int p5] [.int p5] rfl rfl (t_X6_isByte hq5) ⟨by decide, by decide⟩ (Nat.le_of_ble_eq_true rfl) ⟨rfl, rfl⟩ (fun zq5 => ?_)
          refine mw_if_eq (tgt := 47) dX6_feed_36 (by decide) (fun hc19 => ?_) (fun hc19 => ?_)
          · replace h := mh_ifp hc19 h
            refine mw_bipush (v := -2) dX6_feed_47 (by decide) ?_
            obtain rfl := Option.some.inj h
            exact mw_iret dX6_feed_49 rfl rfl (Nat.le_of_ble_eq_true rfl) (Nat.le_refl 0) mh_ret_rfl
          · replace h := mh_ifn hc19 h
            refine mw_iload dX6_feed_39 6 rfl ?_
            obtain ⟨q6, hq6, h⟩ := mh_bind h
            refine mw_sz (dc := 1) cs_X6_83 wd_864 dX6_feed_41 [.int p6] [.int p6] rfl rfl (t_X6_isByte hq6) ⟨by decide, by decide⟩ (Nat.le_of_ble_eq_true rfl) ⟨rfl, rfl⟩ (fun zq6 => ?_)
            refine mw_if_ne (tgt := 50) dX6_feed_44 (by decide) (fun hc18 => ?_) (fun hc18 => ?_)
            · replace h := mh_ifn hc18 h
              refine mw_aload_n dX6_feed_50 0 rfl ?_
              refine mw_geti (fs := fsX6) gf_X6_61 dX6_feed_51 rfl rfl ?_
              refine mw_iload_n dX6_feed_54 1 rfl ?_
              refine mw_iadd dX6_feed_55 ?_
              refine mw_sipush (v := 160) dX6_feed_56 (by decide) ?_
              refine mw_icmp_le (tgt := 65) dX6_feed_59 (by decide) (fun hc17 => ?_) (fun hc17 => ?_)
              · replace h := mh_ifp hc17 h
                refine mw_iconst (v := 0) dX6_feed_65 (by decide) ?_
                refine mw_istore dX6_feed_66 (by decide) rfl ?_
                refine mw_loc [1, 2, 3, 4, 5, 6, 7, 0] rfl ?_
                exact t_X6_feed_l68  _ _ _ h 
              · replace h := mh_ifn hc17 h
                refine mw_bipush (v := -4) dX6_feed_62 (by decide) ?_
                obtain rfl := Option.some.inj h
                exact mw_iret dX6_feed_64 rfl rfl (Nat.le_of_ble_eq_true rfl) (Nat.le_refl 0) mh_ret_rfl
            · replace h := mh_ifp hc18 h
              refine mw_bipush (v := -2) dX6_feed_47 (by decide) ?_
              obtain rfl := Option.some.inj h
              exact mw_iret dX6_feed_49 rfl rfl (Nat.le_of_ble_eq_true rfl) (Nat.le_refl 0) mh_ret_rfl
abbrev w_X6_wordFrom (sh : List mh_C) (Φ : mh_P) (I : mh_I) (L : mh_L) (pc : Nat) (lv : List (Nat × Value)) (st : List Value) : Prop := mh_W RX6 cX6_wordFrom 6 (some .int) false (mh_rm 0) 18 0 0 mh_noX Φ 0 sh I L pc lv st
def X6_wordFrom_l26 (u1 : Int32) (u2 : Int32) (u3 : Int32) (I : mh_I) (k88 : (Int32 → Option (Int32))) : Nat → Int32 → Int32 → Option (Int32)
  | 0, _, _ => none
  | n + 1, u4, u5 => if (8 : Int32) ≤ u5 then (k88 u4) else if u4 = 0 then (k88 u4) else mh_ix (((8 : Int32) * u3) + u5) 96 (fun k4 => mh_j (fun (s6 : Int32) => mh_j (fun (s11 : Int32) => mh_b (u5 + (1 : Int32)) (fun b14 => (X6_wordFrom_l26 u1 u2 u3 I k88 n s11 b14))) (fun J12 => if (I 13 k4) = s6 then (J12 (1 : Int32)) else (J12 (0 : Int32)))) (fun J7 => if u2 ≤ (u1 + u5) then (J7 (32 : Int32)) else mh_ix (u1 + u5) 160 (fun k8 => (J7 (I 5 k8)))))
set_option maxHeartbeats 4000000 in
set_option maxRecDepth 100000 in
theorem t_X6_wordFrom_l26 {u1 : Int32} {u2 : Int32} {u3 : Int32} {k88 : (Int32 → Option (Int32))} {I : mh_I} {L : mh_L} {res : Int32} (n : Nat) (u4 : Int32) (u5 : Int32) (h : X6_wordFrom_l26 u1 u2 u3 I k88 n u4 u5 = some res) (hk88 : ∀ (u4 : Int32), k88 u4 = some res → w_X6_wordFrom SHM (mh_ret (some (.int res)) SHM I L) I L 88 [(0, .ref 0), (1, .int u1), (2, .int u2), (3, .int u3), (4, .int u4)] []) : w_X6_wordFrom SHM (mh_ret (some (.int res)) SHM I L) I L 26 [(0, .ref 0), (1, .int u1), (2, .int u2), (3, .int u3), (4, .int u4), (5, .int u5)] [] := by
  induction n generalizing u4 u5 with
  | zero => rw [X6_wordFrom_l26] at h; cases h
  | succ n ih =>
    rw [X6_wordFrom_l26] at h
    refine mw_iload dX6_wordFrom_26 5 rfl ?_
    refine mw_bipush (v := 8) dX6_wordFrom_28 (by decide) ?_
    refine mw_icmp_ge (tgt := 88) dX6_wordFrom_30 (by decide) (fun hc16 => ?_) (fun hc16 => ?_)
    · replace h := mh_ifp hc16 h
      refine mw_loc [0, 1, 2, 3, 4] rfl ?_
      exact hk88 _ h
    · replace h := mh_ifn hc16 h
      refine mw_iload dX6_wordFrom_33 4 rfl ?_
      refine mw_if_eq (tgt := 88) dX6_wordFrom_35 (by decide) (fun hc15 => ?_) (fun hc15 => ?_)
      · replace h := mh_ifp hc15 h
        refine mw_loc [0, 1, 2, 3, 4] rfl ?_
        exact hk88 _ h
      · replace h := mh_ifn hc15 h
        refine mw_aload_n dX6_wordFrom_38 0 rfl ?_
        refine mw_getr (b := 13) (fs := fsX6) gf_X6_46 dX6_wordFrom_39 rfl rfl ?_
        refine mw_bipush (v := 8) dX6_wordFrom_42 (by decide) ?_
        refine mw_iload_n dX6_wordFrom_44 3 rfl ?_
        refine mw_imul dX6_wordFrom_45 ?_
        refine mw_iload dX6_wordFrom_46 5 rfl ?_
        refine mw_iadd dX6_wordFrom_48 ?_
        obtain ⟨k4, hk5, hk5n, hk5l, h⟩ := mh_ix_some h
        refine mw_xiald dX6_wordFrom_49 rfl hk5 hk5n ?_
        refine mw_iload_n dX6_wordFrom_50 1 rfl ?_
        refine mw_iload dX6_wordFrom_51 5 rfl ?_
        refine mw_iadd dX6_wordFrom_53 ?_
        refine mw_iload_n dX6_wordFrom_54 2 rfl ?_
        refine mh_jw (fun J7 => ∀ (s6 : Int32), J7 s6 = some res → w_X6_wordFrom SHM (mh_ret (some (.int res)) SHM I L) I L 72 [(0, .ref 0), (1, .int u1), (2, .int u2), (3, .int u3), (5, .int u5)] [.int s6, .int (I 13 k4)]) h (fun s6 h => ?_) (fun J7 hJ7 h => ?_)
        · refine mh_jw (fun J12 => ∀ (s11 : Int32), J12 s11 = some res → w_X6_wordFrom SHM (mh_ret (some (.int res)) SHM I L) I L 80 [(0, .ref 0), (1, .int u1), (2, .int u2), (3, .int u3), (5, .int u5)] [.int s11]) h (fun s11 h => ?_) (fun J12 hJ12 h => ?_)
          · refine mw_istore dX6_wordFrom_80 (by decide) rfl ?_
            obtain ⟨b14, eb14, h⟩ := mh_b_some h
            refine mw_iinc (v := b14) dX6_wordFrom_82 5 rfl (by rw [← eb14]; rfl) (by decide) rfl ?_
            refine mw_goto (tgt := 26) dX6_wordFrom_85 (by decide) ?_
            refine mw_loc [2, 3, 4, 5, 1, 0] rfl ?_
            exact ih _ _ h
          · refine mw_icmp_ne (tgt := 79) dX6_wordFrom_72 (by decide) (fun hc13 => ?_) (fun hc13 => ?_)
            · replace h := mh_ifn hc13 h
              refine mw_iconst (v := 0) dX6_wordFrom_79 (by decide) ?_
              refine mw_loc [0, 1, 2, 3, 4] rfl ?_
              exact hJ12 _ h
            · replace h := mh_ifp hc13 h
              refine mw_iconst (v := 1) dX6_wordFrom_75 (by decide) ?_
              refine mw_goto (tgt := 80) dX6_wordFrom_76 (by decide) ?_
              refine mw_loc [0, 1, 2, 3, 4] rfl ?_
              exact hJ12 _ h
        · refine mw_icmp_ge (tgt := 70) dX6_wordFrom_55 (by decide) (fun hc10 => ?_) (fun hc10 => ?_)
          · replace h := mh_ifp hc10 h
            refine mw_bipush (v := 32) dX6_wordFrom_70 (by decide) ?_
            refine mw_loc [0, 1, 2, 3, 5] rfl ?_
            exact hJ7 _ h
          · replace h := mh_ifn hc10 h
            refine mw_aload_n dX6_wordFrom_58 0 rfl ?_
            refine mw_getr (b := 5) (fs := fsX6) gf_X6_22 dX6_wordFrom_59 rfl rfl ?_
            refine mw_iload_n dX6_wordFrom_62 1 rfl ?_
            refine mw_iload dX6_wordFrom_63 5 rfl ?_
            refine mw_iadd dX6_wordFrom_65 ?_
            obtain ⟨k8, hk9, hk9n, hk9l, h⟩ := mh_ix_some h
            refine mw_xiald dX6_wordFrom_66 rfl hk9 hk9n ?_
            refine mw_goto (tgt := 72) dX6_wordFrom_67 (by decide) ?_
            refine mw_loc [0, 1, 2, 3, 5] rfl ?_
            exact hJ7 _ h
def X6_wordFrom_l2 (u1 : Int32) (u2 : Int32) (I : mh_I) : Nat → Int32 → Option (Int32)
  | 0, _ => none
  | n + 1, u3 => if (12 : Int32) ≤ u3 then some (12 : Int32) else mh_j (fun (s1 : Int32) => X6_wordFrom_l26 u1 u2 u3 I (fun (v17 : Int32) => if v17 = 0 then mh_b (u3 + (1 : Int32)) (fun b18 => (X6_wordFrom_l2 u1 u2 I n b18)) else some u3) mh_fuel s1 (0 : Int32)) (fun J2 => if (8 : Int32) < (u2 - u1) then (J2 (0 : Int32)) else (J2 (1 : Int32)))
set_option maxHeartbeats 4000000 in
set_option maxRecDepth 100000 in
theorem t_X6_wordFrom_l2 {u1 : Int32} {u2 : Int32} {I : mh_I} {L : mh_L} {res : Int32} (n : Nat) (u3 : Int32) (h : X6_wordFrom_l2 u1 u2 I n u3 = some res)  : w_X6_wordFrom SHM (mh_ret (some (.int res)) SHM I L) I L 2 [(0, .ref 0), (1, .int u1), (2, .int u2), (3, .int u3)] [] := by
  induction n generalizing u3 with
  | zero => rw [X6_wordFrom_l2] at h; cases h
  | succ n ih =>
    rw [X6_wordFrom_l2] at h
    refine mw_iload_n dX6_wordFrom_2 3 rfl ?_
    refine mw_bipush (v := 12) dX6_wordFrom_3 (by decide) ?_
    refine mw_icmp_ge (tgt := 101) dX6_wordFrom_5 (by decide) (fun hc20 => ?_) (fun hc20 => ?_)
    · replace h := mh_ifp hc20 h
      refine mw_bipush (v := 12) dX6_wordFrom_101 (by decide) ?_
      obtain rfl := Option.some.inj h
      exact mw_iret dX6_wordFrom_103 rfl rfl (Nat.le_of_ble_eq_true rfl) (Nat.le_refl 0) mh_ret_rfl
    · replace h := mh_ifn hc20 h
      refine mw_iload_n dX6_wordFrom_8 2 rfl ?_
      refine mw_iload_n dX6_wordFrom_9 1 rfl ?_
      refine mw_isub dX6_wordFrom_10 ?_
      refine mw_bipush (v := 8) dX6_wordFrom_11 (by decide) ?_
      refine mh_jw (fun J2 => ∀ (s1 : Int32), J2 s1 = some res → w_X6_wordFrom SHM (mh_ret (some (.int res)) SHM I L) I L 21 [(0, .ref 0), (1, .int u1), (2, .int u2), (3, .int u3)] [.int s1]) h (fun s1 h => ?_) (fun J2 hJ2 h => ?_)
      · refine mw_istore dX6_wordFrom_21 (by decide) rfl ?_
        refine mw_iconst (v := 0) dX6_wordFrom_23 (by decide) ?_
        refine mw_istore dX6_wordFrom_24 (by decide) rfl ?_
        refine mw_loc [2, 3, 4, 5, 1, 0] rfl ?_
        refine t_X6_wordFrom_l26  _ _ _ h (fun v17 h => ?_)
        refine mw_iload dX6_wordFrom_88 4 rfl ?_
        refine mw_if_eq (tgt := 95) dX6_wordFrom_90 (by decide) (fun hc19 => ?_) (fun hc19 => ?_)
        · replace h := mh_ifp hc19 h
          obtain ⟨b18, eb18, h⟩ := mh_b_some h
          refine mw_iinc (v := b18) dX6_wordFrom_95 3 rfl (by rw [← eb18]; rfl) (by decide) rfl ?_
          refine mw_goto (tgt := 2) dX6_wordFrom_98 (by decide) ?_
          refine mw_loc [1, 2, 3, 0] rfl ?_
          exact ih _ h
        · replace h := mh_ifn hc19 h
          refine mw_iload_n dX6_wordFrom_93 3 rfl ?_
          obtain rfl := Option.some.inj h
          exact mw_iret dX6_wordFrom_94 rfl rfl (Nat.le_of_ble_eq_true rfl) (Nat.le_refl 0) mh_ret_rfl
      · refine mw_icmp_gt (tgt := 20) dX6_wordFrom_13 (by decide) (fun hc3 => ?_) (fun hc3 => ?_)
        · replace h := mh_ifp hc3 h
          refine mw_iconst (v := 0) dX6_wordFrom_20 (by decide) ?_
          refine mw_loc [0, 1, 2, 3] rfl ?_
          exact hJ2 _ h
        · replace h := mh_ifn hc3 h
          refine mw_iconst (v := 1) dX6_wordFrom_16 (by decide) ?_
          refine mw_goto (tgt := 21) dX6_wordFrom_17 (by decide) ?_
          refine mw_loc [0, 1, 2, 3] rfl ?_
          exact hJ2 _ h
def X6_wordFrom (p1 : Int32) (p2 : Int32) (I : mh_I) : Option (Int32) := X6_wordFrom_l2 p1 p2 I mh_fuel (0 : Int32)
set_option maxHeartbeats 4000000 in
set_option maxRecDepth 100000 in
theorem t_X6_wordFrom {L : mh_L} {I : mh_I} {p1 : Int32} {p2 : Int32} {res : Int32} (h : X6_wordFrom p1 p2 I = some res) : mh_CT yX6_wordFrom cX6_wordFrom 6 (some .int) (mh_rm 0) SHM I L [.ref 0, .int p1, .int p2] (mh_ret (some (.int res)) SHM I L) := by
  refine mh_ofW (ini := false) RX6 rfl (by decide) (fun h => by cases h) (Nat.le_of_ble_eq_true rfl) ?_
  show w_X6_wordFrom SHM (mh_ret (some (.int res)) SHM I L) I L 0 [(0, .ref 0), (1, .int p1), (2, .int p2)] []
  unfold X6_wordFrom at h
  refine mw_iconst (v := 0) dX6_wordFrom_0 (by decide) ?_
  refine mw_istore_n dX6_wordFrom_1 (by decide) rfl ?_
  refine mw_loc [1, 2, 3, 0] rfl ?_
  exact t_X6_wordFrom_l2  _ _ h 
abbrev w_X6_next (sh : List mh_C) (Φ : mh_P) (I : mh_I) (L : mh_L) (pc : Nat) (lv : List (Nat × Value)) (st : List Value) : Prop := mh_W RX6 cX6_next 3 none false (mh_rm 1) 18 0 0 mh_noX Φ 0 sh I L pc lv st
def X6_next_l0 (k52 : (mh_I → Option (mh_I))) : Nat → mh_I → Option (mh_I)
  | 0, _ => none
  | n + 1, I => if (I 0 5) ≤ (I 0 17) then (k52 I) else mh_ix (I 0 17) 160 (fun k1 => mh_j ((X6_next_l0 k52 n (mh_u I 0 17 ((I 0 17) + (1 : Int32))))) (fun J3 => if (I 5 k1) = (32 : Int32) then J3 else mh_ix (I 0 17) 160 (fun k4 => if (I 5 k4) = (10 : Int32) then J3 else (k52 I))))
set_option maxHeartbeats 4000000 in
set_option maxRecDepth 100000 in
theorem t_X6_next_l0 {k52 : (mh_I → Option (mh_I))} {L : mh_L} {res : mh_I} (n : Nat) (I : mh_I) (h : X6_next_l0 k52 n I = some res) (hk52 : ∀ (I : mh_I), k52 I = some res → w_X6_next SHM (mh_ret none SHM res L) I L 52 [(0, .ref 0)] []) : w_X6_next SHM (mh_ret none SHM res L) I L 0 [(0, .ref 0)] [] := by
  induction n generalizing I with
  | zero => rw [X6_next_l0] at h; cases h
  | succ n ih =>
    rw [X6_next_l0] at h
    refine mw_aload_n dX6_next_0 0 rfl ?_
    refine mw_geti (fs := fsX6) gf_X6_87 dX6_next_1 rfl rfl ?_
    refine mw_aload_n dX6_next_4 0 rfl ?_
    refine mw_geti (fs := fsX6) gf_X6_61 dX6_next_5 rfl rfl ?_
    refine mw_icmp_ge (tgt := 52) dX6_next_8 (by decide) (fun hc8 => ?_) (fun hc8 => ?_)
    · replace h := mh_ifp hc8 h
      refine mw_loc [0] rfl ?_
      exact hk52 _ h
    · replace h := mh_ifn hc8 h
      refine mw_aload_n dX6_next_11 0 rfl ?_
      refine mw_getr (b := 5) (fs := fsX6) gf_X6_22 dX6_next_12 rfl rfl ?_
      refine mw_aload_n dX6_next_15 0 rfl ?_
      refine mw_geti (fs := fsX6) gf_X6_87 dX6_next_16 rfl rfl ?_
      obtain ⟨k1, hk2, hk2n, hk2l, h⟩ := mh_ix_some h
      refine mw_xiald dX6_next_19 rfl hk2 hk2n ?_
      refine mw_bipush (v := 32) dX6_next_20 (by decide) ?_
      refine mh_jw (fun J3 => J3 = some res → w_X6_next SHM (mh_ret none SHM res L) I L 39 [(0, .ref 0)] []) h (fun h => ?_) (fun J3 hJ3 h => ?_)
      · refine mw_aload_n dX6_next_39 0 rfl ?_
        refine mw_dup dX6_next_40 rfl ?_
        refine mw_geti (fs := fsX6) gf_X6_87 dX6_next_41 rfl rfl ?_
        refine mw_iconst (v := 1) dX6_next_44 (by decide) ?_
        refine mw_iadd dX6_next_45 ?_
        refine mw_puti (fs := fsX6) pf_X6_87 (fun h => by cases h) rfl rfl dX6_next_46 rfl rfl ?_
        refine mw_goto (tgt := 0) dX6_next_49 (by decide) ?_
        refine mw_loc [0] rfl ?_
        exact ih _ h
      · refine mw_icmp_eq (tgt := 39) dX6_next_22 (by decide) (fun hc7 => ?_) (fun hc7 => ?_)
        · replace h := mh_ifp hc7 h
          refine mw_loc [0] rfl ?_
          exact hJ3  h
        · replace h := mh_ifn hc7 h
          refine mw_aload_n dX6_next_25 0 rfl ?_
          refine mw_getr (b := 5) (fs := fsX6) gf_X6_22 dX6_next_26 rfl rfl ?_
          refine mw_aload_n dX6_next_29 0 rfl ?_
          refine mw_geti (fs := fsX6) gf_X6_87 dX6_next_30 rfl rfl ?_
          obtain ⟨k4, hk5, hk5n, hk5l, h⟩ := mh_ix_some h
          refine mw_xiald dX6_next_33 rfl hk5 hk5n ?_
          refine mw_bipush (v := 10) dX6_next_34 (by decide) ?_
          refine mw_icmp_ne (tgt := 52) dX6_next_36 (by decide) (fun hc6 => ?_) (fun hc6 => ?_)
          · replace h := mh_ifn hc6 h
            refine mw_loc [0] rfl ?_
            exact hk52 _ h
          · replace h := mh_ifp hc6 h
            refine mw_loc [0] rfl ?_
            exact hJ3  h
def X6_next_l230 (k309 : (Int32 → mh_I → Option (mh_I))) : Nat → Int32 → mh_I → Option (mh_I)
  | 0, _, _ => none
  | n + 1, u2, I => if (I 0 5) ≤ (I 0 17) then (k309 u2 I) else mh_ix (I 0 17) 160 (fun k29 => (X6_in (I 5 k29) (48 : Int32) (57 : Int32)).bind (fun q31 => if q31 = 0 then (k309 u2 I) else mh_j (fun (s32 : Int32) => mh_b (u2 + (1 : Int32)) (fun b37 => (X6_next_l230 k309 n b37 (mh_u (mh_u I 0 20 s32) 0 17 (((mh_u I 0 20 s32) 0 17) + (1 : Int32)))))) (fun J33 => if (4 : Int32) ≤ u2 then (J33 (0 : Int32)) else mh_ix (I 0 17) 160 (fun k34 => (J33 ((((10 : Int32) * (I 0 20)) + (I 5 k34)) - (48 : Int32)))))))
set_option maxHeartbeats 4000000 in
set_option maxRecDepth 100000 in
theorem t_X6_next_l230 {k309 : (Int32 → mh_I → Option (mh_I))} {L : mh_L} {res : mh_I} (n : Nat) (u2 : Int32) (I : mh_I) (h : X6_next_l230 k309 n u2 I = some res) (hk309 : ∀ (u2 : Int32) (I : mh_I), k309 u2 I = some res → w_X6_next SHM (mh_ret none SHM res L) I L 309 [(0, .ref 0), (2, .int u2)] []) : w_X6_next SHM (mh_ret none SHM res L) I L 230 [(0, .ref 0), (2, .int u2)] [] := by
  induction n generalizing u2 I with
  | zero => rw [X6_next_l230] at h; cases h
  | succ n ih =>
    rw [X6_next_l230] at h
    refine mw_aload_n dX6_next_230 0 rfl ?_
    refine mw_geti (fs := fsX6) gf_X6_87 dX6_next_231 rfl rfl ?_
    refine mw_aload_n dX6_next_234 0 rfl ?_
    refine mw_geti (fs := fsX6) gf_X6_61 dX6_next_235 rfl rfl ?_
    refine mw_icmp_ge (tgt := 309) dX6_next_238 (by decide) (fun hc39 => ?_) (fun hc39 => ?_)
    · replace h := mh_ifp hc39 h
      refine mw_loc [0, 1] rfl ?_
      exact hk309 _ _ h
    · replace h := mh_ifn hc39 h
      refine mw_aload_n dX6_next_241 0 rfl ?_
      refine mw_getr (b := 5) (fs := fsX6) gf_X6_22 dX6_next_242 rfl rfl ?_
      refine mw_aload_n dX6_next_245 0 rfl ?_
      refine mw_geti (fs := fsX6) gf_X6_87 dX6_next_246 rfl rfl ?_
      obtain ⟨k29, hk30, hk30n, hk30l, h⟩ := mh_ix_some h
      refine mw_xiald dX6_next_249 rfl hk30 hk30n ?_
      refine mw_bipush (v := 48) dX6_next_250 (by decide) ?_
      refine mw_bipush (v := 57) dX6_next_252 (by decide) ?_
      obtain ⟨q31, hq31, h⟩ := mh_bind h
      refine mw_sz (dc := 0) cs_X6_69 wd_722 dX6_next_254 [.int (I 5 k29), .int (48 : Int32), .int (57 : Int32)] [.int (57 : Int32), .int (48 : Int32), .int (I 5 k29)] rfl rfl (t_X6_in hq31) ⟨by decide, by decide⟩ (Nat.le_of_ble_eq_true rfl) ⟨rfl, rfl⟩ (fun zq31 => ?_)
      refine mw_if_eq (tgt := 309) dX6_next_257 (by decide) (fun hc38 => ?_) (fun hc38 => ?_)
      · replace h := mh_ifp hc38 h
        refine mw_loc [0, 1] rfl ?_
        exact hk309 _ _ h
      · replace h := mh_ifn hc38 h
        refine mw_aload_n dX6_next_260 0 rfl ?_
        refine mw_iload_n dX6_next_261 1 rfl ?_
        refine mw_iconst (v := 4) dX6_next_262 (by decide) ?_
        refine mh_jw (fun J33 => ∀ (s32 : Int32), J33 s32 = some res → w_X6_next SHM (mh_ret none SHM res L) I L 290 [(0, .ref 0), (2, .int u2)] [.int s32, .ref 0]) h (fun s32 h => ?_) (fun J33 hJ33 h => ?_)
        · refine mw_puti (fs := fsX6) pf_X6_96 (fun h => by cases h) rfl rfl dX6_next_290 rfl rfl ?_
          obtain ⟨b37, eb37, h⟩ := mh_b_some h
          refine mw_iinc (v := b37) dX6_next_293 1 rfl (by rw [← eb37]; rfl) (by decide) rfl ?_
          refine mw_aload_n dX6_next_296 1 rfl ?_
          refine mw_dup dX6_next_297 rfl ?_
          refine mw_geti (fs := fsX6) gf_X6_87 dX6_next_298 rfl rfl ?_
          refine mw_iconst (v := 1) dX6_next_301 (by decide) ?_
          refine mw_iadd dX6_next_302 ?_
          refine mw_puti (fs := fsX6) pf_X6_87 (fun h => by cases h) rfl rfl dX6_next_303 rfl rfl ?_
          refine mw_goto (tgt := 230) dX6_next_306 (by decide) ?_
          refine mw_loc [1, 0] rfl ?_
          exact ih _ _ h
        · refine mw_icmp_ge (tgt := 289) dX6_next_263 (by decide) (fun hc36 => ?_) (fun hc36 => ?_)
          · replace h := mh_ifp hc36 h
            refine mw_iconst (v := 0) dX6_next_289 (by decide) ?_
            refine mw_loc [0, 1] rfl ?_
            exact hJ33 _ h
          · replace h := mh_ifn hc36 h
            refine mw_bipush (v := 10) dX6_next_266 (by decide) ?_
            refine mw_aload_n dX6_next_268 0 rfl ?_
            refine mw_geti (fs := fsX6) gf_X6_96 dX6_next_269 rfl rfl ?_
            refine mw_imul dX6_next_272 ?_
            refine mw_aload_n dX6_next_273 0 rfl ?_
            refine mw_getr (b := 5) (fs := fsX6) gf_X6_22 dX6_next_274 rfl rfl ?_
            refine mw_aload_n dX6_next_277 0 rfl ?_
            refine mw_geti (fs := fsX6) gf_X6_87 dX6_next_278 rfl rfl ?_
            obtain ⟨k34, hk35, hk35n, hk35l, h⟩ := mh_ix_some h
            refine mw_xiald dX6_next_281 rfl hk35 hk35n ?_
            refine mw_iadd dX6_next_282 ?_
            refine mw_bipush (v := 48) dX6_next_283 (by decide) ?_
            refine mw_isub dX6_next_285 ?_
            refine mw_goto (tgt := 290) dX6_next_286 (by decide) ?_
            refine mw_loc [0, 1] rfl ?_
            exact hJ33 _ h
def X6_next_l103 (k146 : (mh_I → Option (mh_I))) : Nat → mh_I → Option (mh_I)
  | 0, _ => none
  | n + 1, I => if (I 0 5) ≤ (I 0 17) then (k146 I) else mh_ix (I 0 17) 160 (fun k46 => (X6_in (I 5 k46) (97 : Int32) (122 : Int32)).bind (fun q48 => if q48 = 0 then (k146 I) else (X6_next_l103 k146 n (mh_u I 0 17 ((I 0 17) + (1 : Int32))))))
set_option maxHeartbeats 4000000 in
set_option maxRecDepth 100000 in
theorem t_X6_next_l103 {k146 : (mh_I → Option (mh_I))} {L : mh_L} {res : mh_I} (n : Nat) (I : mh_I) (h : X6_next_l103 k146 n I = some res) (hk146 : ∀ (I : mh_I), k146 I = some res → w_X6_next SHM (mh_ret none SHM res L) I L 146 [(0, .ref 0)] []) : w_X6_next SHM (mh_ret none SHM res L) I L 103 [(0, .ref 0)] [] := by
  induction n generalizing I with
  | zero => rw [X6_next_l103] at h; cases h
  | succ n ih =>
    rw [X6_next_l103] at h
    refine mw_aload_n dX6_next_103 0 rfl ?_
    refine mw_geti (fs := fsX6) gf_X6_87 dX6_next_104 rfl rfl ?_
    refine mw_aload_n dX6_next_107 0 rfl ?_
    refine mw_geti (fs := fsX6) gf_X6_61 dX6_next_108 rfl rfl ?_
    refine mw_icmp_ge (tgt := 146) dX6_next_111 (by decide) (fun hc50 => ?_) (fun hc50 => ?_)
    · replace h := mh_ifp hc50 h
      refine mw_loc [0] rfl ?_
      exact hk146 _ h
    · replace h := mh_ifn hc50 h
      refine mw_aload_n dX6_next_114 0 rfl ?_
      refine mw_getr (b := 5) (fs := fsX6) gf_X6_22 dX6_next_115 rfl rfl ?_
      refine mw_aload_n dX6_next_118 0 rfl ?_
      refine mw_geti (fs := fsX6) gf_X6_87 dX6_next_119 rfl rfl ?_
      obtain ⟨k46, hk47, hk47n, hk47l, h⟩ := mh_ix_some h
      refine mw_xiald dX6_next_122 rfl hk47 hk47n ?_
      refine mw_bipush (v := 97) dX6_next_123 (by decide) ?_
      refine mw_bipush (v := 122) dX6_next_125 (by decide) ?_
      obtain ⟨q48, hq48, h⟩ := mh_bind h
      refine mw_sz (dc := 0) cs_X6_69 wd_722 dX6_next_127 [.int (I 5 k46), .int (97 : Int32), .int (122 : Int32)] [.int (122 : Int32), .int (97 : Int32), .int (I 5 k46)] rfl rfl (t_X6_in hq48) ⟨by decide, by decide⟩ (Nat.le_of_ble_eq_true rfl) ⟨rfl, rfl⟩ (fun zq48 => ?_)
      refine mw_if_eq (tgt := 146) dX6_next_130 (by decide) (fun hc49 => ?_) (fun hc49 => ?_)
      · replace h := mh_ifp hc49 h
        refine mw_loc [0] rfl ?_
        exact hk146 _ h
      · replace h := mh_ifn hc49 h
        refine mw_aload_n dX6_next_133 0 rfl ?_
        refine mw_dup dX6_next_134 rfl ?_
        refine mw_geti (fs := fsX6) gf_X6_87 dX6_next_135 rfl rfl ?_
        refine mw_iconst (v := 1) dX6_next_138 (by decide) ?_
        refine mw_iadd dX6_next_139 ?_
        refine mw_puti (fs := fsX6) pf_X6_87 (fun h => by cases h) rfl rfl dX6_next_140 rfl rfl ?_
        refine mw_goto (tgt := 103) dX6_next_143 (by decide) ?_
        refine mw_loc [0] rfl ?_
        exact ih _ h
def X6_next (I : mh_I) : Option (mh_I) := X6_next_l0 (fun (I9 : mh_I) => if ((mh_u (mh_u (mh_u I9 0 18 (I9 0 17)) 0 19 (0 : Int32)) 0 20 (0 : Int32)) 0 17) = ((mh_u (mh_u (mh_u I9 0 18 (I9 0 17)) 0 19 (0 : Int32)) 0 20 (0 : Int32)) 0 5) then some (mh_u (mh_u (mh_u I9 0 18 (I9 0 17)) 0 19 (0 : Int32)) 0 20 (0 : Int32)) else mh_ix ((mh_u (mh_u (mh_u I9 0 18 (I9 0 17)) 0 19 (0 : Int32)) 0 20 (0 : Int32)) 0 17) 160 (fun k10 => mh_b ((mh_u (mh_u (mh_u I9 0 18 (I9 0 17)) 0 19 (0 : Int32)) 0 20 (0 : Int32)) 5 k10) (fun b12 => (X6_in b12 (97 : Int32) (122 : Int32)).bind (fun q13 => if q13 = 0 then (X6_in b12 (48 : Int32) (57 : Int32)).bind (fun q14 => if q14 = 0 then mh_j (fun (s15 : Int32) => mh_j (fun (s26 : Int32) => some (mh_u (mh_u (mh_u (mh_u (mh_u I9 0 18 (I9 0 17)) 0 19 (0 : Int32)) 0 20 (0 : Int32)) 0 19 s26) 0 17 (((mh_u (mh_u (mh_u (mh_u I9 0 18 (I9 0 17)) 0 19 (0 : Int32)) 0 20 (0 : Int32)) 0 19 s26) 0 17) + (1 : Int32)))) (fun J27 => if s15 = 0 then (J27 (-1 : Int32)) else (J27 b12))) (fun J16 => mh_j ((J16 (1 : Int32))) (fun J17 => if b12 = (40 : Int32) then J17 else if b12 = (41 : Int32) then J17 else if b12 = (59 : Int32) then J17 else if b12 = (43 : Int32) then J17 else if b12 = (45 : Int32) then J17 else if b12 = (42 : Int32) then J17 else if b12 = (60 : Int32) then J17 else if b12 = (61 : Int32) then J17 else (J16 (0 : Int32)))) else X6_next_l230 (fun (v40 : Int32) (I41 : mh_I) => mh_j (fun (s42 : Int32) => some (mh_u I41 0 19 s42)) (fun J43 => if v40 ≤ (4 : Int32) then (J43 (1 : Int32)) else (J43 (-1 : Int32)))) mh_fuel (0 : Int32) (mh_u (mh_u (mh_u I9 0 18 (I9 0 17)) 0 19 (0 : Int32)) 0 20 (0 : Int32))) else X6_next_l103 (fun (I51 : mh_I) => (X6_wordFrom (I51 0 18) (I51 0 17) I51).bind (fun q52 => mh_j (fun (s53 : Int32) => mh_j (fun (s58 : Int32) => some (mh_u (mh_u I51 0 19 s53) 0 20 s58)) (fun J59 => if (3 : Int32) ≤ q52 then (J59 (q52 - (3 : Int32))) else (J59 q52))) (fun J54 => if (3 : Int32) ≤ q52 then if (9 : Int32) ≤ q52 then if q52 = (12 : Int32) then (J54 (-1 : Int32)) else (J54 (((4 : Int32) + q52) - (9 : Int32))) else (J54 (2 : Int32)) else (J54 (3 : Int32))))) mh_fuel (mh_u (mh_u (mh_u I9 0 18 (I9 0 17)) 0 19 (0 : Int32)) 0 20 (0 : Int32)))))) mh_fuel I
set_option maxHeartbeats 4000000 in
set_option maxRecDepth 100000 in
theorem t_X6_next {L : mh_L} {I : mh_I} {res : mh_I} (h : X6_next I = some res) : mh_CT yX6_next cX6_next 3 none (mh_rm 1) SHM I L [.ref 0] (mh_ret none SHM res L) := by
  refine mh_ofW (ini := false) RX6 rfl (by decide) (fun h => by cases h) (Nat.le_of_ble_eq_true rfl) ?_
  show w_X6_next SHM (mh_ret none SHM res L) I L 0 [(0, .ref 0)] []
  unfold X6_next at h
  refine mw_loc [0] rfl ?_
  refine t_X6_next_l0  _ _ h (fun I9 h => ?_)
  refine mw_aload_n dX6_next_52 0 rfl ?_
  refine mw_aload_n dX6_next_53 0 rfl ?_
  refine mw_geti (fs := fsX6) gf_X6_87 dX6_next_54 rfl rfl ?_
  refine mw_puti (fs := fsX6) pf_X6_90 (fun h => by cases h) rfl rfl dX6_next_57 rfl rfl ?_
  refine mw_aload_n dX6_next_60 0 rfl ?_
  refine mw_iconst (v := 0) dX6_next_61 (by decide) ?_
  refine mw_puti (fs := fsX6) pf_X6_93 (fun h => by cases h) rfl rfl dX6_next_62 rfl rfl ?_
  refine mw_aload_n dX6_next_65 0 rfl ?_
  refine mw_iconst (v := 0) dX6_next_66 (by decide) ?_
  refine mw_puti (fs := fsX6) pf_X6_96 (fun h => by cases h) rfl rfl dX6_next_67 rfl rfl ?_
  refine mw_aload_n dX6_next_70 0 rfl ?_
  refine mw_geti (fs := fsX6) gf_X6_87 dX6_next_71 rfl rfl ?_
  refine mw_aload_n dX6_next_74 0 rfl ?_
  refine mw_geti (fs := fsX6) gf_X6_61 dX6_next_75 rfl rfl ?_
  refine mw_icmp_ne (tgt := 82) dX6_next_78 (by decide) (fun hc62 => ?_) (fun hc62 => ?_)
  · replace h := mh_ifn hc62 h
    refine mw_aload_n dX6_next_82 0 rfl ?_
    refine mw_getr (b := 5) (fs := fsX6) gf_X6_22 dX6_next_83 rfl rfl ?_
    refine mw_aload_n dX6_next_86 0 rfl ?_
    refine mw_geti (fs := fsX6) gf_X6_87 dX6_next_87 rfl rfl ?_
    obtain ⟨k10, hk11, hk11n, hk11l, h⟩ := mh_ix_some h
    refine mw_xiald dX6_next_90 rfl hk11 hk11n ?_
    obtain ⟨b12, eb12, h⟩ := mh_b_some h
    refine mw_nmi eb12 ?_
    refine mw_istore_n dX6_next_91 (by decide) rfl ?_
    refine mw_iload_n dX6_next_92 0 rfl ?_
    refine mw_bipush (v := 97) dX6_next_93 (by decide) ?_
    refine mw_bipush (v := 122) dX6_next_95 (by decide) ?_
    obtain ⟨q13, hq13, h⟩ := mh_bind h
    refine mw_sz (dc := 0) cs_X6_69 wd_722 dX6_next_97 [.int b12, .int (97 : Int32), .int (122 : Int32)] [.int (122 : Int32), .int (97 : Int32), .int b12] rfl rfl (t_X6_in hq13) ⟨by decide, by decide⟩ (Nat.le_of_ble_eq_true rfl) ⟨rfl, rfl⟩ (fun zq13 => ?_)
    refine mw_if_eq (tgt := 217) dX6_next_100 (by decide) (fun hc61 => ?_) (fun hc61 => ?_)
    · replace h := mh_ifp hc61 h
      refine mw_iload_n dX6_next_217 0 rfl ?_
      refine mw_bipush (v := 48) dX6_next_218 (by decide) ?_
      refine mw_bipush (v := 57) dX6_next_220 (by decide) ?_
      obtain ⟨q14, hq14, h⟩ := mh_bind h
      refine mw_sz (dc := 0) cs_X6_69 wd_722 dX6_next_222 [.int b12, .int (48 : Int32), .int (57 : Int32)] [.int (57 : Int32), .int (48 : Int32), .int b12] rfl rfl (t_X6_in hq14) ⟨by decide, by decide⟩ (Nat.le_of_ble_eq_true rfl) ⟨rfl, rfl⟩ (fun zq14 => ?_)
      refine mw_if_eq (tgt := 326) dX6_next_225 (by decide) (fun hc45 => ?_) (fun hc45 => ?_)
      · replace h := mh_ifp hc45 h
        refine mw_iload_n dX6_next_326 0 rfl ?_
        refine mw_bipush (v := 40) dX6_next_327 (by decide) ?_
        refine mh_jw (fun J16 => ∀ (s15 : Int32), J16 s15 = some res → w_X6_next SHM (mh_ret none SHM res L) (mh_u (mh_u (mh_u I9 0 18 (I9 0 17)) 0 19 (0 : Int32)) 0 20 (0 : Int32)) L 379 [(0, .ref 0), (1, .int b12)] [.int s15]) h (fun s15 h => ?_) (fun J16 hJ16 h => ?_)
        · refine mw_istore_n dX6_next_379 (by decide) rfl ?_
          refine mw_aload_n dX6_next_380 1 rfl ?_
          refine mw_iload_n dX6_next_381 0 rfl ?_
          refine mh_jw (fun J27 => ∀ (s26 : Int32), J27 s26 = some res → w_X6_next SHM (mh_ret none SHM res L) (mh_u (mh_u (mh_u I9 0 18 (I9 0 17)) 0 19 (0 : Int32)) 0 20 (0 : Int32)) L 390 [(0, .ref 0)] [.int s26, .ref 0]) h (fun s26 h => ?_) (fun J27 hJ27 h => ?_)
          · refine mw_puti (fs := fsX6) pf_X6_93 (fun h => by cases h) rfl rfl dX6_next_390 rfl rfl ?_
            refine mw_aload_n dX6_next_393 0 rfl ?_
            refine mw_dup dX6_next_394 rfl ?_
            refine mw_geti (fs := fsX6) gf_X6_87 dX6_next_395 rfl rfl ?_
            refine mw_iconst (v := 1) dX6_next_398 (by decide) ?_
            refine mw_iadd dX6_next_399 ?_
            refine mw_puti (fs := fsX6) pf_X6_87 (fun h => by cases h) rfl rfl dX6_next_400 rfl rfl ?_
            obtain rfl := Option.some.inj h
            exact mw_vret dX6_next_403 rfl (Nat.le_of_ble_eq_true rfl) (Nat.le_refl 0) mh_ret_rfl
          · refine mw_if_eq (tgt := 389) dX6_next_382 (by decide) (fun hc28 => ?_) (fun hc28 => ?_)
            · replace h := mh_ifp hc28 h
              refine mw_iconst (v := -1) dX6_next_389 (by decide) ?_
              refine mw_loc [1] rfl ?_
              exact hJ27 _ h
            · replace h := mh_ifn hc28 h
              refine mw_iload_n dX6_next_385 2 rfl ?_
              refine mw_goto (tgt := 390) dX6_next_386 (by decide) ?_
              refine mw_loc [1] rfl ?_
              exact hJ27 _ h
        · refine mh_jw (fun J17 => J17 = some res → w_X6_next SHM (mh_ret none SHM res L) (mh_u (mh_u (mh_u I9 0 18 (I9 0 17)) 0 19 (0 : Int32)) 0 20 (0 : Int32)) L 374 [(0, .ref 0), (1, .int b12)] []) h (fun h => ?_) (fun J17 hJ17 h => ?_)
          · refine mw_iconst (v := 1) dX6_next_374 (by decide) ?_
            refine mw_goto (tgt := 379) dX6_next_375 (by decide) ?_
            refine mw_loc [0, 1] rfl ?_
            exact hJ16 _ h
          · refine mw_icmp_eq (tgt := 374) dX6_next_329 (by decide) (fun hc25 => ?_) (fun hc25 => ?_)
            · replace h := mh_ifp hc25 h
              refine mw_loc [1, 0] rfl ?_
              exact hJ17  h
            · replace h := mh_ifn hc25 h
              refine mw_iload_n dX6_next_332 0 rfl ?_
              refine mw_bipush (v := 41) dX6_next_333 (by decide) ?_
              refine mw_icmp_eq (tgt := 374) dX6_next_335 (by decide) (fun hc24 => ?_) (fun hc24 => ?_)
              · replace h := mh_ifp hc24 h
                refine mw_loc [1, 0] rfl ?_
                exact hJ17  h
              · replace h := mh_ifn hc24 h
                refine mw_iload_n dX6_next_338 0 rfl ?_
                refine mw_bipush (v := 59) dX6_next_339 (by decide) ?_
                refine mw_icmp_eq (tgt := 374) dX6_next_341 (by decide) (fun hc23 => ?_) (fun hc23 => ?_)
                · replace h := mh_ifp hc23 h
                  refine mw_loc [1, 0] rfl ?_
                  exact hJ17  h
                · replace h := mh_ifn hc23 h
                  refine mw_iload_n dX6_next_344 0 rfl ?_
                  refine mw_bipush (v := 43) dX6_next_345 (by decide) ?_
                  refine mw_icmp_eq (tgt := 374) dX6_next_347 (by decide) (fun hc22 => ?_) (fun hc22 => ?_)
                  · replace h := mh_ifp hc22 h
                    refine mw_loc [1, 0] rfl ?_
                    exact hJ17  h
                  · replace h := mh_ifn hc22 h
                    refine mw_iload_n dX6_next_350 0 rfl ?_
                    refine mw_bipush (v := 45) dX6_next_351 (by decide) ?_
                    refine mw_icmp_eq (tgt := 374) dX6_next_353 (by decide) (fun hc21 => ?_) (fun hc21 => ?_)
                    · replace h := mh_ifp hc21 h
                      refine mw_loc [1, 0] rfl ?_
                      exact hJ17  h
                    · replace h := mh_ifn hc21 h
                      refine mw_iload_n dX6_next_356 0 rfl ?_
                      refine mw_bipush (v := 42) dX6_next_357 (by decide) ?_
                      refine mw_icmp_eq (tgt := 374) dX6_next_359 (by decide) (fun hc20 => ?_) (fun hc20 => ?_)
                      · replace h := mh_ifp hc20 h
                        refine mw_loc [1, 0] rfl ?_
                        exact hJ17  h
                      · replace h := mh_ifn hc20 h
                        refine mw_iload_n dX6_next_362 0 rfl ?_
                        refine mw_bipush (v := 60) dX6_next_363 (by decide) ?_
                        refine mw_icmp_eq (tgt := 374) dX6_next_365 (by decide) (fun hc19 => ?_) (fun hc19 => ?_)
                        · replace h := mh_ifp hc19 h
                          refine mw_loc [1, 0] rfl ?_
                          exact hJ17  h
                        · replace h := mh_ifn hc19 h
                          refine mw_iload_n dX6_next_368 0 rfl ?_
                          refine mw_bipush (v := 61) dX6_next_369 (by decide) ?_
                          refine mw_icmp_ne (tgt := 378) dX6_next_371 (by decide) (fun hc18 => ?_) (fun hc18 => ?_)
                          · replace h := mh_ifn hc18 h
                            refine mw_iconst (v := 0) dX6_next_378 (by decide) ?_
                            refine mw_loc [1, 0] rfl ?_
                            exact hJ16 _ h
                          · replace h := mh_ifp hc18 h
                            refine mw_loc [1, 0] rfl ?_
                            exact hJ17  h
      · replace h := mh_ifn hc45 h
        refine mw_iconst (v := 0) dX6_next_228 (by decide) ?_
        refine mw_istore_n dX6_next_229 (by decide) rfl ?_
        refine mw_loc [2, 0] rfl ?_
        refine t_X6_next_l230  _ _ _ h (fun v40 I41 h => ?_)
        refine mw_aload_n dX6_next_309 0 rfl ?_
        refine mw_iload_n dX6_next_310 1 rfl ?_
        refine mw_iconst (v := 4) dX6_next_311 (by decide) ?_
        refine mh_jw (fun J43 => ∀ (s42 : Int32), J43 s42 = some res → w_X6_next SHM (mh_ret none SHM res L) I41 L 320 [] [.int s42, .ref 0]) h (fun s42 h => ?_) (fun J43 hJ43 h => ?_)
        · refine mw_puti (fs := fsX6) pf_X6_93 (fun h => by cases h) rfl rfl dX6_next_320 rfl rfl ?_
          refine mw_goto (tgt := 403) dX6_next_323 (by decide) ?_
          obtain rfl := Option.some.inj h
          exact mw_vret dX6_next_403 rfl (Nat.le_of_ble_eq_true rfl) (Nat.le_refl 0) mh_ret_rfl
        · refine mw_icmp_le (tgt := 319) dX6_next_312 (by decide) (fun hc44 => ?_) (fun hc44 => ?_)
          · replace h := mh_ifp hc44 h
            refine mw_iconst (v := 1) dX6_next_319 (by decide) ?_
            refine mw_loc [] rfl ?_
            exact hJ43 _ h
          · replace h := mh_ifn hc44 h
            refine mw_iconst (v := -1) dX6_next_315 (by decide) ?_
            refine mw_goto (tgt := 320) dX6_next_316 (by decide) ?_
            refine mw_loc [] rfl ?_
            exact hJ43 _ h
    · replace h := mh_ifn hc61 h
      refine mw_loc [1] rfl ?_
      refine t_X6_next_l103  _ _ h (fun I51 h => ?_)
      refine mw_aload_n dX6_next_146 0 rfl ?_
      refine mw_aload_n dX6_next_147 0 rfl ?_
      refine mw_geti (fs := fsX6) gf_X6_90 dX6_next_148 rfl rfl ?_
      refine mw_aload_n dX6_next_151 0 rfl ?_
      refine mw_geti (fs := fsX6) gf_X6_87 dX6_next_152 rfl rfl ?_
      obtain ⟨q52, hq52, h⟩ := mh_bind h
      refine mw_vr (dc := 0) (ci := 6) (fs := fsX6) (T := TX6) (N := 30) cv_X6_99 wd_726 dX6_next_155 [.int (I51 0 18), .int (I51 0 17)] [.int (I51 0 17), .int (I51 0 18), .ref 0] rfl rfl rfl rfl (t_X6_wordFrom hq52) ⟨by decide, by decide⟩ (Nat.le_of_ble_eq_true rfl) ⟨rfl, rfl⟩ ?_
      refine mw_istore_n dX6_next_158 (by decide) rfl ?_
      refine mw_aload_n dX6_next_159 1 rfl ?_
      refine mw_iload_n dX6_next_160 0 rfl ?_
      refine mw_iconst (v := 3) dX6_next_161 (by decide) ?_
      refine mh_jw (fun J54 => ∀ (s53 : Int32), J54 s53 = some res → w_X6_next SHM (mh_ret none SHM res L) I51 L 195 [(0, .ref 0), (2, .int q52)] [.int s53, .ref 0]) h (fun s53 h => ?_) (fun J54 hJ54 h => ?_)
      · refine mw_puti (fs := fsX6) pf_X6_93 (fun h => by cases h) rfl rfl dX6_next_195 rfl rfl ?_
        refine mw_aload_n dX6_next_198 0 rfl ?_
        refine mw_iload_n dX6_next_199 1 rfl ?_
        refine mw_iconst (v := 3) dX6_next_200 (by decide) ?_
        refine mh_jw (fun J59 => ∀ (s58 : Int32), J59 s58 = some res → w_X6_next SHM (mh_ret none SHM res L) (mh_u I51 0 19 s53) L 211 [] [.int s58, .ref 0]) h (fun s58 h => ?_) (fun J59 hJ59 h => ?_)
        · refine mw_puti (fs := fsX6) pf_X6_96 (fun h => by cases h) rfl rfl dX6_next_211 rfl rfl ?_
          refine mw_goto (tgt := 403) dX6_next_214 (by decide) ?_
          obtain rfl := Option.some.inj h
          exact mw_vret dX6_next_403 rfl (Nat.le_of_ble_eq_true rfl) (Nat.le_refl 0) mh_ret_rfl
        · refine mw_icmp_ge (tgt := 208) dX6_next_201 (by decide) (fun hc60 => ?_) (fun hc60 => ?_)
          · replace h := mh_ifp hc60 h
            refine mw_iload_n dX6_next_208 1 rfl ?_
            refine mw_iconst (v := 3) dX6_next_209 (by decide) ?_
            refine mw_isub dX6_next_210 ?_
            refine mw_loc [] rfl ?_
            exact hJ59 _ h
          · replace h := mh_ifn hc60 h
            refine mw_iload_n dX6_next_204 1 rfl ?_
            refine mw_goto (tgt := 211) dX6_next_205 (by decide) ?_
            refine mw_loc [] rfl ?_
            exact hJ59 _ h
      · refine mw_icmp_ge (tgt := 169) dX6_next_162 (by decide) (fun hc57 => ?_) (fun hc57 => ?_)
        · replace h := mh_ifp hc57 h
          refine mw_iload_n dX6_next_169 0 rfl ?_
          refine mw_bipush (v := 9) dX6_next_170 (by decide) ?_
          refine mw_icmp_ge (tgt := 179) dX6_next_172 (by decide) (fun hc56 => ?_) (fun hc56 => ?_)
          · replace h := mh_ifp hc56 h
            refine mw_iload_n dX6_next_179 0 rfl ?_
            refine mw_bipush (v := 12) dX6_next_180 (by decide) ?_
            refine mw_icmp_ne (tgt := 189) dX6_next_182 (by decide) (fun hc55 => ?_) (fun hc55 => ?_)
            · replace h := mh_ifn hc55 h
              refine mw_iconst (v := 4) dX6_next_189 (by decide) ?_
              refine mw_iload_n dX6_next_190 0 rfl ?_
              refine mw_iadd dX6_next_191 ?_
              refine mw_bipush (v := 9) dX6_next_192 (by decide) ?_
              refine mw_isub dX6_next_194 ?_
              refine mw_loc [1, 0] rfl ?_
              exact hJ54 _ h
            · replace h := mh_ifp hc55 h
              refine mw_iconst (v := -1) dX6_next_185 (by decide) ?_
              refine mw_goto (tgt := 195) dX6_next_186 (by decide) ?_
              refine mw_loc [1, 0] rfl ?_
              exact hJ54 _ h
          · replace h := mh_ifn hc56 h
            refine mw_iconst (v := 2) dX6_next_175 (by decide) ?_
            refine mw_goto (tgt := 195) dX6_next_176 (by decide) ?_
            refine mw_loc [1, 0] rfl ?_
            exact hJ54 _ h
        · replace h := mh_ifn hc57 h
          refine mw_iconst (v := 3) dX6_next_165 (by decide) ?_
          refine mw_goto (tgt := 195) dX6_next_166 (by decide) ?_
          refine mw_loc [1, 0] rfl ?_
          exact hJ54 _ h
  · replace h := mh_ifp hc62 h
    obtain rfl := Option.some.inj h
    exact mw_vret dX6_next_81 rfl (Nat.le_of_ble_eq_true rfl) (Nat.le_refl 0) mh_ret_rfl
abbrev w_X6_rank (sh : List mh_C) (Φ : mh_P) (I : mh_I) (L : mh_L) (pc : Nat) (lv : List (Nat × Value)) (st : List Value) : Prop := mh_W RX6 cX6_rank 1 (some .int) false (mh_rm 0) 18 0 0 mh_noX Φ 0 sh I L pc lv st
def X6_rank (p0 : Int32) : Option (Int32) := if p0 = 0 then some (0 : Int32) else if p0 = (11 : Int32) then some (1 : Int32) else if p0 = (12 : Int32) then some (2 : Int32) else if p0 = (13 : Int32) then some (3 : Int32) else if (15 : Int32) < p0 then if (17 : Int32) < p0 then if p0 = (18 : Int32) then some (6 : Int32) else some (7 : Int32) else some (5 : Int32) else some (4 : Int32)
set_option maxHeartbeats 4000000 in
set_option maxRecDepth 100000 in
theorem t_X6_rank {L : mh_L} {I : mh_I} {p0 : Int32} {res : Int32} (h : X6_rank p0 = some res) : mh_CT yX6_rank cX6_rank 1 (some .int) (mh_rm 0) SHM I L [.int p0] (mh_ret (some (.int res)) SHM I L) := by
  refine mh_ofW (ini := false) RX6 rfl (by decide) (fun h => by cases h) (Nat.le_of_ble_eq_true rfl) ?_
  show w_X6_rank SHM (mh_ret (some (.int res)) SHM I L) I L 0 [(0, .int p0)] []
  unfold X6_rank at h
  refine mw_iload_n dX6_rank_0 0 rfl ?_
  refine mw_if_ne (tgt := 8) dX6_rank_1 (by decide) (fun hc7 => ?_) (fun hc7 => ?_)
  · replace h := mh_ifn hc7 h
    refine mw_iload_n dX6_rank_8 0 rfl ?_
    refine mw_bipush (v := 11) dX6_rank_9 (by decide) ?_
    refine mw_icmp_ne (tgt := 18) dX6_rank_11 (by decide) (fun hc6 => ?_) (fun hc6 => ?_)
    · replace h := mh_ifn hc6 h
      refine mw_iload_n dX6_rank_18 0 rfl ?_
      refine mw_bipush (v := 12) dX6_rank_19 (by decide) ?_
      refine mw_icmp_ne (tgt := 28) dX6_rank_21 (by decide) (fun hc5 => ?_) (fun hc5 => ?_)
      · replace h := mh_ifn hc5 h
        refine mw_iload_n dX6_rank_28 0 rfl ?_
        refine mw_bipush (v := 13) dX6_rank_29 (by decide) ?_
        refine mw_icmp_ne (tgt := 38) dX6_rank_31 (by decide) (fun hc4 => ?_) (fun hc4 => ?_)
        · replace h := mh_ifn hc4 h
          refine mw_iload_n dX6_rank_38 0 rfl ?_
          refine mw_bipush (v := 15) dX6_rank_39 (by decide) ?_
          refine mw_icmp_gt (tgt := 48) dX6_rank_41 (by decide) (fun hc3 => ?_) (fun hc3 => ?_)
          · replace h := mh_ifp hc3 h
            refine mw_iload_n dX6_rank_48 0 rfl ?_
            refine mw_bipush (v := 17) dX6_rank_49 (by decide) ?_
            refine mw_icmp_gt (tgt := 58) dX6_rank_51 (by decide) (fun hc2 => ?_) (fun hc2 => ?_)
            · replace h := mh_ifp hc2 h
              refine mw_iload_n dX6_rank_58 0 rfl ?_
              refine mw_bipush (v := 18) dX6_rank_59 (by decide) ?_
              refine mw_icmp_ne (tgt := 69) dX6_rank_61 (by decide) (fun hc1 => ?_) (fun hc1 => ?_)
              · replace h := mh_ifn hc1 h
                refine mw_bipush (v := 7) dX6_rank_69 (by decide) ?_
                obtain rfl := Option.some.inj h
                exact mw_iret dX6_rank_71 rfl rfl (Nat.le_of_ble_eq_true rfl) (Nat.le_refl 0) mh_ret_rfl
              · replace h := mh_ifp hc1 h
                refine mw_bipush (v := 6) dX6_rank_64 (by decide) ?_
                refine mw_goto (tgt := 71) dX6_rank_66 (by decide) ?_
                obtain rfl := Option.some.inj h
                exact mw_iret dX6_rank_71 rfl rfl (Nat.le_of_ble_eq_true rfl) (Nat.le_refl 0) mh_ret_rfl
            · replace h := mh_ifn hc2 h
              refine mw_iconst (v := 5) dX6_rank_54 (by decide) ?_
              refine mw_goto (tgt := 71) dX6_rank_55 (by decide) ?_
              obtain rfl := Option.some.inj h
              exact mw_iret dX6_rank_71 rfl rfl (Nat.le_of_ble_eq_true rfl) (Nat.le_refl 0) mh_ret_rfl
          · replace h := mh_ifn hc3 h
            refine mw_iconst (v := 4) dX6_rank_44 (by decide) ?_
            refine mw_goto (tgt := 71) dX6_rank_45 (by decide) ?_
            obtain rfl := Option.some.inj h
            exact mw_iret dX6_rank_71 rfl rfl (Nat.le_of_ble_eq_true rfl) (Nat.le_refl 0) mh_ret_rfl
        · replace h := mh_ifp hc4 h
          refine mw_iconst (v := 3) dX6_rank_34 (by decide) ?_
          refine mw_goto (tgt := 71) dX6_rank_35 (by decide) ?_
          obtain rfl := Option.some.inj h
          exact mw_iret dX6_rank_71 rfl rfl (Nat.le_of_ble_eq_true rfl) (Nat.le_refl 0) mh_ret_rfl
      · replace h := mh_ifp hc5 h
        refine mw_iconst (v := 2) dX6_rank_24 (by decide) ?_
        refine mw_goto (tgt := 71) dX6_rank_25 (by decide) ?_
        obtain rfl := Option.some.inj h
        exact mw_iret dX6_rank_71 rfl rfl (Nat.le_of_ble_eq_true rfl) (Nat.le_refl 0) mh_ret_rfl
    · replace h := mh_ifp hc6 h
      refine mw_iconst (v := 1) dX6_rank_14 (by decide) ?_
      refine mw_goto (tgt := 71) dX6_rank_15 (by decide) ?_
      obtain rfl := Option.some.inj h
      exact mw_iret dX6_rank_71 rfl rfl (Nat.le_of_ble_eq_true rfl) (Nat.le_refl 0) mh_ret_rfl
  · replace h := mh_ifp hc7 h
    refine mw_iconst (v := 0) dX6_rank_4 (by decide) ?_
    refine mw_goto (tgt := 71) dX6_rank_5 (by decide) ?_
    obtain rfl := Option.some.inj h
    exact mw_iret dX6_rank_71 rfl rfl (Nat.le_of_ble_eq_true rfl) (Nat.le_refl 0) mh_ret_rfl
abbrev w_X6_puts (sh : List mh_C) (Φ : mh_P) (I : mh_I) (L : mh_L) (pc : Nat) (lv : List (Nat × Value)) (st : List Value) : Prop := mh_W RX6 cX6_puts 2 none false (mh_rm 0) 18 0 0 mh_noX Φ 0 sh I L pc lv st
def X6_puts (p1 : Int32) (I : mh_I) : Option (mh_I) := mh_ix (((200 : Int32) * (I 0 8)) + (I 0 25)) 1200 (fun k1 => some (mh_u (mh_u I 6 k1 p1) 0 25 (((mh_u I 6 k1 p1) 0 25) + (1 : Int32))))
set_option maxHeartbeats 4000000 in
set_option maxRecDepth 100000 in
theorem t_X6_puts {L : mh_L} {I : mh_I} {p1 : Int32} {res : mh_I} (h : X6_puts p1 I = some res) : mh_CT yX6_puts cX6_puts 2 none (mh_rm 0) SHM I L [.ref 0, .int p1] (mh_ret none SHM res L) := by
  refine mh_ofW (ini := false) RX6 rfl (by decide) (fun h => by cases h) (Nat.le_of_ble_eq_true rfl) ?_
  show w_X6_puts SHM (mh_ret none SHM res L) I L 0 [(0, .ref 0), (1, .int p1)] []
  unfold X6_puts at h
  refine mw_aload_n dX6_puts_0 0 rfl ?_
  refine mw_getr (b := 6) (fs := fsX6) gf_X6_25 dX6_puts_1 rfl rfl ?_
  refine mw_sipush (v := 200) dX6_puts_4 (by decide) ?_
  refine mw_aload_n dX6_puts_7 0 rfl ?_
  refine mw_geti (fs := fsX6) gf_X6_77 dX6_puts_8 rfl rfl ?_
  refine mw_imul dX6_puts_11 ?_
  refine mw_aload_n dX6_puts_12 0 rfl ?_
  refine mw_geti (fs := fsX6) gf_X6_103 dX6_puts_13 rfl rfl ?_
  refine mw_iadd dX6_puts_16 ?_
  refine mw_iload_n dX6_puts_17 1 rfl ?_
  obtain ⟨k1, hk2, hk2n, hk2l, h⟩ := mh_ix_some h
  refine mw_xiast dX6_puts_18 rfl hk2 hk2n ?_
  refine mw_aload_n dX6_puts_19 0 rfl ?_
  refine mw_dup dX6_puts_20 rfl ?_
  refine mw_geti (fs := fsX6) gf_X6_103 dX6_puts_21 rfl rfl ?_
  refine mw_iconst (v := 1) dX6_puts_24 (by decide) ?_
  refine mw_iadd dX6_puts_25 ?_
  refine mw_puti (fs := fsX6) pf_X6_103 (fun h => by cases h) rfl rfl dX6_puts_26 rfl rfl ?_
  obtain rfl := Option.some.inj h
  exact mw_vret dX6_puts_29 rfl (Nat.le_of_ble_eq_true rfl) (Nat.le_refl 0) mh_ret_rfl
abbrev w_X6_unwinds (sh : List mh_C) (Φ : mh_P) (I : mh_I) (L : mh_L) (pc : Nat) (lv : List (Nat × Value)) (st : List Value) : Prop := mh_W RX6 cX6_unwinds 3 none false (mh_rm 1) 18 0 0 mh_noX Φ 0 sh I L pc lv st
def X6_unwinds_l0 (u1 : Int32) : Nat → mh_I → Option (mh_I)
  | 0, _ => none
  | n + 1, I => if (I 0 23) ≤ 0 then some I else mh_ix ((I 0 23) - (1 : Int32)) 200 (fun k1 => (X6_rank (I 14 k1)).bind (fun q3 => if q3 < u1 then some I else mh_ix ((mh_u I 0 23 ((I 0 23) - (1 : Int32))) 0 23) 200 (fun k4 => mh_b ((mh_u I 0 23 ((I 0 23) - (1 : Int32))) 14 k4) (fun b6 => mh_j (fun (s7 : Int32) => (X6_puts b6 (mh_u (mh_u I 0 23 ((I 0 23) - (1 : Int32))) 0 24 (((mh_u I 0 23 ((I 0 23) - (1 : Int32))) 0 24) - s7))).bind (fun q12 => (X6_unwinds_l0 u1 n q12))) (fun J8 => mh_j ((J8 (1 : Int32))) (fun J9 => if b6 = (13 : Int32) then J9 else if b6 = (19 : Int32) then J9 else (J8 (0 : Int32))))))))
set_option maxHeartbeats 4000000 in
set_option maxRecDepth 100000 in
theorem t_X6_unwinds_l0 {u1 : Int32} {L : mh_L} {res : mh_I} (n : Nat) (I : mh_I) (h : X6_unwinds_l0 u1 n I = some res)  : w_X6_unwinds SHM (mh_ret none SHM res L) I L 0 [(0, .ref 0), (1, .int u1)] [] := by
  induction n generalizing I with
  | zero => rw [X6_unwinds_l0] at h; cases h
  | succ n ih =>
    rw [X6_unwinds_l0] at h
    refine mw_aload_n dX6_unwinds_0 0 rfl ?_
    refine mw_geti (fs := fsX6) gf_X6_106 dX6_unwinds_1 rfl rfl ?_
    refine mw_if_le (tgt := 79) dX6_unwinds_4 (by decide) (fun hc14 => ?_) (fun hc14 => ?_)
    · replace h := mh_ifp hc14 h
      obtain rfl := Option.some.inj h
      exact mw_vret dX6_unwinds_79 rfl (Nat.le_of_ble_eq_true rfl) (Nat.le_refl 0) mh_ret_rfl
    · replace h := mh_ifn hc14 h
      refine mw_aload_n dX6_unwinds_7 0 rfl ?_
      refine mw_getr (b := 14) (fs := fsX6) gf_X6_49 dX6_unwinds_8 rfl rfl ?_
      refine mw_aload_n dX6_unwinds_11 0 rfl ?_
      refine mw_geti (fs := fsX6) gf_X6_106 dX6_unwinds_12 rfl rfl ?_
      refine mw_iconst (v := 1) dX6_unwinds_15 (by decide) ?_
      refine mw_isub dX6_unwinds_16 ?_
      obtain ⟨k1, hk2, hk2n, hk2l, h⟩ := mh_ix_some h
      refine mw_xiald dX6_unwinds_17 rfl hk2 hk2n ?_
      obtain ⟨q3, hq3, h⟩ := mh_bind h
      refine mw_sr (dc := 0) cs_X6_109 wd_742 dX6_unwinds_18 [.int (I 14 k1)] [.int (I 14 k1)] rfl rfl (t_X6_rank hq3) ⟨by decide, by decide⟩ (Nat.le_of_ble_eq_true rfl) ⟨rfl, rfl⟩ ?_
      refine mw_iload_n dX6_unwinds_21 1 rfl ?_
      refine mw_icmp_lt (tgt := 79) dX6_unwinds_22 (by decide) (fun hc13 => ?_) (fun hc13 => ?_)
      · replace h := mh_ifp hc13 h
        obtain rfl := Option.some.inj h
        exact mw_vret dX6_unwinds_79 rfl (Nat.le_of_ble_eq_true rfl) (Nat.le_refl 0) mh_ret_rfl
      · replace h := mh_ifn hc13 h
        refine mw_aload_n dX6_unwinds_25 0 rfl ?_
        refine mw_dup dX6_unwinds_26 rfl ?_
        refine mw_geti (fs := fsX6) gf_X6_106 dX6_unwinds_27 rfl rfl ?_
        refine mw_iconst (v := 1) dX6_unwinds_30 (by decide) ?_
        refine mw_isub dX6_unwinds_31 ?_
        refine mw_puti (fs := fsX6) pf_X6_106 (fun h => by cases h) rfl rfl dX6_unwinds_32 rfl rfl ?_
        refine mw_aload_n dX6_unwinds_35 0 rfl ?_
        refine mw_getr (b := 14) (fs := fsX6) gf_X6_49 dX6_unwinds_36 rfl rfl ?_
        refine mw_aload_n dX6_unwinds_39 0 rfl ?_
        refine mw_geti (fs := fsX6) gf_X6_106 dX6_unwinds_40 rfl rfl ?_
        obtain ⟨k4, hk5, hk5n, hk5l, h⟩ := mh_ix_some h
        refine mw_xiald dX6_unwinds_43 rfl hk5 hk5n ?_
        obtain ⟨b6, eb6, h⟩ := mh_b_some h
        refine mw_nmi eb6 ?_
        refine mw_istore_n dX6_unwinds_44 (by decide) rfl ?_
        refine mw_aload_n dX6_unwinds_45 1 rfl ?_
        refine mw_dup dX6_unwinds_46 rfl ?_
        refine mw_geti (fs := fsX6) gf_X6_112 dX6_unwinds_47 rfl rfl ?_
        refine mw_iload_n dX6_unwinds_50 0 rfl ?_
        refine mw_bipush (v := 13) dX6_unwinds_51 (by decide) ?_
        refine mh_jw (fun J8 => ∀ (s7 : Int32), J8 s7 = some res → w_X6_unwinds SHM (mh_ret none SHM res L) (mh_u I 0 23 ((I 0 23) - (1 : Int32))) L 67 [(0, .ref 0), (1, .int u1), (2, .int b6)] [.int s7, .int ((mh_u I 0 23 ((I 0 23) - (1 : Int32))) 0 24), .ref 0]) h (fun s7 h => ?_) (fun J8 hJ8 h => ?_)
        · refine mw_isub dX6_unwinds_67 ?_
          refine mw_puti (fs := fsX6) pf_X6_112 (fun h => by cases h) rfl rfl dX6_unwinds_68 rfl rfl ?_
          refine mw_aload_n dX6_unwinds_71 0 rfl ?_
          refine mw_iload_n dX6_unwinds_72 2 rfl ?_
          obtain ⟨q12, hq12, h⟩ := mh_bind h
          refine mw_vv (dc := 0) (ci := 6) (fs := fsX6) (T := TX6) (N := 30) cv_X6_115 wd_735 dX6_unwinds_73 [.int b6] [.int b6, .ref 0] rfl rfl rfl rfl (t_X6_puts hq12) ⟨by decide, by decide⟩ (Nat.le_of_ble_eq_true rfl) ⟨rfl, rfl⟩ ?_
          refine mw_goto (tgt := 0) dX6_unwinds_76 (by decide) ?_
          refine mw_loc [0, 1] rfl ?_
          exact ih _ h
        · refine mh_jw (fun J9 => J9 = some res → w_X6_unwinds SHM (mh_ret none SHM res L) (mh_u I 0 23 ((I 0 23) - (1 : Int32))) L 62 [(0, .ref 0), (1, .int u1), (2, .int b6)] [.int ((mh_u I 0 23 ((I 0 23) - (1 : Int32))) 0 24), .ref 0]) h (fun h => ?_) (fun J9 hJ9 h => ?_)
          · refine mw_iconst (v := 1) dX6_unwinds_62 (by decide) ?_
            refine mw_goto (tgt := 67) dX6_unwinds_63 (by decide) ?_
            refine mw_loc [0, 1, 2] rfl ?_
            exact hJ8 _ h
          · refine mw_icmp_eq (tgt := 62) dX6_unwinds_53 (by decide) (fun hc11 => ?_) (fun hc11 => ?_)
            · replace h := mh_ifp hc11 h
              refine mw_loc [1, 2, 0] rfl ?_
              exact hJ9  h
            · replace h := mh_ifn hc11 h
              refine mw_iload_n dX6_unwinds_56 0 rfl ?_
              refine mw_bipush (v := 19) dX6_unwinds_57 (by decide) ?_
              refine mw_icmp_ne (tgt := 66) dX6_unwinds_59 (by decide) (fun hc10 => ?_) (fun hc10 => ?_)
              · replace h := mh_ifn hc10 h
                refine mw_iconst (v := 0) dX6_unwinds_66 (by decide) ?_
                refine mw_loc [1, 2, 0] rfl ?_
                exact hJ8 _ h
              · replace h := mh_ifp hc10 h
                refine mw_loc [1, 2, 0] rfl ?_
                exact hJ9  h
def X6_unwinds (p1 : Int32) (I : mh_I) : Option (mh_I) := X6_unwinds_l0 p1 mh_fuel I
set_option maxHeartbeats 4000000 in
set_option maxRecDepth 100000 in
theorem t_X6_unwinds {L : mh_L} {I : mh_I} {p1 : Int32} {res : mh_I} (h : X6_unwinds p1 I = some res) : mh_CT yX6_unwinds cX6_unwinds 3 none (mh_rm 1) SHM I L [.ref 0, .int p1] (mh_ret none SHM res L) := by
  refine mh_ofW (ini := false) RX6 rfl (by decide) (fun h => by cases h) (Nat.le_of_ble_eq_true rfl) ?_
  show w_X6_unwinds SHM (mh_ret none SHM res L) I L 0 [(0, .ref 0), (1, .int p1)] []
  unfold X6_unwinds at h
  refine mw_loc [0, 1] rfl ?_
  exact t_X6_unwinds_l0  _ _ h 
abbrev w_X6_holds (sh : List mh_C) (Φ : mh_P) (I : mh_I) (L : mh_L) (pc : Nat) (lv : List (Nat × Value)) (st : List Value) : Prop := mh_W RX6 cX6_holds 2 none false (mh_rm 0) 18 0 0 mh_noX Φ 0 sh I L pc lv st
def X6_holds (p1 : Int32) (I : mh_I) : Option (mh_I) := mh_ix (I 0 23) 200 (fun k1 => some (mh_u (mh_u I 14 k1 p1) 0 23 (((mh_u I 14 k1 p1) 0 23) + (1 : Int32))))
set_option maxHeartbeats 4000000 in
set_option maxRecDepth 100000 in
theorem t_X6_holds {L : mh_L} {I : mh_I} {p1 : Int32} {res : mh_I} (h : X6_holds p1 I = some res) : mh_CT yX6_holds cX6_holds 2 none (mh_rm 0) SHM I L [.ref 0, .int p1] (mh_ret none SHM res L) := by
  refine mh_ofW (ini := false) RX6 rfl (by decide) (fun h => by cases h) (Nat.le_of_ble_eq_true rfl) ?_
  show w_X6_holds SHM (mh_ret none SHM res L) I L 0 [(0, .ref 0), (1, .int p1)] []
  unfold X6_holds at h
  refine mw_aload_n dX6_holds_0 0 rfl ?_
  refine mw_getr (b := 14) (fs := fsX6) gf_X6_49 dX6_holds_1 rfl rfl ?_
  refine mw_aload_n dX6_holds_4 0 rfl ?_
  refine mw_geti (fs := fsX6) gf_X6_106 dX6_holds_5 rfl rfl ?_
  refine mw_iload_n dX6_holds_8 1 rfl ?_
  obtain ⟨k1, hk2, hk2n, hk2l, h⟩ := mh_ix_some h
  refine mw_xiast dX6_holds_9 rfl hk2 hk2n ?_
  refine mw_aload_n dX6_holds_10 0 rfl ?_
  refine mw_dup dX6_holds_11 rfl ?_
  refine mw_geti (fs := fsX6) gf_X6_106 dX6_holds_12 rfl rfl ?_
  refine mw_iconst (v := 1) dX6_holds_15 (by decide) ?_
  refine mw_iadd dX6_holds_16 ?_
  refine mw_puti (fs := fsX6) pf_X6_106 (fun h => by cases h) rfl rfl dX6_holds_17 rfl rfl ?_
  obtain rfl := Option.some.inj h
  exact mw_vret dX6_holds_20 rfl (Nat.le_of_ble_eq_true rfl) (Nat.le_refl 0) mh_ret_rfl
abbrev w_X6_opensOne (sh : List mh_C) (Φ : mh_P) (I : mh_I) (L : mh_L) (pc : Nat) (lv : List (Nat × Value)) (st : List Value) : Prop := mh_W RX6 cX6_opensOne 2 (some .boolean) false (mh_rm 1) 18 0 0 mh_noX Φ 0 sh I L pc lv st
def X6_opensOne (p1 : Int32) (I : mh_I) : Option (Int32 × mh_I) := if (I 0 24) = (5 : Int32) then some ((0 : Int32), I) else (X6_holds p1 (mh_u I 0 24 ((I 0 24) + (1 : Int32)))).bind (fun q1 => some ((1 : Int32), q1))
set_option maxHeartbeats 4000000 in
set_option maxRecDepth 100000 in
theorem t_X6_opensOne {L : mh_L} {I : mh_I} {p1 : Int32} {res : Int32 × mh_I} (h : X6_opensOne p1 I = some res) : mh_CT yX6_opensOne cX6_opensOne 2 (some .boolean) (mh_rm 1) SHM I L [.ref 0, .int p1] (mh_retz res.1 SHM res.2 L) := by
  refine mh_ofW (ini := false) RX6 rfl (by decide) (fun h => by cases h) (Nat.le_of_ble_eq_true rfl) ?_
  show w_X6_opensOne SHM (mh_retz res.1 SHM res.2 L) I L 0 [(0, .ref 0), (1, .int p1)] []
  unfold X6_opensOne at h
  refine mw_aload_n dX6_opensOne_0 0 rfl ?_
  refine mw_geti (fs := fsX6) gf_X6_112 dX6_opensOne_1 rfl rfl ?_
  refine mw_iconst (v := 5) dX6_opensOne_4 (by decide) ?_
  refine mw_icmp_ne (tgt := 10) dX6_opensOne_5 (by decide) (fun hc2 => ?_) (fun hc2 => ?_)
  · replace h := mh_ifn hc2 h
    refine mw_aload_n dX6_opensOne_10 0 rfl ?_
    refine mw_dup dX6_opensOne_11 rfl ?_
    refine mw_geti (fs := fsX6) gf_X6_112 dX6_opensOne_12 rfl rfl ?_
    refine mw_iconst (v := 1) dX6_opensOne_15 (by decide) ?_
    refine mw_iadd dX6_opensOne_16 ?_
    refine mw_puti (fs := fsX6) pf_X6_112 (fun h => by cases h) rfl rfl dX6_opensOne_17 rfl rfl ?_
    refine mw_aload_n dX6_opensOne_20 0 rfl ?_
    refine mw_iload_n dX6_opensOne_21 1 rfl ?_
    obtain ⟨q1, hq1, h⟩ := mh_bind h
    refine mw_vv (dc := 0) (ci := 6) (fs := fsX6) (T := TX6) (N := 30) cv_X6_119 wd_750 dX6_opensOne_22 [.int p1] [.int p1, .ref 0] rfl rfl rfl rfl (t_X6_holds hq1) ⟨by decide, by decide⟩ (Nat.le_of_ble_eq_true rfl) ⟨rfl, rfl⟩ ?_
    refine mw_iconst (v := 1) dX6_opensOne_25 (by decide) ?_
    obtain rfl := Option.some.inj h
    exact mw_zret dX6_opensOne_26 rfl (Or.inr rfl) (Nat.le_of_ble_eq_true rfl) (Nat.le_refl 0) (mh_retz_rfl (Or.inr rfl))
  · replace h := mh_ifp hc2 h
    refine mw_iconst (v := 0) dX6_opensOne_8 (by decide) ?_
    obtain rfl := Option.some.inj h
    exact mw_zret dX6_opensOne_9 rfl (Or.inl rfl) (Nat.le_of_ble_eq_true rfl) (Nat.le_refl 0) (mh_retz_rfl (Or.inl rfl))
abbrev w_X6_between (sh : List mh_C) (Φ : mh_P) (I : mh_I) (L : mh_L) (pc : Nat) (lv : List (Nat × Value)) (st : List Value) : Prop := mh_W RX6 cX6_between 2 (some .boolean) false (mh_rm 2) 18 0 0 mh_noX Φ 0 sh I L pc lv st
def X6_between (p1 : Int32) (I : mh_I) : Option (Int32 × mh_I) := (X6_rank p1).bind (fun q1 => mh_j (fun (s2 : Int32) => (X6_unwinds s2 I).bind (fun q6 => (X6_rank p1).bind (fun q7 => mh_j ((X6_holds p1 q6).bind (fun q15 => some ((1 : Int32), q15))) (fun J8 => if q7 = (4 : Int32) then if (q6 0 23) ≤ 0 then J8 else mh_ix ((q6 0 23) - (1 : Int32)) 200 (fun k9 => (X6_rank (q6 14 k9)).bind (fun q11 => if q11 = (4 : Int32) then some ((0 : Int32), q6) else J8)) else J8)))) (fun J3 => if q1 = (4 : Int32) then (J3 (5 : Int32)) else (X6_rank p1).bind (fun q4 => (J3 q4))))
set_option maxHeartbeats 4000000 in
set_option maxRecDepth 100000 in
theorem t_X6_between {L : mh_L} {I : mh_I} {p1 : Int32} {res : Int32 × mh_I} (h : X6_between p1 I = some res) : mh_CT yX6_between cX6_between 2 (some .boolean) (mh_rm 2) SHM I L [.ref 0, .int p1] (mh_retz res.1 SHM res.2 L) := by
  refine mh_ofW (ini := false) RX6 rfl (by decide) (fun h => by cases h) (Nat.le_of_ble_eq_true rfl) ?_
  show w_X6_between SHM (mh_retz res.1 SHM res.2 L) I L 0 [(0, .ref 0), (1, .int p1)] []
  unfold X6_between at h
  refine mw_aload_n dX6_between_0 0 rfl ?_
  refine mw_iload_n dX6_between_1 1 rfl ?_
  obtain ⟨q1, hq1, h⟩ := mh_bind h
  refine mw_sr (dc := 0) cs_X6_109 wd_742 dX6_between_2 [.int p1] [.int p1, .ref 0] rfl rfl (t_X6_rank hq1) ⟨by decide, by decide⟩ (Nat.le_of_ble_eq_true rfl) ⟨rfl, rfl⟩ ?_
  refine mw_iconst (v := 4) dX6_between_5 (by decide) ?_
  refine mh_jw (fun J3 => ∀ (s2 : Int32), J3 s2 = some res → w_X6_between SHM (mh_retz res.1 SHM res.2 L) I L 17 [(0, .ref 0), (1, .int p1)] [.int s2, .ref 0]) h (fun s2 h => ?_) (fun J3 hJ3 h => ?_)
  · obtain ⟨q6, hq6, h⟩ := mh_bind h
    refine mw_vv (dc := 1) (ci := 6) (fs := fsX6) (T := TX6) (N := 30) cv_X6_122 wd_739 dX6_between_17 [.int s2] [.int s2, .ref 0] rfl rfl rfl rfl (t_X6_unwinds hq6) ⟨by decide, by decide⟩ (Nat.le_of_ble_eq_true rfl) ⟨rfl, rfl⟩ ?_
    refine mw_iload_n dX6_between_20 1 rfl ?_
    obtain ⟨q7, hq7, h⟩ := mh_bind h
    refine mw_sr (dc := 0) cs_X6_109 wd_742 dX6_between_21 [.int p1] [.int p1] rfl rfl (t_X6_rank hq7) ⟨by decide, by decide⟩ (Nat.le_of_ble_eq_true rfl) ⟨rfl, rfl⟩ ?_
    refine mw_iconst (v := 4) dX6_between_24 (by decide) ?_
    refine mh_jw (fun J8 => J8 = some res → w_X6_between SHM (mh_retz res.1 SHM res.2 L) q6 L 55 [(0, .ref 0), (1, .int p1)] []) h (fun h => ?_) (fun J8 hJ8 h => ?_)
    · refine mw_aload_n dX6_between_55 0 rfl ?_
      refine mw_iload_n dX6_between_56 1 rfl ?_
      obtain ⟨q15, hq15, h⟩ := mh_bind h
      refine mw_vv (dc := 0) (ci := 6) (fs := fsX6) (T := TX6) (N := 30) cv_X6_119 wd_750 dX6_between_57 [.int p1] [.int p1, .ref 0] rfl rfl rfl rfl (t_X6_holds hq15) ⟨by decide, by decide⟩ (Nat.le_of_ble_eq_true rfl) ⟨rfl, rfl⟩ ?_
      refine mw_iconst (v := 1) dX6_between_60 (by decide) ?_
      obtain rfl := Option.some.inj h
      exact mw_zret dX6_between_61 rfl (Or.inr rfl) (Nat.le_of_ble_eq_true rfl) (Nat.le_refl 0) (mh_retz_rfl (Or.inr rfl))
    · refine mw_icmp_ne (tgt := 55) dX6_between_25 (by decide) (fun hc14 => ?_) (fun hc14 => ?_)
      · replace h := mh_ifn hc14 h
        refine mw_loc [0, 1] rfl ?_
        exact hJ8  h
      · replace h := mh_ifp hc14 h
        refine mw_aload_n dX6_between_28 0 rfl ?_
        refine mw_geti (fs := fsX6) gf_X6_106 dX6_between_29 rfl rfl ?_
        refine mw_if_le (tgt := 55) dX6_between_32 (by decide) (fun hc13 => ?_) (fun hc13 => ?_)
        · replace h := mh_ifp hc13 h
          refine mw_loc [0, 1] rfl ?_
          exact hJ8  h
        · replace h := mh_ifn hc13 h
          refine mw_aload_n dX6_between_35 0 rfl ?_
          refine mw_getr (b := 14) (fs := fsX6) gf_X6_49 dX6_between_36 rfl rfl ?_
          refine mw_aload_n dX6_between_39 0 rfl ?_
          refine mw_geti (fs := fsX6) gf_X6_106 dX6_between_40 rfl rfl ?_
          refine mw_iconst (v := 1) dX6_between_43 (by decide) ?_
          refine mw_isub dX6_between_44 ?_
          obtain ⟨k9, hk10, hk10n, hk10l, h⟩ := mh_ix_some h
          refine mw_xiald dX6_between_45 rfl hk10 hk10n ?_
          obtain ⟨q11, hq11, h⟩ := mh_bind h
          refine mw_sr (dc := 0) cs_X6_109 wd_742 dX6_between_46 [.int (q6 14 k9)] [.int (q6 14 k9)] rfl rfl (t_X6_rank hq11) ⟨by decide, by decide⟩ (Nat.le_of_ble_eq_true rfl) ⟨rfl, rfl⟩ ?_
          refine mw_iconst (v := 4) dX6_between_49 (by decide) ?_
          refine mw_icmp_ne (tgt := 55) dX6_between_50 (by decide) (fun hc12 => ?_) (fun hc12 => ?_)
          · replace h := mh_ifn hc12 h
            refine mw_loc [0, 1] rfl ?_
            exact hJ8  h
          · replace h := mh_ifp hc12 h
            refine mw_iconst (v := 0) dX6_between_53 (by decide) ?_
            obtain rfl := Option.some.inj h
            exact mw_zret dX6_between_54 rfl (Or.inl rfl) (Nat.le_of_ble_eq_true rfl) (Nat.le_refl 0) (mh_retz_rfl (Or.inl rfl))
  · refine mw_icmp_ne (tgt := 13) dX6_between_6 (by decide) (fun hc5 => ?_) (fun hc5 => ?_)
    · replace h := mh_ifn hc5 h
      refine mw_iload_n dX6_between_13 1 rfl ?_
      obtain ⟨q4, hq4, h⟩ := mh_bind h
      refine mw_sr (dc := 0) cs_X6_109 wd_742 dX6_between_14 [.int p1] [.int p1, .ref 0] rfl rfl (t_X6_rank hq4) ⟨by decide, by decide⟩ (Nat.le_of_ble_eq_true rfl) ⟨rfl, rfl⟩ ?_
      refine mw_loc [0, 1] rfl ?_
      exact hJ3 _ h
    · replace h := mh_ifp hc5 h
      refine mw_iconst (v := 5) dX6_between_9 (by decide) ?_
      refine mw_goto (tgt := 17) dX6_between_10 (by decide) ?_
      refine mw_loc [0, 1] rfl ?_
      exact hJ3 _ h
