abbrev w_X6_keeps (sh : List mh_C) (Φ : mh_P) (I : mh_I) (L : mh_L) (pc : Nat) (lv : List (Nat × Value)) (st : List Value) : Prop := mh_W RX6 cX6_keeps 2 (some .boolean) false (mh_rm 0) 18 0 0 mh_noX Φ 0 sh I L pc lv st
def X6_keeps (p1 : Int32) (I : mh_I) : Option (Int32) := mh_ix p1 48 (fun k1 => if (I 1 k1) = (5 : Int32) then some (1 : Int32) else mh_ix p1 48 (fun k3 => if (I 3 k3) = (1 : Int32) then some (1 : Int32) else some (0 : Int32)))
set_option maxHeartbeats 4000000 in
set_option maxRecDepth 100000 in
theorem t_X6_keeps {L : mh_L} {I : mh_I} {p1 : Int32} {res : Int32} (h : X6_keeps p1 I = some res) : mh_CT yX6_keeps cX6_keeps 2 (some .boolean) (mh_rm 0) SHM I L [.ref 0, .int p1] (mh_retz res SHM I L) := by
  refine mh_ofW (ini := false) RX6 rfl (by decide) (fun h => by cases h) (Nat.le_of_ble_eq_true rfl) ?_
  show w_X6_keeps SHM (mh_retz res SHM I L) I L 0 [(0, .ref 0), (1, .int p1)] []
  unfold X6_keeps at h
  refine mw_aload_n dX6_keeps_0 0 rfl ?_
  refine mw_getr (b := 1) (fs := fsX6) gf_X6_7 dX6_keeps_1 rfl rfl ?_
  refine mw_iload_n dX6_keeps_4 1 rfl ?_
  obtain ⟨k1, hk2, hk2n, hk2l, h⟩ := mh_ix_some h
  refine mw_xiald dX6_keeps_5 rfl hk2 hk2n ?_
  refine mw_iconst (v := 5) dX6_keeps_6 (by decide) ?_
  refine mw_icmp_eq (tgt := 20) dX6_keeps_7 (by decide) (fun hc6 => ?_) (fun hc6 => ?_)
  · replace h := mh_ifp hc6 h
    refine mw_iconst (v := 1) dX6_keeps_20 (by decide) ?_
    refine mw_goto (tgt := 25) dX6_keeps_21 (by decide) ?_
    obtain rfl := Option.some.inj h
    exact mw_zret dX6_keeps_25 rfl (Or.inr rfl) (Nat.le_of_ble_eq_true rfl) (Nat.le_refl 0) (mh_retz_rfl (Or.inr rfl))
  · replace h := mh_ifn hc6 h
    refine mw_aload_n dX6_keeps_10 0 rfl ?_
    refine mw_getr (b := 3) (fs := fsX6) gf_X6_16 dX6_keeps_11 rfl rfl ?_
    refine mw_iload_n dX6_keeps_14 1 rfl ?_
    obtain ⟨k3, hk4, hk4n, hk4l, h⟩ := mh_ix_some h
    refine mw_xiald dX6_keeps_15 rfl hk4 hk4n ?_
    refine mw_iconst (v := 1) dX6_keeps_16 (by decide) ?_
    refine mw_icmp_ne (tgt := 24) dX6_keeps_17 (by decide) (fun hc5 => ?_) (fun hc5 => ?_)
    · replace h := mh_ifn hc5 h
      refine mw_iconst (v := 0) dX6_keeps_24 (by decide) ?_
      obtain rfl := Option.some.inj h
      exact mw_zret dX6_keeps_25 rfl (Or.inl rfl) (Nat.le_of_ble_eq_true rfl) (Nat.le_refl 0) (mh_retz_rfl (Or.inl rfl))
    · replace h := mh_ifp hc5 h
      refine mw_iconst (v := 1) dX6_keeps_20 (by decide) ?_
      refine mw_goto (tgt := 25) dX6_keeps_21 (by decide) ?_
      obtain rfl := Option.some.inj h
      exact mw_zret dX6_keeps_25 rfl (Or.inr rfl) (Nat.le_of_ble_eq_true rfl) (Nat.le_refl 0) (mh_retz_rfl (Or.inr rfl))
abbrev w_X6_goesThrough (sh : List mh_C) (Φ : mh_P) (I : mh_I) (L : mh_L) (pc : Nat) (lv : List (Nat × Value)) (st : List Value) : Prop := mh_W RX6 cX6_goesThrough 3 (some .boolean) false (mh_rm 1) 18 0 0 mh_noX Φ 0 sh I L pc lv st
def X6_goesThrough (p1 : Int32) (p2 : Int32) (I : mh_I) : Option (Int32) := if (p1 / (6 : Int32)) = ((p2 / (6 : Int32)) + (1 : Int32)) then (X6_through p1 I).bind (fun q1 => if ((q1 >>> ((mh_rem p2 (6 : Int32)) &&& 31)) &&& (1 : Int32)) = (1 : Int32) then some (1 : Int32) else some (0 : Int32)) else some (0 : Int32)
set_option maxHeartbeats 4000000 in
set_option maxRecDepth 100000 in
theorem t_X6_goesThrough {L : mh_L} {I : mh_I} {p1 : Int32} {p2 : Int32} {res : Int32} (h : X6_goesThrough p1 p2 I = some res) : mh_CT yX6_goesThrough cX6_goesThrough 3 (some .boolean) (mh_rm 1) SHM I L [.ref 0, .int p1, .int p2] (mh_retz res SHM I L) := by
  refine mh_ofW (ini := false) RX6 rfl (by decide) (fun h => by cases h) (Nat.le_of_ble_eq_true rfl) ?_
  show w_X6_goesThrough SHM (mh_retz res SHM I L) I L 0 [(0, .ref 0), (1, .int p1), (2, .int p2)] []
  unfold X6_goesThrough at h
  refine mw_iload_n dX6_goesThrough_0 1 rfl ?_
  refine mw_bipush (v := 6) dX6_goesThrough_1 (by decide) ?_
  refine mw_idiv dX6_goesThrough_3 (by decide) ?_
  refine mw_iload_n dX6_goesThrough_4 2 rfl ?_
  refine mw_bipush (v := 6) dX6_goesThrough_5 (by decide) ?_
  refine mw_idiv dX6_goesThrough_7 (by decide) ?_
  refine mw_iconst (v := 1) dX6_goesThrough_8 (by decide) ?_
  refine mw_iadd dX6_goesThrough_9 ?_
  refine mw_icmp_ne (tgt := 33) dX6_goesThrough_10 (by decide) (fun hc3 => ?_) (fun hc3 => ?_)
  · replace h := mh_ifn hc3 h
    refine mw_iconst (v := 0) dX6_goesThrough_33 (by decide) ?_
    obtain rfl := Option.some.inj h
    exact mw_zret dX6_goesThrough_34 rfl (Or.inl rfl) (Nat.le_of_ble_eq_true rfl) (Nat.le_refl 0) (mh_retz_rfl (Or.inl rfl))
  · replace h := mh_ifp hc3 h
    refine mw_aload_n dX6_goesThrough_13 0 rfl ?_
    refine mw_iload_n dX6_goesThrough_14 1 rfl ?_
    obtain ⟨q1, hq1, h⟩ := mh_bind h
    refine mw_vr (dc := 0) (ci := 6) (fs := fsX6) (T := TX6) (N := 30) cv_X6_171 wd_916 dX6_goesThrough_15 [.int p1] [.int p1, .ref 0] rfl rfl rfl rfl (t_X6_through hq1) ⟨by decide, by decide⟩ (Nat.le_of_ble_eq_true rfl) ⟨rfl, rfl⟩ ?_
    refine mw_iload_n dX6_goesThrough_18 2 rfl ?_
    refine mw_bipush (v := 6) dX6_goesThrough_19 (by decide) ?_
    refine mw_irem dX6_goesThrough_21 (by decide) ?_
    refine mw_ishr dX6_goesThrough_22 ?_
    refine mw_iconst (v := 1) dX6_goesThrough_23 (by decide) ?_
    refine mw_iand dX6_goesThrough_24 ?_
    refine mw_iconst (v := 1) dX6_goesThrough_25 (by decide) ?_
    refine mw_icmp_ne (tgt := 33) dX6_goesThrough_26 (by decide) (fun hc2 => ?_) (fun hc2 => ?_)
    · replace h := mh_ifn hc2 h
      refine mw_iconst (v := 0) dX6_goesThrough_33 (by decide) ?_
      obtain rfl := Option.some.inj h
      exact mw_zret dX6_goesThrough_34 rfl (Or.inl rfl) (Nat.le_of_ble_eq_true rfl) (Nat.le_refl 0) (mh_retz_rfl (Or.inl rfl))
    · replace h := mh_ifp hc2 h
      refine mw_iconst (v := 1) dX6_goesThrough_29 (by decide) ?_
      refine mw_goto (tgt := 34) dX6_goesThrough_30 (by decide) ?_
      obtain rfl := Option.some.inj h
      exact mw_zret dX6_goesThrough_34 rfl (Or.inr rfl) (Nat.le_of_ble_eq_true rfl) (Nat.le_refl 0) (mh_retz_rfl (Or.inr rfl))
abbrev w_X6_uppers (sh : List mh_C) (Φ : mh_P) (I : mh_I) (L : mh_L) (pc : Nat) (lv : List (Nat × Value)) (st : List Value) : Prop := mh_W RX6 cX6_uppers 5 (some .long) false (mh_rm 2) 18 0 0 mh_noX Φ 0 sh I L pc lv st
def X6_uppers_l14 (u1 : Int32) (I : mh_I) : Nat → Int64 → Int32 → Option (Int64)
  | 0, _, _ => none
  | n + 1, u2, u4 => if (48 : Int32) ≤ u4 then some u2 else if (((6 : Int32) * (u1 / (6 : Int32))) + (12 : Int32)) ≤ u4 then some u2 else (X6_goesThrough u4 u1 I).bind (fun q2 => mh_j (fun (s3 : Int64) => mh_b (u2 ||| s3) (fun b6 => mh_b (u4 + (1 : Int32)) (fun b7 => (X6_uppers_l14 u1 I n b6 b7)))) (fun J4 => if q2 = 0 then (J4 (0 : Int64)) else (J4 ((1 : Int64) <<< (u4.toInt64 &&& 63)))))
set_option maxHeartbeats 4000000 in
set_option maxRecDepth 100000 in
theorem t_X6_uppers_l14 {u1 : Int32} {I : mh_I} {L : mh_L} {res : Int64} (n : Nat) (u2 : Int64) (u4 : Int32) (h : X6_uppers_l14 u1 I n u2 u4 = some res)  : w_X6_uppers SHM (mh_ret (some (.long res)) SHM I L) I L 14 [(0, .ref 0), (1, .int u1), (2, .long u2), (4, .int u4)] [] := by
  induction n generalizing u2 u4 with
  | zero => rw [X6_uppers_l14] at h; cases h
  | succ n ih =>
    rw [X6_uppers_l14] at h
    refine mw_iload dX6_uppers_14 3 rfl ?_
    refine mw_bipush (v := 48) dX6_uppers_16 (by decide) ?_
    refine mw_icmp_ge (tgt := 63) dX6_uppers_18 (by decide) (fun hc9 => ?_) (fun hc9 => ?_)
    · replace h := mh_ifp hc9 h
      refine mw_lload_n dX6_uppers_63 2 rfl ?_
      obtain rfl := Option.some.inj h
      exact mw_lret dX6_uppers_64 rfl (Nat.le_of_ble_eq_true rfl) (Nat.le_refl 0) mh_ret_rfl
    · replace h := mh_ifn hc9 h
      refine mw_iload dX6_uppers_21 3 rfl ?_
      refine mw_bipush (v := 6) dX6_uppers_23 (by decide) ?_
      refine mw_iload_n dX6_uppers_25 1 rfl ?_
      refine mw_bipush (v := 6) dX6_uppers_26 (by decide) ?_
      refine mw_idiv dX6_uppers_28 (by decide) ?_
      refine mw_imul dX6_uppers_29 ?_
      refine mw_bipush (v := 12) dX6_uppers_30 (by decide) ?_
      refine mw_iadd dX6_uppers_32 ?_
      refine mw_icmp_ge (tgt := 63) dX6_uppers_33 (by decide) (fun hc8 => ?_) (fun hc8 => ?_)
      · replace h := mh_ifp hc8 h
        refine mw_lload_n dX6_uppers_63 2 rfl ?_
        obtain rfl := Option.some.inj h
        exact mw_lret dX6_uppers_64 rfl (Nat.le_of_ble_eq_true rfl) (Nat.le_refl 0) mh_ret_rfl
      · replace h := mh_ifn hc8 h
        refine mw_lload_n dX6_uppers_36 2 rfl ?_
        refine mw_aload_n dX6_uppers_37 0 rfl ?_
        refine mw_iload dX6_uppers_38 3 rfl ?_
        refine mw_iload_n dX6_uppers_40 1 rfl ?_
        obtain ⟨q2, hq2, h⟩ := mh_bind h
        refine mw_vz (dc := 1) (ci := 6) (fs := fsX6) (T := TX6) (N := 30) cv_X6_174 wd_937 dX6_uppers_41 [.int u4, .int u1] [.int u1, .int u4, .ref 0, .long u2] rfl rfl rfl rfl (t_X6_goesThrough hq2) ⟨by decide, by decide⟩ (Nat.le_of_ble_eq_true rfl) ⟨rfl, rfl⟩ (fun zq2 => ?_)
        refine mh_jw (fun J4 => ∀ (s3 : Int64), J4 s3 = some res → w_X6_uppers SHM (mh_ret (some (.long res)) SHM I L) I L 55 [(0, .ref 0), (1, .int u1), (4, .int u4)] [.long s3, .long u2]) h (fun s3 h => ?_) (fun J4 hJ4 h => ?_)
        · refine mw_lor dX6_uppers_55 ?_
          obtain ⟨b6, eb6, h⟩ := mh_b_some h
          refine mw_nml eb6 ?_
          refine mw_lstore_n dX6_uppers_56 (by decide) rfl ?_
          obtain ⟨b7, eb7, h⟩ := mh_b_some h
          refine mw_iinc (v := b7) dX6_uppers_57 3 rfl (by rw [← eb7]; rfl) (by decide) rfl ?_
          refine mw_goto (tgt := 14) dX6_uppers_60 (by decide) ?_
          refine mw_loc [2, 3, 1, 0] rfl ?_
          exact ih _ _ h
        · refine mw_if_eq (tgt := 54) dX6_uppers_44 (by decide) (fun hc5 => ?_) (fun hc5 => ?_)
          · replace h := mh_ifp hc5 h
            refine mw_lconst (v := 0) dX6_uppers_54 (by decide) ?_
            refine mw_loc [0, 1, 3] rfl ?_
            exact hJ4 _ h
          · replace h := mh_ifn hc5 h
            refine mw_lconst (v := 1) dX6_uppers_47 (by decide) ?_
            refine mw_iload dX6_uppers_48 3 rfl ?_
            refine mw_lshl dX6_uppers_50 ?_
            refine mw_goto (tgt := 55) dX6_uppers_51 (by decide) ?_
            refine mw_loc [0, 1, 3] rfl ?_
            exact hJ4 _ h
def X6_uppers (p1 : Int32) (I : mh_I) : Option (Int64) := mh_b (((6 : Int32) * (p1 / (6 : Int32))) + (6 : Int32)) (fun b1 => X6_uppers_l14 p1 I mh_fuel (0 : Int64) b1)
set_option maxHeartbeats 4000000 in
set_option maxRecDepth 100000 in
theorem t_X6_uppers {L : mh_L} {I : mh_I} {p1 : Int32} {res : Int64} (h : X6_uppers p1 I = some res) : mh_CT yX6_uppers cX6_uppers 5 (some .long) (mh_rm 2) SHM I L [.ref 0, .int p1] (mh_ret (some (.long res)) SHM I L) := by
  refine mh_ofW (ini := false) RX6 rfl (by decide) (fun h => by cases h) (Nat.le_of_ble_eq_true rfl) ?_
  show w_X6_uppers SHM (mh_ret (some (.long res)) SHM I L) I L 0 [(0, .ref 0), (1, .int p1)] []
  unfold X6_uppers at h
  refine mw_lconst (v := 0) dX6_uppers_0 (by decide) ?_
  refine mw_lstore_n dX6_uppers_1 (by decide) rfl ?_
  refine mw_bipush (v := 6) dX6_uppers_2 (by decide) ?_
  refine mw_iload_n dX6_uppers_4 2 rfl ?_
  refine mw_bipush (v := 6) dX6_uppers_5 (by decide) ?_
  refine mw_idiv dX6_uppers_7 (by decide) ?_
  refine mw_imul dX6_uppers_8 ?_
  refine mw_bipush (v := 6) dX6_uppers_9 (by decide) ?_
  refine mw_iadd dX6_uppers_11 ?_
  obtain ⟨b1, eb1, h⟩ := mh_b_some h
  refine mw_nmi eb1 ?_
  refine mw_istore dX6_uppers_12 (by decide) rfl ?_
  refine mw_loc [2, 3, 1, 0] rfl ?_
  exact t_X6_uppers_l14  _ _ _ h 
abbrev w_X6_hanging (sh : List mh_C) (Φ : mh_P) (I : mh_I) (L : mh_L) (pc : Nat) (lv : List (Nat × Value)) (st : List Value) : Prop := mh_W RX6 cX6_hanging 5 (some .long) false (mh_rm 3) 18 0 0 mh_noX Φ 0 sh I L pc lv st
def X6_hanging_l11 (I : mh_I) : Nat → Int64 → Int32 → Option (Int64)
  | 0, _, _ => none
  | n + 1, u2, u4 => if (48 : Int32) ≤ u4 then some u2 else mh_j (fun (s3 : Int64) => mh_b (u2 ||| s3) (fun b7 => mh_b (u4 + (1 : Int32)) (fun b8 => (X6_hanging_l11 I n b7 b8)))) (fun J4 => if (lg_cmp ((u2 >>> (u4.toInt64 &&& 63)) &&& (1 : Int64)) (1 : Int64)) = 0 then (X6_uppers u4 I).bind (fun q5 => (J4 q5)) else (J4 (0 : Int64)))
set_option maxHeartbeats 4000000 in
set_option maxRecDepth 100000 in
theorem t_X6_hanging_l11 {I : mh_I} {L : mh_L} {res : Int64} (n : Nat) (u2 : Int64) (u4 : Int32) (h : X6_hanging_l11 I n u2 u4 = some res)  : w_X6_hanging SHM (mh_ret (some (.long res)) SHM I L) I L 11 [(0, .ref 0), (2, .long u2), (4, .int u4)] [] := by
  induction n generalizing u2 u4 with
  | zero => rw [X6_hanging_l11] at h; cases h
  | succ n ih =>
    rw [X6_hanging_l11] at h
    refine mw_iload dX6_hanging_11 2 rfl ?_
    refine mw_bipush (v := 48) dX6_hanging_13 (by decide) ?_
    refine mw_icmp_ge (tgt := 48) dX6_hanging_15 (by decide) (fun hc9 => ?_) (fun hc9 => ?_)
    · replace h := mh_ifp hc9 h
      refine mw_lload_n dX6_hanging_48 1 rfl ?_
      obtain rfl := Option.some.inj h
      exact mw_lret dX6_hanging_49 rfl (Nat.le_of_ble_eq_true rfl) (Nat.le_refl 0) mh_ret_rfl
    · replace h := mh_ifn hc9 h
      refine mw_lload_n dX6_hanging_18 1 rfl ?_
      refine mw_lload_n dX6_hanging_19 1 rfl ?_
      refine mw_iload dX6_hanging_20 2 rfl ?_
      refine mw_lshr dX6_hanging_22 ?_
      refine mw_lconst (v := 1) dX6_hanging_23 (by decide) ?_
      refine mw_land dX6_hanging_24 ?_
      refine mw_lconst (v := 1) dX6_hanging_25 (by decide) ?_
      refine mw_lcmp dX6_hanging_26 ?_
      refine mh_jw (fun J4 => ∀ (s3 : Int64), J4 s3 = some res → w_X6_hanging SHM (mh_ret (some (.long res)) SHM I L) I L 40 [(0, .ref 0), (4, .int u4)] [.long s3, .long u2]) h (fun s3 h => ?_) (fun J4 hJ4 h => ?_)
      · refine mw_lor dX6_hanging_40 ?_
        obtain ⟨b7, eb7, h⟩ := mh_b_some h
        refine mw_nml eb7 ?_
        refine mw_lstore_n dX6_hanging_41 (by decide) rfl ?_
        obtain ⟨b8, eb8, h⟩ := mh_b_some h
        refine mw_iinc (v := b8) dX6_hanging_42 2 rfl (by rw [← eb8]; rfl) (by decide) rfl ?_
        refine mw_goto (tgt := 11) dX6_hanging_45 (by decide) ?_
        refine mw_loc [2, 1, 0] rfl ?_
        exact ih _ _ h
      · refine mw_if_ne (tgt := 39) dX6_hanging_27 (by decide) (fun hc6 => ?_) (fun hc6 => ?_)
        · replace h := mh_ifn hc6 h
          refine mw_lconst (v := 0) dX6_hanging_39 (by decide) ?_
          refine mw_loc [0, 2] rfl ?_
          exact hJ4 _ h
        · replace h := mh_ifp hc6 h
          refine mw_aload_n dX6_hanging_30 0 rfl ?_
          refine mw_iload dX6_hanging_31 2 rfl ?_
          obtain ⟨q5, hq5, h⟩ := mh_bind h
          refine mw_vr (dc := 2) (ci := 6) (fs := fsX6) (T := TX6) (N := 30) cv_X6_177 wd_933 dX6_hanging_33 [.int u4] [.int u4, .ref 0, .long u2] rfl rfl rfl rfl (t_X6_uppers hq5) ⟨by decide, by decide⟩ (Nat.le_of_ble_eq_true rfl) ⟨rfl, rfl⟩ ?_
          refine mw_goto (tgt := 40) dX6_hanging_36 (by decide) ?_
          refine mw_loc [0, 2] rfl ?_
          exact hJ4 _ h
def X6_hanging (p1 : Int32) (I : mh_I) : Option (Int64) := (X6_uppers p1 I).bind (fun q1 => mh_b (p1 + (1 : Int32)) (fun b2 => X6_hanging_l11 I mh_fuel q1 b2))
set_option maxHeartbeats 4000000 in
set_option maxRecDepth 100000 in
theorem t_X6_hanging {L : mh_L} {I : mh_I} {p1 : Int32} {res : Int64} (h : X6_hanging p1 I = some res) : mh_CT yX6_hanging cX6_hanging 5 (some .long) (mh_rm 3) SHM I L [.ref 0, .int p1] (mh_ret (some (.long res)) SHM I L) := by
  refine mh_ofW (ini := false) RX6 rfl (by decide) (fun h => by cases h) (Nat.le_of_ble_eq_true rfl) ?_
  show w_X6_hanging SHM (mh_ret (some (.long res)) SHM I L) I L 0 [(0, .ref 0), (1, .int p1)] []
  unfold X6_hanging at h
  refine mw_aload_n dX6_hanging_0 0 rfl ?_
  refine mw_iload_n dX6_hanging_1 1 rfl ?_
  obtain ⟨q1, hq1, h⟩ := mh_bind h
  refine mw_vr (dc := 2) (ci := 6) (fs := fsX6) (T := TX6) (N := 30) cv_X6_177 wd_933 dX6_hanging_2 [.int p1] [.int p1, .ref 0] rfl rfl rfl rfl (t_X6_uppers hq1) ⟨by decide, by decide⟩ (Nat.le_of_ble_eq_true rfl) ⟨rfl, rfl⟩ ?_
  refine mw_lstore_n dX6_hanging_5 (by decide) rfl ?_
  refine mw_iload_n dX6_hanging_6 2 rfl ?_
  refine mw_iconst (v := 1) dX6_hanging_7 (by decide) ?_
  refine mw_iadd dX6_hanging_8 ?_
  obtain ⟨b2, eb2, h⟩ := mh_b_some h
  refine mw_nmi eb2 ?_
  refine mw_istore dX6_hanging_9 (by decide) rfl ?_
  refine mw_loc [2, 1, 0] rfl ?_
  exact t_X6_hanging_l11  _ _ _ h 
abbrev w_X6_hangs (sh : List mh_C) (Φ : mh_P) (I : mh_I) (L : mh_L) (pc : Nat) (lv : List (Nat × Value)) (st : List Value) : Prop := mh_W RX6 cX6_hangs 6 (some .long) false (mh_rm 4) 18 0 0 mh_noX Φ 0 sh I L pc lv st
def X6_hangs_l25 (u1 : Int32) (u2 : Int32) (I : mh_I) (k69 : (Int64 → Option (Int64))) : Nat → Int64 → Int32 → Option (Int64)
  | 0, _, _ => none
  | n + 1, u3, u5 => if (48 : Int32) ≤ u5 then (k69 u3) else if u2 = (2 : Int32) then (X6_hanging u5 I).bind (fun q3 => mh_j (fun (s4 : Int64) => mh_b (u3 ||| s4) (fun b7 => mh_b (u5 + (1 : Int32)) (fun b8 => (X6_hangs_l25 u1 u2 I k69 n b7 b8)))) (fun J5 => if (lg_cmp ((q3 >>> (u1.toInt64 &&& 63)) &&& (1 : Int64)) (1 : Int64)) = 0 then (J5 ((1 : Int64) <<< (u5.toInt64 &&& 63))) else (J5 (0 : Int64)))) else (k69 u3)
set_option maxHeartbeats 4000000 in
set_option maxRecDepth 100000 in
theorem t_X6_hangs_l25 {u1 : Int32} {u2 : Int32} {k69 : (Int64 → Option (Int64))} {I : mh_I} {L : mh_L} {res : Int64} (n : Nat) (u3 : Int64) (u5 : Int32) (h : X6_hangs_l25 u1 u2 I k69 n u3 u5 = some res) (hk69 : ∀ (u3 : Int64), k69 u3 = some res → w_X6_hangs SHM (mh_ret (some (.long res)) SHM I L) I L 69 [(0, .ref 0), (1, .int u1), (2, .int u2), (3, .long u3)] []) : w_X6_hangs SHM (mh_ret (some (.long res)) SHM I L) I L 25 [(0, .ref 0), (1, .int u1), (2, .int u2), (3, .long u3), (5, .int u5)] [] := by
  induction n generalizing u3 u5 with
  | zero => rw [X6_hangs_l25] at h; cases h
  | succ n ih =>
    rw [X6_hangs_l25] at h
    refine mw_iload dX6_hangs_25 4 rfl ?_
    refine mw_bipush (v := 48) dX6_hangs_27 (by decide) ?_
    refine mw_icmp_ge (tgt := 69) dX6_hangs_29 (by decide) (fun hc10 => ?_) (fun hc10 => ?_)
    · replace h := mh_ifp hc10 h
      refine mw_loc [0, 1, 2, 3] rfl ?_
      exact hk69 _ h
    · replace h := mh_ifn hc10 h
      refine mw_iload_n dX6_hangs_32 2 rfl ?_
      refine mw_iconst (v := 2) dX6_hangs_33 (by decide) ?_
      refine mw_icmp_ne (tgt := 69) dX6_hangs_34 (by decide) (fun hc9 => ?_) (fun hc9 => ?_)
      · replace h := mh_ifn hc9 h
        refine mw_loc [0, 1, 2, 3] rfl ?_
        exact hk69 _ h
      · replace h := mh_ifp hc9 h
        refine mw_lload_n dX6_hangs_37 3 rfl ?_
        refine mw_aload_n dX6_hangs_38 0 rfl ?_
        refine mw_iload dX6_hangs_39 4 rfl ?_
        obtain ⟨q3, hq3, h⟩ := mh_bind h
        refine mw_vr (dc := 3) (ci := 6) (fs := fsX6) (T := TX6) (N := 30) cv_X6_183 wd_929 dX6_hangs_41 [.int u5] [.int u5, .ref 0, .long u3] rfl rfl rfl rfl (t_X6_hanging hq3) ⟨by decide, by decide⟩ (Nat.le_of_ble_eq_true rfl) ⟨rfl, rfl⟩ ?_
        refine mw_iload_n dX6_hangs_44 1 rfl ?_
        refine mw_lshr dX6_hangs_45 ?_
        refine mw_lconst (v := 1) dX6_hangs_46 (by decide) ?_
        refine mw_land dX6_hangs_47 ?_
        refine mw_lconst (v := 1) dX6_hangs_48 (by decide) ?_
        refine mw_lcmp dX6_hangs_49 ?_
        refine mh_jw (fun J5 => ∀ (s4 : Int64), J5 s4 = some res → w_X6_hangs SHM (mh_ret (some (.long res)) SHM I L) I L 61 [(0, .ref 0), (1, .int u1), (2, .int u2), (5, .int u5)] [.long s4, .long u3]) h (fun s4 h => ?_) (fun J5 hJ5 h => ?_)
        · refine mw_lor dX6_hangs_61 ?_
          obtain ⟨b7, eb7, h⟩ := mh_b_some h
          refine mw_nml eb7 ?_
          refine mw_lstore_n dX6_hangs_62 (by decide) rfl ?_
          obtain ⟨b8, eb8, h⟩ := mh_b_some h
          refine mw_iinc (v := b8) dX6_hangs_63 4 rfl (by rw [← eb8]; rfl) (by decide) rfl ?_
          refine mw_goto (tgt := 25) dX6_hangs_66 (by decide) ?_
          refine mw_loc [2, 3, 4, 1, 0] rfl ?_
          exact ih _ _ h
        · refine mw_if_ne (tgt := 60) dX6_hangs_50 (by decide) (fun hc6 => ?_) (fun hc6 => ?_)
          · replace h := mh_ifn hc6 h
            refine mw_lconst (v := 0) dX6_hangs_60 (by decide) ?_
            refine mw_loc [0, 1, 2, 4] rfl ?_
            exact hJ5 _ h
          · replace h := mh_ifp hc6 h
            refine mw_lconst (v := 1) dX6_hangs_53 (by decide) ?_
            refine mw_iload dX6_hangs_54 4 rfl ?_
            refine mw_lshl dX6_hangs_56 ?_
            refine mw_goto (tgt := 61) dX6_hangs_57 (by decide) ?_
            refine mw_loc [0, 1, 2, 4] rfl ?_
            exact hJ5 _ h
def X6_hangs (p1 : Int32) (p2 : Int32) (I : mh_I) : Option (Int64) := (X6_isLoop p1).bind (fun q1 => if q1 = 0 then some (-4611686018427387904 : Int64) else (X6_in p2 (0 : Int32) (2 : Int32)).bind (fun q2 => if q2 = 0 then some (-4611686018427387904 : Int64) else X6_hangs_l25 p1 p2 I (fun (v11 : Int64) => if p2 = 0 then (X6_uppers p1 I).bind (fun q14 => some q14) else if p2 = (1 : Int32) then (X6_hanging p1 I).bind (fun q12 => some q12) else some v11) mh_fuel (0 : Int64) (0 : Int32)))
set_option maxHeartbeats 4000000 in
set_option maxRecDepth 100000 in
theorem t_X6_hangs {L : mh_L} {I : mh_I} {p1 : Int32} {p2 : Int32} {res : Int64} (h : X6_hangs p1 p2 I = some res) : mh_CT yX6_hangs cX6_hangs 6 (some .long) (mh_rm 4) SHM I L [.ref 0, .int p1, .int p2] (mh_ret (some (.long res)) SHM I L) := by
  refine mh_ofW (ini := false) RX6 rfl (by decide) (fun h => by cases h) (Nat.le_of_ble_eq_true rfl) ?_
  show w_X6_hangs SHM (mh_ret (some (.long res)) SHM I L) I L 0 [(0, .ref 0), (1, .int p1), (2, .int p2)] []
  unfold X6_hangs at h
  refine mw_iload_n dX6_hangs_0 1 rfl ?_
  obtain ⟨q1, hq1, h⟩ := mh_bind h
  refine mw_sz (dc := 1) cs_X6_155 wd_876 dX6_hangs_1 [.int p1] [.int p1] rfl rfl (t_X6_isLoop hq1) ⟨by decide, by decide⟩ (Nat.le_of_ble_eq_true rfl) ⟨rfl, rfl⟩ (fun zq1 => ?_)
  refine mw_if_eq (tgt := 16) dX6_hangs_4 (by decide) (fun hc17 => ?_) (fun hc17 => ?_)
  · replace h := mh_ifp hc17 h
    refine mw_ldc2 dX6_hangs_16 wd_925 ?_
    obtain rfl := Option.some.inj h
    exact mw_lret dX6_hangs_19 rfl (Nat.le_of_ble_eq_true rfl) (Nat.le_refl 0) mh_ret_rfl
  · replace h := mh_ifn hc17 h
    refine mw_iload_n dX6_hangs_7 2 rfl ?_
    refine mw_iconst (v := 0) dX6_hangs_8 (by decide) ?_
    refine mw_iconst (v := 2) dX6_hangs_9 (by decide) ?_
    obtain ⟨q2, hq2, h⟩ := mh_bind h
    refine mw_sz (dc := 0) cs_X6_69 wd_722 dX6_hangs_10 [.int p2, .int (0 : Int32), .int (2 : Int32)] [.int (2 : Int32), .int (0 : Int32), .int p2] rfl rfl (t_X6_in hq2) ⟨by decide, by decide⟩ (Nat.le_of_ble_eq_true rfl) ⟨rfl, rfl⟩ (fun zq2 => ?_)
    refine mw_if_ne (tgt := 20) dX6_hangs_13 (by decide) (fun hc16 => ?_) (fun hc16 => ?_)
    · replace h := mh_ifn hc16 h
      refine mw_lconst (v := 0) dX6_hangs_20 (by decide) ?_
      refine mw_lstore_n dX6_hangs_21 (by decide) rfl ?_
      refine mw_iconst (v := 0) dX6_hangs_22 (by decide) ?_
      refine mw_istore dX6_hangs_23 (by decide) rfl ?_
      refine mw_loc [2, 3, 4, 1, 0] rfl ?_
      refine t_X6_hangs_l25  _ _ _ h (fun v11 h => ?_)
      refine mw_iload_n dX6_hangs_69 2 rfl ?_
      refine mw_if_ne (tgt := 81) dX6_hangs_70 (by decide) (fun hc15 => ?_) (fun hc15 => ?_)
      · replace h := mh_ifn hc15 h
        refine mw_iload_n dX6_hangs_81 2 rfl ?_
        refine mw_iconst (v := 1) dX6_hangs_82 (by decide) ?_
        refine mw_icmp_ne (tgt := 94) dX6_hangs_83 (by decide) (fun hc13 => ?_) (fun hc13 => ?_)
        · replace h := mh_ifn hc13 h
          refine mw_lload_n dX6_hangs_94 3 rfl ?_
          obtain rfl := Option.some.inj h
          exact mw_lret dX6_hangs_95 rfl (Nat.le_of_ble_eq_true rfl) (Nat.le_refl 0) mh_ret_rfl
        · replace h := mh_ifp hc13 h
          refine mw_aload_n dX6_hangs_86 0 rfl ?_
          refine mw_iload_n dX6_hangs_87 1 rfl ?_
          obtain ⟨q12, hq12, h⟩ := mh_bind h
          refine mw_vr (dc := 3) (ci := 6) (fs := fsX6) (T := TX6) (N := 30) cv_X6_183 wd_929 dX6_hangs_88 [.int p1] [.int p1, .ref 0] rfl rfl rfl rfl (t_X6_hanging hq12) ⟨by decide, by decide⟩ (Nat.le_of_ble_eq_true rfl) ⟨rfl, rfl⟩ ?_
          refine mw_goto (tgt := 95) dX6_hangs_91 (by decide) ?_
          obtain rfl := Option.some.inj h
          exact mw_lret dX6_hangs_95 rfl (Nat.le_of_ble_eq_true rfl) (Nat.le_refl 0) mh_ret_rfl
      · replace h := mh_ifp hc15 h
        refine mw_aload_n dX6_hangs_73 0 rfl ?_
        refine mw_iload_n dX6_hangs_74 1 rfl ?_
        obtain ⟨q14, hq14, h⟩ := mh_bind h
        refine mw_vr (dc := 2) (ci := 6) (fs := fsX6) (T := TX6) (N := 30) cv_X6_177 wd_933 dX6_hangs_75 [.int p1] [.int p1, .ref 0] rfl rfl rfl rfl (t_X6_uppers hq14) ⟨by decide, by decide⟩ (Nat.le_of_ble_eq_true rfl) ⟨rfl, rfl⟩ ?_
        refine mw_goto (tgt := 95) dX6_hangs_78 (by decide) ?_
        obtain rfl := Option.some.inj h
        exact mw_lret dX6_hangs_95 rfl (Nat.le_of_ble_eq_true rfl) (Nat.le_refl 0) mh_ret_rfl
    · replace h := mh_ifp hc16 h
      refine mw_ldc2 dX6_hangs_16 wd_925 ?_
      obtain rfl := Option.some.inj h
      exact mw_lret dX6_hangs_19 rfl (Nat.le_of_ble_eq_true rfl) (Nat.le_refl 0) mh_ret_rfl
abbrev w_X6_bitsOf (sh : List mh_C) (Φ : mh_P) (I : mh_I) (L : mh_L) (pc : Nat) (lv : List (Nat × Value)) (st : List Value) : Prop := mh_W RX6 cX6_bitsOf 4 (some .int) false (mh_rm 0) 18 0 0 mh_noX Φ 0 sh I L pc lv st
def X6_bitsOf_l4 (u0 : Int64) : Nat → Int32 → Int32 → Option (Int32)
  | 0, _, _ => none
  | n + 1, u2, u3 => if (48 : Int32) ≤ u3 then some u2 else mh_j (fun (s1 : Int32) => mh_b (u2 + s1) (fun b4 => mh_b (u3 + (1 : Int32)) (fun b5 => (X6_bitsOf_l4 u0 n b4 b5)))) (fun J2 => if (lg_cmp ((u0 >>> (u3.toInt64 &&& 63)) &&& (1 : Int64)) (1 : Int64)) = 0 then (J2 (1 : Int32)) else (J2 (0 : Int32)))
set_option maxHeartbeats 4000000 in
set_option maxRecDepth 100000 in
theorem t_X6_bitsOf_l4 {u0 : Int64} {I : mh_I} {L : mh_L} {res : Int32} (n : Nat) (u2 : Int32) (u3 : Int32) (h : X6_bitsOf_l4 u0 n u2 u3 = some res)  : w_X6_bitsOf SHM (mh_ret (some (.int res)) SHM I L) I L 4 [(0, .long u0), (2, .int u2), (3, .int u3)] [] := by
  induction n generalizing u2 u3 with
  | zero => rw [X6_bitsOf_l4] at h; cases h
  | succ n ih =>
    rw [X6_bitsOf_l4] at h
    refine mw_iload_n dX6_bitsOf_4 2 rfl ?_
    refine mw_bipush (v := 48) dX6_bitsOf_5 (by decide) ?_
    refine mw_icmp_ge (tgt := 34) dX6_bitsOf_7 (by decide) (fun hc6 => ?_) (fun hc6 => ?_)
    · replace h := mh_ifp hc6 h
      refine mw_iload_n dX6_bitsOf_34 1 rfl ?_
      obtain rfl := Option.some.inj h
      exact mw_iret dX6_bitsOf_35 rfl rfl (Nat.le_of_ble_eq_true rfl) (Nat.le_refl 0) mh_ret_rfl
    · replace h := mh_ifn hc6 h
      refine mw_iload_n dX6_bitsOf_10 1 rfl ?_
      refine mw_lload_n dX6_bitsOf_11 0 rfl ?_
      refine mw_iload_n dX6_bitsOf_12 2 rfl ?_
      refine mw_lshr dX6_bitsOf_13 ?_
      refine mw_lconst (v := 1) dX6_bitsOf_14 (by decide) ?_
      refine mw_land dX6_bitsOf_15 ?_
      refine mw_lconst (v := 1) dX6_bitsOf_16 (by decide) ?_
      refine mw_lcmp dX6_bitsOf_17 ?_
      refine mh_jw (fun J2 => ∀ (s1 : Int32), J2 s1 = some res → w_X6_bitsOf SHM (mh_ret (some (.int res)) SHM I L) I L 26 [(0, .long u0), (3, .int u3)] [.int s1, .int u2]) h (fun s1 h => ?_) (fun J2 hJ2 h => ?_)
      · refine mw_iadd dX6_bitsOf_26 ?_
        obtain ⟨b4, eb4, h⟩ := mh_b_some h
        refine mw_nmi eb4 ?_
        refine mw_istore_n dX6_bitsOf_27 (by decide) rfl ?_
        obtain ⟨b5, eb5, h⟩ := mh_b_some h
        refine mw_iinc (v := b5) dX6_bitsOf_28 2 rfl (by rw [← eb5]; rfl) (by decide) rfl ?_
        refine mw_goto (tgt := 4) dX6_bitsOf_31 (by decide) ?_
        refine mw_loc [2, 1, 0] rfl ?_
        exact ih _ _ h
      · refine mw_if_ne (tgt := 25) dX6_bitsOf_18 (by decide) (fun hc3 => ?_) (fun hc3 => ?_)
        · replace h := mh_ifn hc3 h
          refine mw_iconst (v := 0) dX6_bitsOf_25 (by decide) ?_
          refine mw_loc [0, 2] rfl ?_
          exact hJ2 _ h
        · replace h := mh_ifp hc3 h
          refine mw_iconst (v := 1) dX6_bitsOf_21 (by decide) ?_
          refine mw_goto (tgt := 26) dX6_bitsOf_22 (by decide) ?_
          refine mw_loc [0, 2] rfl ?_
          exact hJ2 _ h
def X6_bitsOf (p0 : Int64) : Option (Int32) := X6_bitsOf_l4 p0 mh_fuel (0 : Int32) (0 : Int32)
set_option maxHeartbeats 4000000 in
set_option maxRecDepth 100000 in
theorem t_X6_bitsOf {L : mh_L} {I : mh_I} {p0 : Int64} {res : Int32} (h : X6_bitsOf p0 = some res) : mh_CT yX6_bitsOf cX6_bitsOf 4 (some .int) (mh_rm 0) SHM I L [.long p0] (mh_ret (some (.int res)) SHM I L) := by
  refine mh_ofW (ini := false) RX6 rfl (by decide) (fun h => by cases h) (Nat.le_of_ble_eq_true rfl) ?_
  show w_X6_bitsOf SHM (mh_ret (some (.int res)) SHM I L) I L 0 [(0, .long p0)] []
  unfold X6_bitsOf at h
  refine mw_iconst (v := 0) dX6_bitsOf_0 (by decide) ?_
  refine mw_istore_n dX6_bitsOf_1 (by decide) rfl ?_
  refine mw_iconst (v := 0) dX6_bitsOf_2 (by decide) ?_
  refine mw_istore_n dX6_bitsOf_3 (by decide) rfl ?_
  refine mw_loc [2, 1, 0] rfl ?_
  exact t_X6_bitsOf_l4  _ _ _ h 
abbrev w_X6_isLoose (sh : List mh_C) (Φ : mh_P) (I : mh_I) (L : mh_L) (pc : Nat) (lv : List (Nat × Value)) (st : List Value) : Prop := mh_W RX6 cX6_isLoose 2 (some .boolean) false (mh_rm 3) 18 0 0 mh_noX Φ 0 sh I L pc lv st
def X6_isLoose (p1 : Int32) (I : mh_I) : Option (Int32) := if (42 : Int32) ≤ p1 then some (0 : Int32) else (X6_uppers p1 I).bind (fun q1 => if (lg_cmp q1 (0 : Int64)) = 0 then (X6_keeps p1 I).bind (fun q2 => if q2 = 0 then some (1 : Int32) else some (0 : Int32)) else some (0 : Int32))
set_option maxHeartbeats 4000000 in
set_option maxRecDepth 100000 in
theorem t_X6_isLoose {L : mh_L} {I : mh_I} {p1 : Int32} {res : Int32} (h : X6_isLoose p1 I = some res) : mh_CT yX6_isLoose cX6_isLoose 2 (some .boolean) (mh_rm 3) SHM I L [.ref 0, .int p1] (mh_retz res SHM I L) := by
  refine mh_ofW (ini := false) RX6 rfl (by decide) (fun h => by cases h) (Nat.le_of_ble_eq_true rfl) ?_
  show w_X6_isLoose SHM (mh_retz res SHM I L) I L 0 [(0, .ref 0), (1, .int p1)] []
  unfold X6_isLoose at h
  refine mw_iload_n dX6_isLoose_0 1 rfl ?_
  refine mw_bipush (v := 42) dX6_isLoose_1 (by decide) ?_
  refine mw_icmp_ge (tgt := 28) dX6_isLoose_3 (by decide) (fun hc5 => ?_) (fun hc5 => ?_)
  · replace h := mh_ifp hc5 h
    refine mw_iconst (v := 0) dX6_isLoose_28 (by decide) ?_
    obtain rfl := Option.some.inj h
    exact mw_zret dX6_isLoose_29 rfl (Or.inl rfl) (Nat.le_of_ble_eq_true rfl) (Nat.le_refl 0) (mh_retz_rfl (Or.inl rfl))
  · replace h := mh_ifn hc5 h
    refine mw_aload_n dX6_isLoose_6 0 rfl ?_
    refine mw_iload_n dX6_isLoose_7 1 rfl ?_
    obtain ⟨q1, hq1, h⟩ := mh_bind h
    refine mw_vr (dc := 2) (ci := 6) (fs := fsX6) (T := TX6) (N := 30) cv_X6_177 wd_933 dX6_isLoose_8 [.int p1] [.int p1, .ref 0] rfl rfl rfl rfl (t_X6_uppers hq1) ⟨by decide, by decide⟩ (Nat.le_of_ble_eq_true rfl) ⟨rfl, rfl⟩ ?_
    refine mw_lconst (v := 0) dX6_isLoose_11 (by decide) ?_
    refine mw_lcmp dX6_isLoose_12 ?_
    refine mw_if_ne (tgt := 28) dX6_isLoose_13 (by decide) (fun hc4 => ?_) (fun hc4 => ?_)
    · replace h := mh_ifn hc4 h
      refine mw_iconst (v := 0) dX6_isLoose_28 (by decide) ?_
      obtain rfl := Option.some.inj h
      exact mw_zret dX6_isLoose_29 rfl (Or.inl rfl) (Nat.le_of_ble_eq_true rfl) (Nat.le_refl 0) (mh_retz_rfl (Or.inl rfl))
    · replace h := mh_ifp hc4 h
      refine mw_aload_n dX6_isLoose_16 0 rfl ?_
      refine mw_iload_n dX6_isLoose_17 1 rfl ?_
      obtain ⟨q2, hq2, h⟩ := mh_bind h
      refine mw_vz (dc := 0) (ci := 6) (fs := fsX6) (T := TX6) (N := 30) cv_X6_186 wd_949 dX6_isLoose_18 [.int p1] [.int p1, .ref 0] rfl rfl rfl rfl (t_X6_keeps hq2) ⟨by decide, by decide⟩ (Nat.le_of_ble_eq_true rfl) ⟨rfl, rfl⟩ (fun zq2 => ?_)
      refine mw_if_ne (tgt := 28) dX6_isLoose_21 (by decide) (fun hc3 => ?_) (fun hc3 => ?_)
      · replace h := mh_ifn hc3 h
        refine mw_iconst (v := 0) dX6_isLoose_28 (by decide) ?_
        obtain rfl := Option.some.inj h
        exact mw_zret dX6_isLoose_29 rfl (Or.inl rfl) (Nat.le_of_ble_eq_true rfl) (Nat.le_refl 0) (mh_retz_rfl (Or.inl rfl))
      · replace h := mh_ifp hc3 h
        refine mw_iconst (v := 1) dX6_isLoose_24 (by decide) ?_
        refine mw_goto (tgt := 29) dX6_isLoose_25 (by decide) ?_
        obtain rfl := Option.some.inj h
        exact mw_zret dX6_isLoose_29 rfl (Or.inr rfl) (Nat.le_of_ble_eq_true rfl) (Nat.le_refl 0) (mh_retz_rfl (Or.inr rfl))
abbrev w_X6_loose (sh : List mh_C) (Φ : mh_P) (I : mh_I) (L : mh_L) (pc : Nat) (lv : List (Nat × Value)) (st : List Value) : Prop := mh_W RX6 cX6_loose 4 (some .long) false (mh_rm 4) 18 0 0 mh_noX Φ 0 sh I L pc lv st
def X6_loose_l4 (I : mh_I) : Nat → Int64 → Int32 → Option (Int64)
  | 0, _, _ => none
  | n + 1, u1, u3 => if (48 : Int32) ≤ u3 then some u1 else (X6_isLoose u3 I).bind (fun q1 => mh_j (fun (s2 : Int64) => mh_b (u1 ||| s2) (fun b5 => mh_b (u3 + (1 : Int32)) (fun b6 => (X6_loose_l4 I n b5 b6)))) (fun J3 => if q1 = 0 then (J3 (0 : Int64)) else (J3 ((1 : Int64) <<< (u3.toInt64 &&& 63)))))
set_option maxHeartbeats 4000000 in
set_option maxRecDepth 100000 in
theorem t_X6_loose_l4 {I : mh_I} {L : mh_L} {res : Int64} (n : Nat) (u1 : Int64) (u3 : Int32) (h : X6_loose_l4 I n u1 u3 = some res)  : w_X6_loose SHM (mh_ret (some (.long res)) SHM I L) I L 4 [(0, .ref 0), (1, .long u1), (3, .int u3)] [] := by
  induction n generalizing u1 u3 with
  | zero => rw [X6_loose_l4] at h; cases h
  | succ n ih =>
    rw [X6_loose_l4] at h
    refine mw_iload_n dX6_loose_4 2 rfl ?_
    refine mw_bipush (v := 48) dX6_loose_5 (by decide) ?_
    refine mw_icmp_ge (tgt := 34) dX6_loose_7 (by decide) (fun hc7 => ?_) (fun hc7 => ?_)
    · replace h := mh_ifp hc7 h
      refine mw_lload_n dX6_loose_34 1 rfl ?_
      obtain rfl := Option.some.inj h
      exact mw_lret dX6_loose_35 rfl (Nat.le_of_ble_eq_true rfl) (Nat.le_refl 0) mh_ret_rfl
    · replace h := mh_ifn hc7 h
      refine mw_lload_n dX6_loose_10 1 rfl ?_
      refine mw_aload_n dX6_loose_11 0 rfl ?_
      refine mw_iload_n dX6_loose_12 2 rfl ?_
      obtain ⟨q1, hq1, h⟩ := mh_bind h
      refine mw_vz (dc := 3) (ci := 6) (fs := fsX6) (T := TX6) (N := 30) cv_X6_189 wd_945 dX6_loose_13 [.int u3] [.int u3, .ref 0, .long u1] rfl rfl rfl rfl (t_X6_isLoose hq1) ⟨by decide, by decide⟩ (Nat.le_of_ble_eq_true rfl) ⟨rfl, rfl⟩ (fun zq1 => ?_)
      refine mh_jw (fun J3 => ∀ (s2 : Int64), J3 s2 = some res → w_X6_loose SHM (mh_ret (some (.long res)) SHM I L) I L 26 [(0, .ref 0), (3, .int u3)] [.long s2, .long u1]) h (fun s2 h => ?_) (fun J3 hJ3 h => ?_)
      · refine mw_lor dX6_loose_26 ?_
        obtain ⟨b5, eb5, h⟩ := mh_b_some h
        refine mw_nml eb5 ?_
        refine mw_lstore_n dX6_loose_27 (by decide) rfl ?_
        obtain ⟨b6, eb6, h⟩ := mh_b_some h
        refine mw_iinc (v := b6) dX6_loose_28 2 rfl (by rw [← eb6]; rfl) (by decide) rfl ?_
        refine mw_goto (tgt := 4) dX6_loose_31 (by decide) ?_
        refine mw_loc [2, 1, 0] rfl ?_
        exact ih _ _ h
      · refine mw_if_eq (tgt := 25) dX6_loose_16 (by decide) (fun hc4 => ?_) (fun hc4 => ?_)
        · replace h := mh_ifp hc4 h
          refine mw_lconst (v := 0) dX6_loose_25 (by decide) ?_
          refine mw_loc [0, 2] rfl ?_
          exact hJ3 _ h
        · replace h := mh_ifn hc4 h
          refine mw_lconst (v := 1) dX6_loose_19 (by decide) ?_
          refine mw_iload_n dX6_loose_20 2 rfl ?_
          refine mw_lshl dX6_loose_21 ?_
          refine mw_goto (tgt := 26) dX6_loose_22 (by decide) ?_
          refine mw_loc [0, 2] rfl ?_
          exact hJ3 _ h
def X6_loose (I : mh_I) : Option (Int64) := X6_loose_l4 I mh_fuel (0 : Int64) (0 : Int32)
set_option maxHeartbeats 4000000 in
set_option maxRecDepth 100000 in
theorem t_X6_loose {L : mh_L} {I : mh_I} {res : Int64} (h : X6_loose I = some res) : mh_CT yX6_loose cX6_loose 4 (some .long) (mh_rm 4) SHM I L [.ref 0] (mh_ret (some (.long res)) SHM I L) := by
  refine mh_ofW (ini := false) RX6 rfl (by decide) (fun h => by cases h) (Nat.le_of_ble_eq_true rfl) ?_
  show w_X6_loose SHM (mh_ret (some (.long res)) SHM I L) I L 0 [(0, .ref 0)] []
  unfold X6_loose at h
  refine mw_lconst (v := 0) dX6_loose_0 (by decide) ?_
  refine mw_lstore_n dX6_loose_1 (by decide) rfl ?_
  refine mw_iconst (v := 0) dX6_loose_2 (by decide) ?_
  refine mw_istore_n dX6_loose_3 (by decide) rfl ?_
  refine mw_loc [2, 1, 0] rfl ?_
  exact t_X6_loose_l4  _ _ _ h 
abbrev w_X6_back (sh : List mh_C) (Φ : mh_P) (I : mh_I) (L : mh_L) (pc : Nat) (lv : List (Nat × Value)) (st : List Value) : Prop := mh_W RX6 cX6_back 2 (some .int) false (mh_rm 4) 18 0 0 mh_noX Φ 0 sh I L pc lv st
def X6_back (p1 : Int32) (I : mh_I) : Option (Int32) := (X6_isLoop p1).bind (fun q1 => if q1 = 0 then some (-5 : Int32) else (X6_hanging p1 I).bind (fun q2 => (X6_bitsOf q2).bind (fun q3 => some ((1 : Int32) + q3))))
set_option maxHeartbeats 4000000 in
set_option maxRecDepth 100000 in
theorem t_X6_back {L : mh_L} {I : mh_I} {p1 : Int32} {res : Int32} (h : X6_back p1 I = some res) : mh_CT yX6_back cX6_back 2 (some .int) (mh_rm 4) SHM I L [.ref 0, .int p1] (mh_ret (some (.int res)) SHM I L) := by
  refine mh_ofW (ini := false) RX6 rfl (by decide) (fun h => by cases h) (Nat.le_of_ble_eq_true rfl) ?_
  show w_X6_back SHM (mh_ret (some (.int res)) SHM I L) I L 0 [(0, .ref 0), (1, .int p1)] []
  unfold X6_back at h
  refine mw_iload_n dX6_back_0 1 rfl ?_
  obtain ⟨q1, hq1, h⟩ := mh_bind h
  refine mw_sz (dc := 1) cs_X6_155 wd_876 dX6_back_1 [.int p1] [.int p1] rfl rfl (t_X6_isLoop hq1) ⟨by decide, by decide⟩ (Nat.le_of_ble_eq_true rfl) ⟨rfl, rfl⟩ (fun zq1 => ?_)
  refine mw_if_eq (tgt := 20) dX6_back_4 (by decide) (fun hc4 => ?_) (fun hc4 => ?_)
  · replace h := mh_ifp hc4 h
    refine mw_bipush (v := -5) dX6_back_20 (by decide) ?_
    obtain rfl := Option.some.inj h
    exact mw_iret dX6_back_22 rfl rfl (Nat.le_of_ble_eq_true rfl) (Nat.le_refl 0) mh_ret_rfl
  · replace h := mh_ifn hc4 h
    refine mw_iconst (v := 1) dX6_back_7 (by decide) ?_
    refine mw_aload_n dX6_back_8 0 rfl ?_
    refine mw_iload_n dX6_back_9 1 rfl ?_
    obtain ⟨q2, hq2, h⟩ := mh_bind h
    refine mw_vr (dc := 3) (ci := 6) (fs := fsX6) (T := TX6) (N := 30) cv_X6_183 wd_929 dX6_back_10 [.int p1] [.int p1, .ref 0, .int (1 : Int32)] rfl rfl rfl rfl (t_X6_hanging hq2) ⟨by decide, by decide⟩ (Nat.le_of_ble_eq_true rfl) ⟨rfl, rfl⟩ ?_
    obtain ⟨q3, hq3, h⟩ := mh_bind h
    refine mw_sr (dc := 0) cs_X6_192 wd_956 dX6_back_13 [.long q2] [.long q2, .int (1 : Int32)] rfl rfl (t_X6_bitsOf hq3) ⟨by decide, by decide⟩ (Nat.le_of_ble_eq_true rfl) ⟨rfl, rfl⟩ ?_
    refine mw_iadd dX6_back_16 ?_
    refine mw_goto (tgt := 22) dX6_back_17 (by decide) ?_
    obtain rfl := Option.some.inj h
    exact mw_iret dX6_back_22 rfl rfl (Nat.le_of_ble_eq_true rfl) (Nat.le_refl 0) mh_ret_rfl
abbrev w_X6_allGone (sh : List mh_C) (Φ : mh_P) (I : mh_I) (L : mh_L) (pc : Nat) (lv : List (Nat × Value)) (st : List Value) : Prop := mh_W RX6 cX6_allGone 4 (some .int) false (mh_rm 2) 18 0 0 mh_noX Φ 0 sh I L pc lv st
def X6_allGone_l13 (u1 : Int32) (I : mh_I) : Nat → Int32 → Int32 → Option (Int32)
  | 0, _, _ => none
  | n + 1, u2, u3 => if (48 : Int32) ≤ u3 then some u2 else if (((6 : Int32) * (u1 / (6 : Int32))) + (12 : Int32)) ≤ u3 then some u2 else (X6_goesThrough u3 u1 I).bind (fun q2 => mh_j (fun (v3 : Int32) => mh_b (u3 + (1 : Int32)) (fun b16 => (X6_allGone_l13 u1 I n v3 b16))) (fun J4 => if q2 = 0 then (J4 u2) else mh_ix u3 48 (fun k5 => if (I 17 k5) = (-1 : Int32) then some (-1 : Int32) else mh_ix u3 48 (fun k7 => mh_j (fun (s9 : Int32) => (J4 s9)) (fun J10 => if (I 17 k7) ≤ u2 then (J10 u2) else mh_ix u3 48 (fun k11 => (J10 (I 17 k11))))))))
set_option maxHeartbeats 4000000 in
set_option maxRecDepth 100000 in
theorem t_X6_allGone_l13 {u1 : Int32} {I : mh_I} {L : mh_L} {res : Int32} (n : Nat) (u2 : Int32) (u3 : Int32) (h : X6_allGone_l13 u1 I n u2 u3 = some res)  : w_X6_allGone SHM (mh_ret (some (.int res)) SHM I L) I L 13 [(0, .ref 0), (1, .int u1), (2, .int u2), (3, .int u3)] [] := by
  induction n generalizing u2 u3 with
  | zero => rw [X6_allGone_l13] at h; cases h
  | succ n ih =>
    rw [X6_allGone_l13] at h
    refine mw_iload_n dX6_allGone_13 3 rfl ?_
    refine mw_bipush (v := 48) dX6_allGone_14 (by decide) ?_
    refine mw_icmp_ge (tgt := 81) dX6_allGone_16 (by decide) (fun hc18 => ?_) (fun hc18 => ?_)
    · replace h := mh_ifp hc18 h
      refine mw_iload_n dX6_allGone_81 2 rfl ?_
      obtain rfl := Option.some.inj h
      exact mw_iret dX6_allGone_82 rfl rfl (Nat.le_of_ble_eq_true rfl) (Nat.le_refl 0) mh_ret_rfl
    · replace h := mh_ifn hc18 h
      refine mw_iload_n dX6_allGone_19 3 rfl ?_
      refine mw_bipush (v := 6) dX6_allGone_20 (by decide) ?_
      refine mw_iload_n dX6_allGone_22 1 rfl ?_
      refine mw_bipush (v := 6) dX6_allGone_23 (by decide) ?_
      refine mw_idiv dX6_allGone_25 (by decide) ?_
      refine mw_imul dX6_allGone_26 ?_
      refine mw_bipush (v := 12) dX6_allGone_27 (by decide) ?_
      refine mw_iadd dX6_allGone_29 ?_
      refine mw_icmp_ge (tgt := 81) dX6_allGone_30 (by decide) (fun hc17 => ?_) (fun hc17 => ?_)
      · replace h := mh_ifp hc17 h
        refine mw_iload_n dX6_allGone_81 2 rfl ?_
        obtain rfl := Option.some.inj h
        exact mw_iret dX6_allGone_82 rfl rfl (Nat.le_of_ble_eq_true rfl) (Nat.le_refl 0) mh_ret_rfl
      · replace h := mh_ifn hc17 h
        refine mw_aload_n dX6_allGone_33 0 rfl ?_
        refine mw_iload_n dX6_allGone_34 3 rfl ?_
        refine mw_iload_n dX6_allGone_35 1 rfl ?_
        obtain ⟨q2, hq2, h⟩ := mh_bind h
        refine mw_vz (dc := 1) (ci := 6) (fs := fsX6) (T := TX6) (N := 30) cv_X6_174 wd_937 dX6_allGone_36 [.int u3, .int u1] [.int u1, .int u3, .ref 0] rfl rfl rfl rfl (t_X6_goesThrough hq2) ⟨by decide, by decide⟩ (Nat.le_of_ble_eq_true rfl) ⟨rfl, rfl⟩ (fun zq2 => ?_)
        refine mh_jw (fun J4 => ∀ (v3 : Int32), J4 v3 = some res → w_X6_allGone SHM (mh_ret (some (.int res)) SHM I L) I L 75 [(0, .ref 0), (1, .int u1), (2, .int v3), (3, .int u3)] []) h (fun v3 h => ?_) (fun J4 hJ4 h => ?_)
        · obtain ⟨b16, eb16, h⟩ := mh_b_some h
          refine mw_iinc (v := b16) dX6_allGone_75 3 rfl (by rw [← eb16]; rfl) (by decide) rfl ?_
          refine mw_goto (tgt := 13) dX6_allGone_78 (by decide) ?_
          refine mw_loc [1, 2, 3, 0] rfl ?_
          exact ih _ _ h
        · refine mw_if_eq (tgt := 75) dX6_allGone_39 (by decide) (fun hc15 => ?_) (fun hc15 => ?_)
          · replace h := mh_ifp hc15 h
            refine mw_loc [0, 1, 2, 3] rfl ?_
            exact hJ4 _ h
          · replace h := mh_ifn hc15 h
            refine mw_aload_n dX6_allGone_42 0 rfl ?_
            refine mw_getr (b := 17) (fs := fsX6) gf_X6_58 dX6_allGone_43 rfl rfl ?_
            refine mw_iload_n dX6_allGone_46 3 rfl ?_
            obtain ⟨k5, hk6, hk6n, hk6l, h⟩ := mh_ix_some h
            refine mw_xiald dX6_allGone_47 rfl hk6 hk6n ?_
            refine mw_iconst (v := -1) dX6_allGone_48 (by decide) ?_
            refine mw_icmp_ne (tgt := 54) dX6_allGone_49 (by decide) (fun hc14 => ?_) (fun hc14 => ?_)
            · replace h := mh_ifn hc14 h
              refine mw_aload_n dX6_allGone_54 0 rfl ?_
              refine mw_getr (b := 17) (fs := fsX6) gf_X6_58 dX6_allGone_55 rfl rfl ?_
              refine mw_iload_n dX6_allGone_58 3 rfl ?_
              obtain ⟨k7, hk8, hk8n, hk8l, h⟩ := mh_ix_some h
              refine mw_xiald dX6_allGone_59 rfl hk8 hk8n ?_
              refine mw_iload_n dX6_allGone_60 2 rfl ?_
              refine mh_jw (fun J10 => ∀ (s9 : Int32), J10 s9 = some res → w_X6_allGone SHM (mh_ret (some (.int res)) SHM I L) I L 74 [(0, .ref 0), (1, .int u1), (3, .int u3)] [.int s9]) h (fun s9 h => ?_) (fun J10 hJ10 h => ?_)
              · refine mw_istore_n dX6_allGone_74 (by decide) rfl ?_
                refine mw_loc [1, 2, 0, 3] rfl ?_
                exact hJ4 _ h
              · refine mw_icmp_le (tgt := 73) dX6_allGone_61 (by decide) (fun hc13 => ?_) (fun hc13 => ?_)
                · replace h := mh_ifp hc13 h
                  refine mw_iload_n dX6_allGone_73 2 rfl ?_
                  refine mw_loc [0, 1, 3] rfl ?_
                  exact hJ10 _ h
                · replace h := mh_ifn hc13 h
                  refine mw_aload_n dX6_allGone_64 0 rfl ?_
                  refine mw_getr (b := 17) (fs := fsX6) gf_X6_58 dX6_allGone_65 rfl rfl ?_
                  refine mw_iload_n dX6_allGone_68 3 rfl ?_
                  obtain ⟨k11, hk12, hk12n, hk12l, h⟩ := mh_ix_some h
                  refine mw_xiald dX6_allGone_69 rfl hk12 hk12n ?_
                  refine mw_goto (tgt := 74) dX6_allGone_70 (by decide) ?_
                  refine mw_loc [0, 1, 3] rfl ?_
                  exact hJ10 _ h
            · replace h := mh_ifp hc14 h
              refine mw_iconst (v := -1) dX6_allGone_52 (by decide) ?_
              obtain rfl := Option.some.inj h
              exact mw_iret dX6_allGone_53 rfl rfl (Nat.le_of_ble_eq_true rfl) (Nat.le_refl 0) mh_ret_rfl
def X6_allGone (p1 : Int32) (I : mh_I) : Option (Int32) := mh_b (((6 : Int32) * (p1 / (6 : Int32))) + (6 : Int32)) (fun b1 => X6_allGone_l13 p1 I mh_fuel (-1 : Int32) b1)
set_option maxHeartbeats 4000000 in
set_option maxRecDepth 100000 in
theorem t_X6_allGone {L : mh_L} {I : mh_I} {p1 : Int32} {res : Int32} (h : X6_allGone p1 I = some res) : mh_CT yX6_allGone cX6_allGone 4 (some .int) (mh_rm 2) SHM I L [.ref 0, .int p1] (mh_ret (some (.int res)) SHM I L) := by
  refine mh_ofW (ini := false) RX6 rfl (by decide) (fun h => by cases h) (Nat.le_of_ble_eq_true rfl) ?_
  show w_X6_allGone SHM (mh_ret (some (.int res)) SHM I L) I L 0 [(0, .ref 0), (1, .int p1)] []
  unfold X6_allGone at h
  refine mw_iconst (v := -1) dX6_allGone_0 (by decide) ?_
  refine mw_istore_n dX6_allGone_1 (by decide) rfl ?_
  refine mw_bipush (v := 6) dX6_allGone_2 (by decide) ?_
  refine mw_iload_n dX6_allGone_4 2 rfl ?_
  refine mw_bipush (v := 6) dX6_allGone_5 (by decide) ?_
  refine mw_idiv dX6_allGone_7 (by decide) ?_
  refine mw_imul dX6_allGone_8 ?_
  refine mw_bipush (v := 6) dX6_allGone_9 (by decide) ?_
  refine mw_iadd dX6_allGone_11 ?_
  obtain ⟨b1, eb1, h⟩ := mh_b_some h
  refine mw_nmi eb1 ?_
  refine mw_istore_n dX6_allGone_12 (by decide) rfl ?_
  refine mw_loc [2, 3, 1, 0] rfl ?_
  exact t_X6_allGone_l13  _ _ _ h 
abbrev w_X6_leftOf (sh : List mh_C) (Φ : mh_P) (I : mh_I) (L : mh_L) (pc : Nat) (lv : List (Nat × Value)) (st : List Value) : Prop := mh_W RX6 cX6_leftOf 6 (some .int) false (mh_rm 4) 18 0 0 mh_noX Φ 0 sh I L pc lv st
def X6_leftOf (p1 : Int32) (p2 : Int32) (p3 : Int32) (I : mh_I) : Option (Int32 × mh_I) := (X6_keeps p1 I).bind (fun q1 => if q1 = 0 then if p2 = 0 then (X6_allGone p1 I).bind (fun q2 => mh_j (fun (s3 : Int32) (I4 : mh_I) => if q2 ≤ s3 then some ((-1 : Int32), I4) else some ((q2 - s3), I4)) (fun J5 => if q2 = (-1 : Int32) then (J5 (0 : Int32) I) else (X6_rubs p1 q2 I).bind (fun q6 => (J5 q6.1 q6.2)))) else some (p3, I) else some ((-1 : Int32), I))
set_option maxHeartbeats 4000000 in
set_option maxRecDepth 100000 in
theorem t_X6_leftOf {L : mh_L} {I : mh_I} {p1 : Int32} {p2 : Int32} {p3 : Int32} {res : Int32 × mh_I} (h : X6_leftOf p1 p2 p3 I = some res) : mh_CT yX6_leftOf cX6_leftOf 6 (some .int) (mh_rm 4) SHM I L [.ref 0, .int p1, .int p2, .int p3] (mh_ret (some (.int res.1)) SHM res.2 L) := by
  refine mh_ofW (ini := false) RX6 rfl (by decide) (fun h => by cases h) (Nat.le_of_ble_eq_true rfl) ?_
  show w_X6_leftOf SHM (mh_ret (some (.int res.1)) SHM res.2 L) I L 0 [(0, .ref 0), (1, .int p1), (2, .int p2), (3, .int p3)] []
  unfold X6_leftOf at h
  refine mw_aload_n dX6_leftOf_0 0 rfl ?_
  refine mw_iload_n dX6_leftOf_1 1 rfl ?_
  obtain ⟨q1, hq1, h⟩ := mh_bind h
  refine mw_vz (dc := 0) (ci := 6) (fs := fsX6) (T := TX6) (N := 30) cv_X6_186 wd_949 dX6_leftOf_2 [.int p1] [.int p1, .ref 0] rfl rfl rfl rfl (t_X6_keeps hq1) ⟨by decide, by decide⟩ (Nat.le_of_ble_eq_true rfl) ⟨rfl, rfl⟩ (fun zq1 => ?_)
  refine mw_if_eq (tgt := 10) dX6_leftOf_5 (by decide) (fun hc10 => ?_) (fun hc10 => ?_)
  · replace h := mh_ifp hc10 h
    refine mw_iload_n dX6_leftOf_10 2 rfl ?_
    refine mw_if_eq (tgt := 16) dX6_leftOf_11 (by decide) (fun hc9 => ?_) (fun hc9 => ?_)
    · replace h := mh_ifp hc9 h
      refine mw_aload_n dX6_leftOf_16 0 rfl ?_
      refine mw_iload_n dX6_leftOf_17 1 rfl ?_
      obtain ⟨q2, hq2, h⟩ := mh_bind h
      refine mw_vr (dc := 2) (ci := 6) (fs := fsX6) (T := TX6) (N := 30) cv_X6_196 wd_976 dX6_leftOf_18 [.int p1] [.int p1, .ref 0] rfl rfl rfl rfl (t_X6_allGone hq2) ⟨by decide, by decide⟩ (Nat.le_of_ble_eq_true rfl) ⟨rfl, rfl⟩ ?_
      refine mw_istore dX6_leftOf_21 (by decide) rfl ?_
      refine mw_iload dX6_leftOf_23 0 rfl ?_
      refine mw_iconst (v := -1) dX6_leftOf_25 (by decide) ?_
      refine mh_jw (fun J5 => ∀ (s3 : Int32) (I4 : mh_I), J5 s3 I4 = some res → w_X6_leftOf SHM (mh_ret (some (.int res.1)) SHM res.2 L) I4 L 40 [(4, .int q2)] [.int s3]) h (fun s3 I4 h => ?_) (fun J5 hJ5 h => ?_)
      · refine mw_istore dX6_leftOf_40 (by decide) rfl ?_
        refine mw_iload dX6_leftOf_42 1 rfl ?_
        refine mw_iload dX6_leftOf_44 0 rfl ?_
        refine mw_icmp_le (tgt := 57) dX6_leftOf_46 (by decide) (fun hc8 => ?_) (fun hc8 => ?_)
        · replace h := mh_ifp hc8 h
          refine mw_iconst (v := -1) dX6_leftOf_57 (by decide) ?_
          obtain rfl := Option.some.inj h
          exact mw_iret dX6_leftOf_58 rfl rfl (Nat.le_of_ble_eq_true rfl) (Nat.le_refl 0) mh_ret_rfl
        · replace h := mh_ifn hc8 h
          refine mw_iload dX6_leftOf_49 1 rfl ?_
          refine mw_iload dX6_leftOf_51 0 rfl ?_
          refine mw_isub dX6_leftOf_53 ?_
          refine mw_goto (tgt := 58) dX6_leftOf_54 (by decide) ?_
          obtain rfl := Option.some.inj h
          exact mw_iret dX6_leftOf_58 rfl rfl (Nat.le_of_ble_eq_true rfl) (Nat.le_refl 0) mh_ret_rfl
      · refine mw_icmp_ne (tgt := 33) dX6_leftOf_26 (by decide) (fun hc7 => ?_) (fun hc7 => ?_)
        · replace h := mh_ifn hc7 h
          refine mw_aload_n dX6_leftOf_33 1 rfl ?_
          refine mw_iload_n dX6_leftOf_34 2 rfl ?_
          refine mw_iload dX6_leftOf_35 0 rfl ?_
          obtain ⟨q6, hq6, h⟩ := mh_bind h
          refine mw_vr (dc := 3) (ci := 6) (fs := fsX6) (T := TX6) (N := 30) cv_X6_199 wd_980 dX6_leftOf_37 [.int p1, .int q2] [.int q2, .int p1, .ref 0] rfl rfl rfl rfl (t_X6_rubs hq6) ⟨by decide, by decide⟩ (Nat.le_of_ble_eq_true rfl) ⟨rfl, rfl⟩ ?_
          refine mw_loc [0] rfl ?_
          exact hJ5 _ _ h
        · replace h := mh_ifp hc7 h
          refine mw_iconst (v := 0) dX6_leftOf_29 (by decide) ?_
          refine mw_goto (tgt := 40) dX6_leftOf_30 (by decide) ?_
          refine mw_loc [0] rfl ?_
          exact hJ5 _ _ h
    · replace h := mh_ifn hc9 h
      refine mw_iload_n dX6_leftOf_14 3 rfl ?_
      obtain rfl := Option.some.inj h
      exact mw_iret dX6_leftOf_15 rfl rfl (Nat.le_of_ble_eq_true rfl) (Nat.le_refl 0) mh_ret_rfl
  · replace h := mh_ifn hc10 h
    refine mw_iconst (v := -1) dX6_leftOf_8 (by decide) ?_
    obtain rfl := Option.some.inj h
    exact mw_iret dX6_leftOf_9 rfl rfl (Nat.le_of_ble_eq_true rfl) (Nat.le_refl 0) mh_ret_rfl
abbrev w_X6_runs (sh : List mh_C) (Φ : mh_P) (I : mh_I) (L : mh_L) (pc : Nat) (lv : List (Nat × Value)) (st : List Value) : Prop := mh_W RX6 cX6_runs 6 none false (mh_rm 5) 18 0 0 mh_noX Φ 0 sh I L pc lv st
def X6_runs_l21 (u1 : Int64) (u3 : Int32) (u4 : Int32) (k95 : (mh_I → Option (mh_I))) : Nat → Int32 → mh_I → Option (mh_I)
  | 0, _, _ => none
  | n + 1, u5, I => if (((6 : Int32) * u4) + (6 : Int32)) ≤ u5 then (k95 I) else mh_j (fun (s2 : Int32) => (X6_leftOf u5 s2 u3 I).bind (fun q5 => mh_ix u5 48 (fun k6 => mh_ix u5 48 (fun k8 => mh_j (fun (s10 : Int32) => mh_b (u5 + (1 : Int32)) (fun b13 => (X6_runs_l21 u1 u3 u4 k95 n b13 (mh_u (mh_u q5.2 17 k6 q5.1) 0 29 (((mh_u q5.2 17 k6 q5.1) 0 29) + s10))))) (fun J11 => if ((mh_u q5.2 17 k6 q5.1) 17 k8) = (-1 : Int32) then (J11 (0 : Int32)) else (J11 (1 : Int32))))))) (fun J3 => if (lg_cmp ((u1 >>> (u5.toInt64 &&& 63)) &&& (1 : Int64)) (1 : Int64)) = 0 then (J3 (1 : Int32)) else (J3 (0 : Int32)))
set_option maxHeartbeats 4000000 in
set_option maxRecDepth 100000 in
theorem t_X6_runs_l21 {u1 : Int64} {u3 : Int32} {u4 : Int32} {k95 : (mh_I → Option (mh_I))} {L : mh_L} {res : mh_I} (n : Nat) (u5 : Int32) (I : mh_I) (h : X6_runs_l21 u1 u3 u4 k95 n u5 I = some res) (hk95 : ∀ (I : mh_I), k95 I = some res → w_X6_runs SHM (mh_ret none SHM res L) I L 95 [(0, .ref 0), (1, .long u1), (3, .int u3), (4, .int u4)] []) : w_X6_runs SHM (mh_ret none SHM res L) I L 21 [(0, .ref 0), (1, .long u1), (3, .int u3), (4, .int u4), (5, .int u5)] [] := by
  induction n generalizing u5 I with
  | zero => rw [X6_runs_l21] at h; cases h
  | succ n ih =>
    rw [X6_runs_l21] at h
    refine mw_iload dX6_runs_21 4 rfl ?_
    refine mw_bipush (v := 6) dX6_runs_23 (by decide) ?_
    refine mw_iload dX6_runs_25 3 rfl ?_
    refine mw_imul dX6_runs_27 ?_
    refine mw_bipush (v := 6) dX6_runs_28 (by decide) ?_
    refine mw_iadd dX6_runs_30 ?_
    refine mw_icmp_ge (tgt := 95) dX6_runs_31 (by decide) (fun hc14 => ?_) (fun hc14 => ?_)
    · replace h := mh_ifp hc14 h
      refine mw_loc [0, 1, 2, 3] rfl ?_
      exact hk95 _ h
    · replace h := mh_ifn hc14 h
      refine mw_aload_n dX6_runs_34 0 rfl ?_
      refine mw_getr (b := 17) (fs := fsX6) gf_X6_58 dX6_runs_35 rfl rfl ?_
      refine mw_iload dX6_runs_38 4 rfl ?_
      refine mw_aload_n dX6_runs_40 0 rfl ?_
      refine mw_iload dX6_runs_41 4 rfl ?_
      refine mw_lload_n dX6_runs_43 1 rfl ?_
      refine mw_iload dX6_runs_44 4 rfl ?_
      refine mw_lshr dX6_runs_46 ?_
      refine mw_lconst (v := 1) dX6_runs_47 (by decide) ?_
      refine mw_land dX6_runs_48 ?_
      refine mw_lconst (v := 1) dX6_runs_49 (by decide) ?_
      refine mw_lcmp dX6_runs_50 ?_
      refine mh_jw (fun J3 => ∀ (s2 : Int32), J3 s2 = some res → w_X6_runs SHM (mh_ret none SHM res L) I L 59 [(0, .ref 0), (1, .long u1), (3, .int u3), (4, .int u4), (5, .int u5)] [.int s2, .int u5, .ref 0, .int u5, .ref 17]) h (fun s2 h => ?_) (fun J3 hJ3 h => ?_)
      · refine mw_iload_n dX6_runs_59 2 rfl ?_
        obtain ⟨q5, hq5, h⟩ := mh_bind h
        refine mw_vr (dc := 4) (ci := 6) (fs := fsX6) (T := TX6) (N := 30) cv_X6_205 wd_972 dX6_runs_60 [.int u5, .int s2, .int u3] [.int u3, .int s2, .int u5, .ref 0, .int u5, .ref 17] rfl rfl rfl rfl (t_X6_leftOf hq5) ⟨by decide, by decide⟩ (Nat.le_of_ble_eq_true rfl) ⟨rfl, rfl⟩ ?_
        obtain ⟨k6, hk7, hk7n, hk7l, h⟩ := mh_ix_some h
        refine mw_xiast dX6_runs_63 rfl hk7 hk7n ?_
        refine mw_aload_n dX6_runs_64 0 rfl ?_
        refine mw_dup dX6_runs_65 rfl ?_
        refine mw_geti (fs := fsX6) gf_X6_202 dX6_runs_66 rfl rfl ?_
        refine mw_aload_n dX6_runs_69 0 rfl ?_
        refine mw_getr (b := 17) (fs := fsX6) gf_X6_58 dX6_runs_70 rfl rfl ?_
        refine mw_iload dX6_runs_73 4 rfl ?_
        obtain ⟨k8, hk9, hk9n, hk9l, h⟩ := mh_ix_some h
        refine mw_xiald dX6_runs_75 rfl hk9 hk9n ?_
        refine mw_iconst (v := -1) dX6_runs_76 (by decide) ?_
        refine mh_jw (fun J11 => ∀ (s10 : Int32), J11 s10 = some res → w_X6_runs SHM (mh_ret none SHM res L) (mh_u q5.2 17 k6 q5.1) L 85 [(0, .ref 0), (1, .long u1), (3, .int u3), (4, .int u4), (5, .int u5)] [.int s10, .int ((mh_u q5.2 17 k6 q5.1) 0 29), .ref 0]) h (fun s10 h => ?_) (fun J11 hJ11 h => ?_)
        · refine mw_iadd dX6_runs_85 ?_
          refine mw_puti (fs := fsX6) pf_X6_202 (fun h => by cases h) rfl rfl dX6_runs_86 rfl rfl ?_
          obtain ⟨b13, eb13, h⟩ := mh_b_some h
          refine mw_iinc (v := b13) dX6_runs_89 4 rfl (by rw [← eb13]; rfl) (by decide) rfl ?_
          refine mw_goto (tgt := 21) dX6_runs_92 (by decide) ?_
          refine mw_loc [1, 2, 3, 4, 0] rfl ?_
          exact ih _ _ h
        · refine mw_icmp_ne (tgt := 84) dX6_runs_77 (by decide) (fun hc12 => ?_) (fun hc12 => ?_)
          · replace h := mh_ifn hc12 h
            refine mw_iconst (v := 1) dX6_runs_84 (by decide) ?_
            refine mw_loc [0, 1, 2, 3, 4] rfl ?_
            exact hJ11 _ h
          · replace h := mh_ifp hc12 h
            refine mw_iconst (v := 0) dX6_runs_80 (by decide) ?_
            refine mw_goto (tgt := 85) dX6_runs_81 (by decide) ?_
            refine mw_loc [0, 1, 2, 3, 4] rfl ?_
            exact hJ11 _ h
      · refine mw_if_ne (tgt := 58) dX6_runs_51 (by decide) (fun hc4 => ?_) (fun hc4 => ?_)
        · replace h := mh_ifn hc4 h
          refine mw_iconst (v := 0) dX6_runs_58 (by decide) ?_
          refine mw_loc [0, 1, 2, 3, 4] rfl ?_
          exact hJ3 _ h
        · replace h := mh_ifp hc4 h
          refine mw_iconst (v := 1) dX6_runs_54 (by decide) ?_
          refine mw_goto (tgt := 59) dX6_runs_55 (by decide) ?_
          refine mw_loc [0, 1, 2, 3, 4] rfl ?_
          exact hJ3 _ h
def X6_runs_l9 (u1 : Int64) (u3 : Int32) : Nat → Int32 → mh_I → Option (mh_I)
  | 0, _, _ => none
  | n + 1, u4, I => if u4 < 0 then some I else mh_b ((6 : Int32) * u4) (fun b1 => X6_runs_l21 u1 u3 u4 (fun (I15 : mh_I) => mh_b (u4 + (-1 : Int32)) (fun b16 => (X6_runs_l9 u1 u3 n b16 I15))) mh_fuel b1 I)
set_option maxHeartbeats 4000000 in
set_option maxRecDepth 100000 in
theorem t_X6_runs_l9 {u1 : Int64} {u3 : Int32} {L : mh_L} {res : mh_I} (n : Nat) (u4 : Int32) (I : mh_I) (h : X6_runs_l9 u1 u3 n u4 I = some res)  : w_X6_runs SHM (mh_ret none SHM res L) I L 9 [(0, .ref 0), (1, .long u1), (3, .int u3), (4, .int u4)] [] := by
  induction n generalizing u4 I with
  | zero => rw [X6_runs_l9] at h; cases h
  | succ n ih =>
    rw [X6_runs_l9] at h
    refine mw_iload dX6_runs_9 3 rfl ?_
    refine mw_if_lt (tgt := 101) dX6_runs_11 (by decide) (fun hc17 => ?_) (fun hc17 => ?_)
    · replace h := mh_ifp hc17 h
      obtain rfl := Option.some.inj h
      exact mw_vret dX6_runs_101 rfl (Nat.le_of_ble_eq_true rfl) (Nat.le_refl 0) mh_ret_rfl
    · replace h := mh_ifn hc17 h
      refine mw_bipush (v := 6) dX6_runs_14 (by decide) ?_
      refine mw_iload dX6_runs_16 3 rfl ?_
      refine mw_imul dX6_runs_18 ?_
      obtain ⟨b1, eb1, h⟩ := mh_b_some h
      refine mw_nmi eb1 ?_
      refine mw_istore dX6_runs_19 (by decide) rfl ?_
      refine mw_loc [1, 2, 3, 4, 0] rfl ?_
      refine t_X6_runs_l21  _ _ _ h (fun I15 h => ?_)
      obtain ⟨b16, eb16, h⟩ := mh_b_some h
      refine mw_iinc (v := b16) dX6_runs_95 3 rfl (by rw [← eb16]; rfl) (by decide) rfl ?_
      refine mw_goto (tgt := 9) dX6_runs_98 (by decide) ?_
      refine mw_loc [1, 2, 3, 0] rfl ?_
      exact ih _ _ h
def X6_runs (p1 : Int64) (p3 : Int32) (I : mh_I) : Option (mh_I) := X6_runs_l9 p1 p3 mh_fuel (7 : Int32) (mh_u I 0 29 (0 : Int32))
set_option maxHeartbeats 4000000 in
set_option maxRecDepth 100000 in
theorem t_X6_runs {L : mh_L} {I : mh_I} {p1 : Int64} {p3 : Int32} {res : mh_I} (h : X6_runs p1 p3 I = some res) : mh_CT yX6_runs cX6_runs 6 none (mh_rm 5) SHM I L [.ref 0, .long p1, .int p3] (mh_ret none SHM res L) := by
  refine mh_ofW (ini := false) RX6 rfl (by decide) (fun h => by cases h) (Nat.le_of_ble_eq_true rfl) ?_
  show w_X6_runs SHM (mh_ret none SHM res L) I L 0 [(0, .ref 0), (1, .long p1), (3, .int p3)] []
  unfold X6_runs at h
  refine mw_aload_n dX6_runs_0 0 rfl ?_
  refine mw_iconst (v := 0) dX6_runs_1 (by decide) ?_
  refine mw_puti (fs := fsX6) pf_X6_202 (fun h => by cases h) rfl rfl dX6_runs_2 rfl rfl ?_
  refine mw_bipush (v := 7) dX6_runs_5 (by decide) ?_
  refine mw_istore dX6_runs_7 (by decide) rfl ?_
  refine mw_loc [1, 2, 3, 0] rfl ?_
  exact t_X6_runs_l9  _ _ _ h 
abbrev w_X6_runsFrom (sh : List mh_C) (Φ : mh_P) (I : mh_I) (L : mh_L) (pc : Nat) (lv : List (Nat × Value)) (st : List Value) : Prop := mh_W RX6 cX6_runsFrom 3 none false (mh_rm 6) 18 0 0 mh_noX Φ 0 sh I L pc lv st
def X6_runsFrom (p1 : Int32) (p2 : Int32) (I : mh_I) : Option (mh_I) := (X6_runs ((1 : Int64) <<< (p1.toInt64 &&& 63)) p2 I).bind (fun q1 => some q1)
set_option maxHeartbeats 4000000 in
set_option maxRecDepth 100000 in
theorem t_X6_runsFrom {L : mh_L} {I : mh_I} {p1 : Int32} {p2 : Int32} {res : mh_I} (h : X6_runsFrom p1 p2 I = some res) : mh_CT yX6_runsFrom cX6_runsFrom 3 none (mh_rm 6) SHM I L [.ref 0, .int p1, .int p2] (mh_ret none SHM res L) := by
  refine mh_ofW (ini := false) RX6 rfl (by decide) (fun h => by cases h) (Nat.le_of_ble_eq_true rfl) ?_
  show w_X6_runsFrom SHM (mh_ret none SHM res L) I L 0 [(0, .ref 0), (1, .int p1), (2, .int p2)] []
  unfold X6_runsFrom at h
  refine mw_aload_n dX6_runsFrom_0 0 rfl ?_
  refine mw_lconst (v := 1) dX6_runsFrom_1 (by decide) ?_
  refine mw_iload_n dX6_runsFrom_2 1 rfl ?_
  refine mw_lshl dX6_runsFrom_3 ?_
  refine mw_iload_n dX6_runsFrom_4 2 rfl ?_
  obtain ⟨q1, hq1, h⟩ := mh_bind h
  refine mw_vv (dc := 5) (ci := 6) (fs := fsX6) (T := TX6) (N := 30) cv_X6_209 wd_968 dX6_runsFrom_5 [.long ((1 : Int64) <<< (p1.toInt64 &&& 63)), .int p2] [.int p2, .long ((1 : Int64) <<< (p1.toInt64 &&& 63)), .ref 0] rfl rfl rfl rfl (t_X6_runs hq1) ⟨by decide, by decide⟩ (Nat.le_of_ble_eq_true rfl) ⟨rfl, rfl⟩ ?_
  obtain rfl := Option.some.inj h
  exact mw_vret dX6_runsFrom_8 rfl (Nat.le_of_ble_eq_true rfl) (Nat.le_refl 0) mh_ret_rfl
abbrev w_X6_lowest (sh : List mh_C) (Φ : mh_P) (I : mh_I) (L : mh_L) (pc : Nat) (lv : List (Nat × Value)) (st : List Value) : Prop := mh_W RX6 cX6_lowest 2 (some .int) false (mh_rm 0) 18 0 0 mh_noX Φ 0 sh I L pc lv st
def X6_lowest_l2 (I : mh_I) : Nat → Int32 → Option (Int32)
  | 0, _ => none
  | n + 1, u1 => if (48 : Int32) ≤ u1 then some (-1 : Int32) else mh_ix u1 48 (fun k1 => if (I 17 k1) = (-1 : Int32) then mh_b (u1 + (1 : Int32)) (fun b3 => (X6_lowest_l2 I n b3)) else some (u1 / (6 : Int32)))
set_option maxHeartbeats 4000000 in
set_option maxRecDepth 100000 in
theorem t_X6_lowest_l2 {I : mh_I} {L : mh_L} {res : Int32} (n : Nat) (u1 : Int32) (h : X6_lowest_l2 I n u1 = some res)  : w_X6_lowest SHM (mh_ret (some (.int res)) SHM I L) I L 2 [(0, .ref 0), (1, .int u1)] [] := by
  induction n generalizing u1 with
  | zero => rw [X6_lowest_l2] at h; cases h
  | succ n ih =>
    rw [X6_lowest_l2] at h
    refine mw_iload_n dX6_lowest_2 1 rfl ?_
    refine mw_bipush (v := 48) dX6_lowest_3 (by decide) ?_
    refine mw_icmp_ge (tgt := 29) dX6_lowest_5 (by decide) (fun hc5 => ?_) (fun hc5 => ?_)
    · replace h := mh_ifp hc5 h
      refine mw_iconst (v := -1) dX6_lowest_29 (by decide) ?_
      obtain rfl := Option.some.inj h
      exact mw_iret dX6_lowest_30 rfl rfl (Nat.le_of_ble_eq_true rfl) (Nat.le_refl 0) mh_ret_rfl
    · replace h := mh_ifn hc5 h
      refine mw_aload_n dX6_lowest_8 0 rfl ?_
      refine mw_getr (b := 17) (fs := fsX6) gf_X6_58 dX6_lowest_9 rfl rfl ?_
      refine mw_iload_n dX6_lowest_12 1 rfl ?_
      obtain ⟨k1, hk2, hk2n, hk2l, h⟩ := mh_ix_some h
      refine mw_xiald dX6_lowest_13 rfl hk2 hk2n ?_
      refine mw_iconst (v := -1) dX6_lowest_14 (by decide) ?_
      refine mw_icmp_eq (tgt := 23) dX6_lowest_15 (by decide) (fun hc4 => ?_) (fun hc4 => ?_)
      · replace h := mh_ifp hc4 h
        obtain ⟨b3, eb3, h⟩ := mh_b_some h
        refine mw_iinc (v := b3) dX6_lowest_23 1 rfl (by rw [← eb3]; rfl) (by decide) rfl ?_
        refine mw_goto (tgt := 2) dX6_lowest_26 (by decide) ?_
        refine mw_loc [1, 0] rfl ?_
        exact ih _ h
      · replace h := mh_ifn hc4 h
        refine mw_iload_n dX6_lowest_18 1 rfl ?_
        refine mw_bipush (v := 6) dX6_lowest_19 (by decide) ?_
        refine mw_idiv dX6_lowest_21 (by decide) ?_
        obtain rfl := Option.some.inj h
        exact mw_iret dX6_lowest_22 rfl rfl (Nat.le_of_ble_eq_true rfl) (Nat.le_refl 0) mh_ret_rfl
def X6_lowest (I : mh_I) : Option (Int32) := X6_lowest_l2 I mh_fuel (0 : Int32)
set_option maxHeartbeats 4000000 in
set_option maxRecDepth 100000 in
theorem t_X6_lowest {L : mh_L} {I : mh_I} {res : Int32} (h : X6_lowest I = some res) : mh_CT yX6_lowest cX6_lowest 2 (some .int) (mh_rm 0) SHM I L [.ref 0] (mh_ret (some (.int res)) SHM I L) := by
  refine mh_ofW (ini := false) RX6 rfl (by decide) (fun h => by cases h) (Nat.le_of_ble_eq_true rfl) ?_
  show w_X6_lowest SHM (mh_ret (some (.int res)) SHM I L) I L 0 [(0, .ref 0)] []
  unfold X6_lowest at h
  refine mw_iconst (v := 0) dX6_lowest_0 (by decide) ?_
  refine mw_istore_n dX6_lowest_1 (by decide) rfl ?_
  refine mw_loc [1, 0] rfl ?_
  exact t_X6_lowest_l2  _ _ h 
abbrev w_X6_sumOf (sh : List mh_C) (Φ : mh_P) (I : mh_I) (L : mh_L) (pc : Nat) (lv : List (Nat × Value)) (st : List Value) : Prop := mh_W RX6 cX6_sumOf 4 (some .int) false (mh_rm 3) 18 0 0 mh_noX Φ 0 sh I L pc lv st
def X6_sumOf_l4 (u1 : Int32) : Nat → Int32 → Int32 → mh_I → Option (Int32 × mh_I)
  | 0, _, _, _ => none
  | n + 1, u2, u3, I => if (48 : Int32) ≤ u3 then some (u2, I) else mh_ix u3 48 (fun k1 => mh_j (fun (s3 : Int32) (I4 : mh_I) => mh_b (u2 + s3) (fun b10 => mh_b (u3 + (1 : Int32)) (fun b11 => (X6_sumOf_l4 u1 n b10 b11 I4)))) (fun J5 => if (I 17 k1) = (-1 : Int32) then (J5 (0 : Int32) I) else mh_ix u3 48 (fun k6 => (X6_asksOf u1 u3 (I 17 k6) I).bind (fun q8 => (J5 q8.1 q8.2)))))
set_option maxHeartbeats 4000000 in
set_option maxRecDepth 100000 in
theorem t_X6_sumOf_l4 {u1 : Int32} {L : mh_L} {res : Int32 × mh_I} (n : Nat) (u2 : Int32) (u3 : Int32) (I : mh_I) (h : X6_sumOf_l4 u1 n u2 u3 I = some res)  : w_X6_sumOf SHM (mh_ret (some (.int res.1)) SHM res.2 L) I L 4 [(0, .ref 0), (1, .int u1), (2, .int u2), (3, .int u3)] [] := by
  induction n generalizing u2 u3 I with
  | zero => rw [X6_sumOf_l4] at h; cases h
  | succ n ih =>
    rw [X6_sumOf_l4] at h
    refine mw_iload_n dX6_sumOf_4 3 rfl ?_
    refine mw_bipush (v := 48) dX6_sumOf_5 (by decide) ?_
    refine mw_icmp_ge (tgt := 45) dX6_sumOf_7 (by decide) (fun hc12 => ?_) (fun hc12 => ?_)
    · replace h := mh_ifp hc12 h
      refine mw_iload_n dX6_sumOf_45 2 rfl ?_
      obtain rfl := Option.some.inj h
      exact mw_iret dX6_sumOf_46 rfl rfl (Nat.le_of_ble_eq_true rfl) (Nat.le_refl 0) mh_ret_rfl
    · replace h := mh_ifn hc12 h
      refine mw_iload_n dX6_sumOf_10 2 rfl ?_
      refine mw_aload_n dX6_sumOf_11 0 rfl ?_
      refine mw_getr (b := 17) (fs := fsX6) gf_X6_58 dX6_sumOf_12 rfl rfl ?_
      refine mw_iload_n dX6_sumOf_15 3 rfl ?_
      obtain ⟨k1, hk2, hk2n, hk2l, h⟩ := mh_ix_some h
      refine mw_xiald dX6_sumOf_16 rfl hk2 hk2n ?_
      refine mw_iconst (v := -1) dX6_sumOf_17 (by decide) ?_
      refine mh_jw (fun J5 => ∀ (s3 : Int32) (I4 : mh_I), J5 s3 I4 = some res → w_X6_sumOf SHM (mh_ret (some (.int res.1)) SHM res.2 L) I4 L 37 [(0, .ref 0), (1, .int u1), (3, .int u3)] [.int s3, .int u2]) h (fun s3 I4 h => ?_) (fun J5 hJ5 h => ?_)
      · refine mw_iadd dX6_sumOf_37 ?_
        obtain ⟨b10, eb10, h⟩ := mh_b_some h
        refine mw_nmi eb10 ?_
        refine mw_istore_n dX6_sumOf_38 (by decide) rfl ?_
        obtain ⟨b11, eb11, h⟩ := mh_b_some h
        refine mw_iinc (v := b11) dX6_sumOf_39 3 rfl (by rw [← eb11]; rfl) (by decide) rfl ?_
        refine mw_goto (tgt := 4) dX6_sumOf_42 (by decide) ?_
        refine mw_loc [2, 3, 1, 0] rfl ?_
        exact ih _ _ _ h
      · refine mw_icmp_ne (tgt := 25) dX6_sumOf_18 (by decide) (fun hc9 => ?_) (fun hc9 => ?_)
        · replace h := mh_ifn hc9 h
          refine mw_aload_n dX6_sumOf_25 0 rfl ?_
          refine mw_iload_n dX6_sumOf_26 1 rfl ?_
          refine mw_iload_n dX6_sumOf_27 3 rfl ?_
          refine mw_aload_n dX6_sumOf_28 0 rfl ?_
          refine mw_getr (b := 17) (fs := fsX6) gf_X6_58 dX6_sumOf_29 rfl rfl ?_
          refine mw_iload_n dX6_sumOf_32 3 rfl ?_
          obtain ⟨k6, hk7, hk7n, hk7l, h⟩ := mh_ix_some h
          refine mw_xiald dX6_sumOf_33 rfl hk7 hk7n ?_
          obtain ⟨q8, hq8, h⟩ := mh_bind h
          refine mw_vr (dc := 2) (ci := 6) (fs := fsX6) (T := TX6) (N := 30) cv_X6_161 wd_883 dX6_sumOf_34 [.int u1, .int u3, .int (I 17 k6)] [.int (I 17 k6), .int u3, .int u1, .ref 0, .int u2] rfl rfl rfl rfl (t_X6_asksOf hq8) ⟨by decide, by decide⟩ (Nat.le_of_ble_eq_true rfl) ⟨rfl, rfl⟩ ?_
          refine mw_loc [0, 1, 3] rfl ?_
          exact hJ5 _ _ h
        · replace h := mh_ifp hc9 h
          refine mw_iconst (v := 0) dX6_sumOf_21 (by decide) ?_
          refine mw_goto (tgt := 37) dX6_sumOf_22 (by decide) ?_
          refine mw_loc [0, 1, 3] rfl ?_
          exact hJ5 _ _ h
def X6_sumOf (p1 : Int32) (I : mh_I) : Option (Int32 × mh_I) := X6_sumOf_l4 p1 mh_fuel (0 : Int32) (0 : Int32) I
set_option maxHeartbeats 4000000 in
set_option maxRecDepth 100000 in
theorem t_X6_sumOf {L : mh_L} {I : mh_I} {p1 : Int32} {res : Int32 × mh_I} (h : X6_sumOf p1 I = some res) : mh_CT yX6_sumOf cX6_sumOf 4 (some .int) (mh_rm 3) SHM I L [.ref 0, .int p1] (mh_ret (some (.int res.1)) SHM res.2 L) := by
  refine mh_ofW (ini := false) RX6 rfl (by decide) (fun h => by cases h) (Nat.le_of_ble_eq_true rfl) ?_
  show w_X6_sumOf SHM (mh_ret (some (.int res.1)) SHM res.2 L) I L 0 [(0, .ref 0), (1, .int p1)] []
  unfold X6_sumOf at h
  refine mw_iconst (v := 0) dX6_sumOf_0 (by decide) ?_
  refine mw_istore_n dX6_sumOf_1 (by decide) rfl ?_
  refine mw_iconst (v := 0) dX6_sumOf_2 (by decide) ?_
  refine mw_istore_n dX6_sumOf_3 (by decide) rfl ?_
  refine mw_loc [2, 3, 1, 0] rfl ?_
  exact t_X6_sumOf_l4  _ _ _ _ h 
abbrev w_X6_run (sh : List mh_C) (Φ : mh_P) (I : mh_I) (L : mh_L) (pc : Nat) (lv : List (Nat × Value)) (st : List Value) : Prop := mh_W RX6 cX6_run 4 (some .int) false (mh_rm 7) 18 0 0 mh_noX Φ 0 sh I L pc lv st
def X6_run (p1 : Int32) (p2 : Int32) (p3 : Int32) (I : mh_I) : Option (Int32 × mh_I) := (X6_isLoop p1).bind (fun q1 => if q1 = 0 then some ((-5 : Int32), I) else (X6_isPull p2).bind (fun q2 => if q2 = 0 then some ((-7 : Int32), I) else (X6_in p3 (0 : Int32) (3 : Int32)).bind (fun q3 => if q3 = 0 then some ((-7 : Int32), I) else (X6_runsFrom p1 p2 I).bind (fun q4 => if p3 = 0 then some ((q4 0 29), q4) else if p3 = (1 : Int32) then (X6_lowest q4).bind (fun q6 => some (q6, q4)) else (X6_sumOf (p3 - (1 : Int32)) q4).bind (fun q5 => some (q5.1, q5.2))))))
set_option maxHeartbeats 4000000 in
set_option maxRecDepth 100000 in
theorem t_X6_run {L : mh_L} {I : mh_I} {p1 : Int32} {p2 : Int32} {p3 : Int32} {res : Int32 × mh_I} (h : X6_run p1 p2 p3 I = some res) : mh_CT yX6_run cX6_run 4 (some .int) (mh_rm 7) SHM I L [.ref 0, .int p1, .int p2, .int p3] (mh_ret (some (.int res.1)) SHM res.2 L) := by
  refine mh_ofW (ini := false) RX6 rfl (by decide) (fun h => by cases h) (Nat.le_of_ble_eq_true rfl) ?_
  show w_X6_run SHM (mh_ret (some (.int res.1)) SHM res.2 L) I L 0 [(0, .ref 0), (1, .int p1), (2, .int p2), (3, .int p3)] []
  unfold X6_run at h
  refine mw_iload_n dX6_run_0 1 rfl ?_
  obtain ⟨q1, hq1, h⟩ := mh_bind h
  refine mw_sz (dc := 1) cs_X6_155 wd_876 dX6_run_1 [.int p1] [.int p1] rfl rfl (t_X6_isLoop hq1) ⟨by decide, by decide⟩ (Nat.le_of_ble_eq_true rfl) ⟨rfl, rfl⟩ (fun zq1 => ?_)
  refine mw_if_ne (tgt := 10) dX6_run_4 (by decide) (fun hc11 => ?_) (fun hc11 => ?_)
  · replace h := mh_ifn hc11 h
    refine mw_iload_n dX6_run_10 2 rfl ?_
    obtain ⟨q2, hq2, h⟩ := mh_bind h
    refine mw_sz (dc := 1) cs_X6_158 wd_879 dX6_run_11 [.int p2] [.int p2] rfl rfl (t_X6_isPull hq2) ⟨by decide, by decide⟩ (Nat.le_of_ble_eq_true rfl) ⟨rfl, rfl⟩ (fun zq2 => ?_)
    refine mw_if_eq (tgt := 26) dX6_run_14 (by decide) (fun hc10 => ?_) (fun hc10 => ?_)
    · replace h := mh_ifp hc10 h
      refine mw_bipush (v := -7) dX6_run_26 (by decide) ?_
      obtain rfl := Option.some.inj h
      exact mw_iret dX6_run_28 rfl rfl (Nat.le_of_ble_eq_true rfl) (Nat.le_refl 0) mh_ret_rfl
    · replace h := mh_ifn hc10 h
      refine mw_iload_n dX6_run_17 3 rfl ?_
      refine mw_iconst (v := 0) dX6_run_18 (by decide) ?_
      refine mw_iconst (v := 3) dX6_run_19 (by decide) ?_
      obtain ⟨q3, hq3, h⟩ := mh_bind h
      refine mw_sz (dc := 0) cs_X6_69 wd_722 dX6_run_20 [.int p3, .int (0 : Int32), .int (3 : Int32)] [.int (3 : Int32), .int (0 : Int32), .int p3] rfl rfl (t_X6_in hq3) ⟨by decide, by decide⟩ (Nat.le_of_ble_eq_true rfl) ⟨rfl, rfl⟩ (fun zq3 => ?_)
      refine mw_if_ne (tgt := 29) dX6_run_23 (by decide) (fun hc9 => ?_) (fun hc9 => ?_)
      · replace h := mh_ifn hc9 h
        refine mw_aload_n dX6_run_29 0 rfl ?_
        refine mw_iload_n dX6_run_30 1 rfl ?_
        refine mw_iload_n dX6_run_31 2 rfl ?_
        obtain ⟨q4, hq4, h⟩ := mh_bind h
        refine mw_vv (dc := 6) (ci := 6) (fs := fsX6) (T := TX6) (N := 30) cv_X6_213 wd_964 dX6_run_32 [.int p1, .int p2] [.int p2, .int p1, .ref 0] rfl rfl rfl rfl (t_X6_runsFrom hq4) ⟨by decide, by decide⟩ (Nat.le_of_ble_eq_true rfl) ⟨rfl, rfl⟩ ?_
        refine mw_iload_n dX6_run_35 3 rfl ?_
        refine mw_if_ne (tgt := 46) dX6_run_36 (by decide) (fun hc8 => ?_) (fun hc8 => ?_)
        · replace h := mh_ifn hc8 h
          refine mw_iload_n dX6_run_46 3 rfl ?_
          refine mw_iconst (v := 1) dX6_run_47 (by decide) ?_
          refine mw_icmp_ne (tgt := 58) dX6_run_48 (by decide) (fun hc7 => ?_) (fun hc7 => ?_)
          · replace h := mh_ifn hc7 h
            refine mw_aload_n dX6_run_58 0 rfl ?_
            refine mw_iload_n dX6_run_59 3 rfl ?_
            refine mw_iconst (v := 1) dX6_run_60 (by decide) ?_
            refine mw_isub dX6_run_61 ?_
            obtain ⟨q5, hq5, h⟩ := mh_bind h
            refine mw_vr (dc := 3) (ci := 6) (fs := fsX6) (T := TX6) (N := 30) cv_X6_220 wd_988 dX6_run_62 [.int (p3 - (1 : Int32))] [.int (p3 - (1 : Int32)), .ref 0] rfl rfl rfl rfl (t_X6_sumOf hq5) ⟨by decide, by decide⟩ (Nat.le_of_ble_eq_true rfl) ⟨rfl, rfl⟩ ?_
            obtain rfl := Option.some.inj h
            exact mw_iret dX6_run_65 rfl rfl (Nat.le_of_ble_eq_true rfl) (Nat.le_refl 0) mh_ret_rfl
          · replace h := mh_ifp hc7 h
            refine mw_aload_n dX6_run_51 0 rfl ?_
            obtain ⟨q6, hq6, h⟩ := mh_bind h
            refine mw_vr (dc := 0) (ci := 6) (fs := fsX6) (T := TX6) (N := 30) cv_X6_217 wd_984 dX6_run_52 [] [.ref 0] rfl rfl rfl rfl (t_X6_lowest hq6) ⟨by decide, by decide⟩ (Nat.le_of_ble_eq_true rfl) ⟨rfl, rfl⟩ ?_
            refine mw_goto (tgt := 65) dX6_run_55 (by decide) ?_
            obtain rfl := Option.some.inj h
            exact mw_iret dX6_run_65 rfl rfl (Nat.le_of_ble_eq_true rfl) (Nat.le_refl 0) mh_ret_rfl
        · replace h := mh_ifp hc8 h
          refine mw_aload_n dX6_run_39 0 rfl ?_
          refine mw_geti (fs := fsX6) gf_X6_202 dX6_run_40 rfl rfl ?_
          refine mw_goto (tgt := 65) dX6_run_43 (by decide) ?_
          obtain rfl := Option.some.inj h
          exact mw_iret dX6_run_65 rfl rfl (Nat.le_of_ble_eq_true rfl) (Nat.le_refl 0) mh_ret_rfl
      · replace h := mh_ifp hc9 h
        refine mw_bipush (v := -7) dX6_run_26 (by decide) ?_
        obtain rfl := Option.some.inj h
        exact mw_iret dX6_run_28 rfl rfl (Nat.le_of_ble_eq_true rfl) (Nat.le_refl 0) mh_ret_rfl
  · replace h := mh_ifp hc11 h
    refine mw_bipush (v := -5) dX6_run_7 (by decide) ?_
    obtain rfl := Option.some.inj h
    exact mw_iret dX6_run_9 rfl rfl (Nat.le_of_ble_eq_true rfl) (Nat.le_refl 0) mh_ret_rfl
