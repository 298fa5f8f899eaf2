abbrev w_X3_add (sh : List mh_C) (Φ : mh_P) (I : mh_I) (L : mh_L) (pc : Nat) (lv : List (Nat × Value)) (st : List Value) : Prop := mh_W RX3 cX3_add 2 none false (mh_rm 0) 46 0 0 mh_noX Φ 0 sh I L pc lv st
def X3_add (p1 : Int32) (I : mh_I) : Option (mh_I) := if (160 : Int32) ≤ (I 7 1) then some I else mh_ix (I 7 1) 160 (fun k1 => some (mh_u (mh_u I 7 1 ((I 7 1) + (1 : Int32))) 8 k1 p1))
set_option maxHeartbeats 4000000 in
set_option maxRecDepth 100000 in
theorem t_X3_add {into : Option Nat} {L : mh_L} {I : mh_I} {p1 : Int32} {res : mh_I} (h : X3_add p1 I = some res) : mh_CT yX3_add cX3_add 2 none (mh_rm 0) (SHX into) I L [.ref 7, .int p1] (mh_ret none (SHX into) res L) := by
  refine mh_ofW (ini := false) RX3 rfl (by decide) (fun h => by cases h) (Nat.le_of_ble_eq_true rfl) ?_
  show w_X3_add (SHX into) (mh_ret none (SHX into) res L) I L 0 [(0, .ref 7), (1, .int p1)] []
  unfold X3_add at h
  refine mw_aload_n dX3_add_0 0 rfl ?_
  refine mw_geti (fs := (fsX3 7 into)) gf_X3_15 dX3_add_1 rfl rfl ?_
  refine mw_sipush (v := 160) dX3_add_4 (by decide) ?_
  refine mw_icmp_ge (tgt := 27) dX3_add_7 (by decide) (fun hc3 => ?_) (fun hc3 => ?_)
  · replace h := mh_ifp hc3 h
    obtain rfl := Option.some.inj h
    exact mw_vret dX3_add_27 rfl (Nat.le_of_ble_eq_true rfl) (Nat.le_refl 0) mh_ret_rfl
  · replace h := mh_ifn hc3 h
    refine mw_aload_n dX3_add_10 0 rfl ?_
    refine mw_getr (b := 8) (fs := (fsX3 7 into)) gf_X3_9 dX3_add_11 rfl rfl ?_
    refine mw_aload_n dX3_add_14 0 rfl ?_
    refine mw_dup dX3_add_15 rfl ?_
    refine mw_geti (fs := (fsX3 7 into)) gf_X3_15 dX3_add_16 rfl rfl ?_
    refine mw_dup_x1 dX3_add_19 rfl rfl ?_
    refine mw_iconst (v := 1) dX3_add_20 (by decide) ?_
    refine mw_iadd dX3_add_21 ?_
    refine mw_puti (fs := (fsX3 7 into)) pf_X3_15 (fun h => by cases h) rfl rfl dX3_add_22 rfl rfl ?_
    refine mw_iload_n dX3_add_25 1 rfl ?_
    obtain ⟨k1, hk2, hk2n, hk2l, h⟩ := mh_ix_some h
    refine mw_xiast dX3_add_26 rfl hk2 hk2n ?_
    obtain rfl := Option.some.inj h
    exact mw_vret dX3_add_27 rfl (Nat.le_of_ble_eq_true rfl) (Nat.le_refl 0) mh_ret_rfl
abbrev w_X3_isLetter (sh : List mh_C) (Φ : mh_P) (I : mh_I) (L : mh_L) (pc : Nat) (lv : List (Nat × Value)) (st : List Value) : Prop := mh_W RX3 cX3_isLetter 1 (some .boolean) false (mh_rm 1) 46 0 0 mh_noX Φ 0 sh I L pc lv st
def X3_isLetter (p0 : Int32) : Option (Int32) := (X5_within p0 (97 : Int32) (122 : Int32)).bind (fun q1 => some q1)
set_option maxHeartbeats 4000000 in
set_option maxRecDepth 100000 in
theorem t_X3_isLetter {into : Option Nat} {L : mh_L} {I : mh_I} {p0 : Int32} {res : Int32} (h : X3_isLetter p0 = some res) : mh_CT yX3_isLetter cX3_isLetter 1 (some .boolean) (mh_rm 1) (SHX into) I L [.int p0] (mh_retz res (SHX into) I L) := by
  refine mh_ofW (ini := false) RX3 rfl (by decide) (fun h => by cases h) (Nat.le_of_ble_eq_true rfl) ?_
  show w_X3_isLetter (SHX into) (mh_retz res (SHX into) I L) I L 0 [(0, .int p0)] []
  unfold X3_isLetter at h
  refine mw_iload_n dX3_isLetter_0 0 rfl ?_
  refine mw_bipush (v := 97) dX3_isLetter_1 (by decide) ?_
  refine mw_bipush (v := 122) dX3_isLetter_3 (by decide) ?_
  obtain ⟨q1, hq1, h⟩ := mh_bind h
  refine mw_sz (dc := 0) cs_X3_64 wd_28 dX3_isLetter_5 [.int p0, .int (97 : Int32), .int (122 : Int32)] [.int (122 : Int32), .int (97 : Int32), .int p0] rfl rfl (t_X5_within hq1) ⟨by decide, by decide⟩ (Nat.le_of_ble_eq_true rfl) ⟨rfl, rfl⟩ (fun zq1 => ?_)
  obtain rfl := Option.some.inj h
  exact mw_zret dX3_isLetter_8 rfl zq1 (Nat.le_of_ble_eq_true rfl) (Nat.le_refl 0) (mh_retz_rfl zq1)
abbrev w_X3_standsAt (sh : List mh_C) (Φ : mh_P) (I : mh_I) (L : mh_L) (pc : Nat) (lv : List (Nat × Value)) (st : List Value) : Prop := mh_W RX3 cX3_standsAt 5 (some .boolean) false (mh_rm 5) 46 0 0 mh_noX Φ 0 sh I L pc lv st
def X3_standsAt_l36 (u1 : Int32) (u3 : Int32) (I : mh_I) : Nat → Int32 → Option (Int32)
  | 0, _ => none
  | n + 1, u4 => if u3 ≤ u4 then some (1 : Int32) else (J0_charAt_5068e 1 (u1 + u4)).bind (fun q4 => mh_ix ((I 7 3) + u4) 160 (fun k5 => if q4 = (I 8 k5) then mh_b (u4 + (1 : Int32)) (fun b7 => (X3_standsAt_l36 u1 u3 I n b7)) else some (0 : Int32)))
set_option maxHeartbeats 4000000 in
set_option maxRecDepth 100000 in
theorem t_X3_standsAt_l36 {into : Option Nat} {u1 : Int32} {u3 : Int32} {I : mh_I} {L : mh_L} {res : Int32} (n : Nat) (u4 : Int32) (h : X3_standsAt_l36 u1 u3 I n u4 = some res)  : w_X3_standsAt (SHX into) (mh_retz res (SHX into) I L) I L 36 [(0, .ref 7), (1, .int u1), (3, .int u3), (4, .int u4)] [] := by
  induction n generalizing u4 with
  | zero => rw [X3_standsAt_l36] at h; cases h
  | succ n ih =>
    rw [X3_standsAt_l36] at h
    refine mw_iload dX3_standsAt_36 3 rfl ?_
    refine mw_iload_n dX3_standsAt_38 2 rfl ?_
    refine mw_icmp_ge (tgt := 74) dX3_standsAt_39 (by decide) (fun hc9 => ?_) (fun hc9 => ?_)
    · replace h := mh_ifp hc9 h
      refine mw_iconst (v := 1) dX3_standsAt_74 (by decide) ?_
      obtain rfl := Option.some.inj h
      exact mw_zret dX3_standsAt_75 rfl (Or.inr rfl) (Nat.le_of_ble_eq_true rfl) (Nat.le_refl 0) (mh_retz_rfl (Or.inr rfl))
    · replace h := mh_ifn hc9 h
      refine mw_ldcB rfl dX3_standsAt_42 ?_
      refine mw_iload_n dX3_standsAt_44 1 rfl ?_
      refine mw_iload dX3_standsAt_45 3 rfl ?_
      refine mw_iadd dX3_standsAt_47 ?_
      obtain ⟨q4, hq4, h⟩ := mh_bind h
      refine mw_tr (dc := 4) (i := 1) (by decide) cv_X3_92 wd_308 dX3_standsAt_48 [.int (u1 + u4)] [.int (u1 + u4), .ref 1001] rfl rfl rfl (t_J0_charAt_5068e (by decide) hq4) ⟨by decide, by decide⟩ (Nat.le_of_ble_eq_true rfl) ⟨rfl, rfl⟩ ?_
      refine mw_aload_n dX3_standsAt_51 0 rfl ?_
      refine mw_getr (b := 8) (fs := (fsX3 7 into)) gf_X3_9 dX3_standsAt_52 rfl rfl ?_
      refine mw_aload_n dX3_standsAt_55 0 rfl ?_
      refine mw_geti (fs := (fsX3 7 into)) gf_X3_37 dX3_standsAt_56 rfl rfl ?_
      refine mw_iload dX3_standsAt_59 3 rfl ?_
      refine mw_iadd dX3_standsAt_61 ?_
      obtain ⟨k5, hk6, hk6n, hk6l, h⟩ := mh_ix_some h
      refine mw_xiald dX3_standsAt_62 rfl hk6 hk6n ?_
      refine mw_icmp_eq (tgt := 68) dX3_standsAt_63 (by decide) (fun hc8 => ?_) (fun hc8 => ?_)
      · replace h := mh_ifp hc8 h
        obtain ⟨b7, eb7, h⟩ := mh_b_some h
        refine mw_iinc (v := b7) dX3_standsAt_68 3 rfl (by rw [← eb7]; rfl) (by decide) rfl ?_
        refine mw_goto (tgt := 36) dX3_standsAt_71 (by decide) ?_
        refine mw_loc [1, 2, 3, 0] rfl ?_
        exact ih _ h
      · replace h := mh_ifn hc8 h
        refine mw_iconst (v := 0) dX3_standsAt_66 (by decide) ?_
        obtain rfl := Option.some.inj h
        exact mw_zret dX3_standsAt_67 rfl (Or.inl rfl) (Nat.le_of_ble_eq_true rfl) (Nat.le_refl 0) (mh_retz_rfl (Or.inl rfl))
def X3_standsAt (p1 : Int32) (p2 : Int32) (I : mh_I) : Option (Int32) := mh_b (p2 - (I 7 3)) (fun b1 => (J0_length_8abf5 1).bind (fun q2 => if q2 ≤ (p1 + b1) then some (0 : Int32) else (J0_charAt_5068e 1 (p1 + b1)).bind (fun q3 => if q3 = (32 : Int32) then X3_standsAt_l36 p1 b1 I mh_fuel (0 : Int32) else some (0 : Int32))))
set_option maxHeartbeats 4000000 in
set_option maxRecDepth 100000 in
theorem t_X3_standsAt {into : Option Nat} {L : mh_L} {I : mh_I} {p1 : Int32} {p2 : Int32} {res : Int32} (h : X3_standsAt p1 p2 I = some res) : mh_CT yX3_standsAt cX3_standsAt 5 (some .boolean) (mh_rm 5) (SHX into) I L [.ref 7, .int p1, .int p2] (mh_retz res (SHX into) I L) := by
  refine mh_ofW (ini := false) RX3 rfl (by decide) (fun h => by cases h) (Nat.le_of_ble_eq_true rfl) ?_
  show w_X3_standsAt (SHX into) (mh_retz res (SHX into) I L) I L 0 [(0, .ref 7), (1, .int p1), (2, .int p2)] []
  unfold X3_standsAt at h
  refine mw_iload_n dX3_standsAt_0 2 rfl ?_
  refine mw_aload_n dX3_standsAt_1 0 rfl ?_
  refine mw_geti (fs := (fsX3 7 into)) gf_X3_37 dX3_standsAt_2 rfl rfl ?_
  refine mw_isub dX3_standsAt_5 ?_
  obtain ⟨b1, eb1, h⟩ := mh_b_some h
  refine mw_nmi eb1 ?_
  refine mw_istore_n dX3_standsAt_6 (by decide) rfl ?_
  refine mw_iload_n dX3_standsAt_7 2 rfl ?_
  refine mw_iload_n dX3_standsAt_8 0 rfl ?_
  refine mw_iadd dX3_standsAt_9 ?_
  refine mw_ldcB rfl dX3_standsAt_10 ?_
  obtain ⟨q2, hq2, h⟩ := mh_bind h
  refine mw_tr (dc := 1) (i := 1) (by decide) cv_X3_86 wd_298 dX3_standsAt_12 [] [.ref 1001, .int (p1 + b1)] rfl rfl rfl (t_J0_length_8abf5 (by decide) hq2) ⟨by decide, by decide⟩ (Nat.le_of_ble_eq_true rfl) ⟨rfl, rfl⟩ ?_
  refine mw_icmp_ge (tgt := 31) dX3_standsAt_15 (by decide) (fun hc11 => ?_) (fun hc11 => ?_)
  · replace h := mh_ifp hc11 h
    refine mw_iconst (v := 0) dX3_standsAt_31 (by decide) ?_
    obtain rfl := Option.some.inj h
    exact mw_zret dX3_standsAt_32 rfl (Or.inl rfl) (Nat.le_of_ble_eq_true rfl) (Nat.le_refl 0) (mh_retz_rfl (Or.inl rfl))
  · replace h := mh_ifn hc11 h
    refine mw_ldcB rfl dX3_standsAt_18 ?_
    refine mw_iload_n dX3_standsAt_20 2 rfl ?_
    refine mw_iload_n dX3_standsAt_21 0 rfl ?_
    refine mw_iadd dX3_standsAt_22 ?_
    obtain ⟨q3, hq3, h⟩ := mh_bind h
    refine mw_tr (dc := 4) (i := 1) (by decide) cv_X3_92 wd_308 dX3_standsAt_23 [.int (p1 + b1)] [.int (p1 + b1), .ref 1001] rfl rfl rfl (t_J0_charAt_5068e (by decide) hq3) ⟨by decide, by decide⟩ (Nat.le_of_ble_eq_true rfl) ⟨rfl, rfl⟩ ?_
    refine mw_bipush (v := 32) dX3_standsAt_26 (by decide) ?_
    refine mw_icmp_eq (tgt := 33) dX3_standsAt_28 (by decide) (fun hc10 => ?_) (fun hc10 => ?_)
    · replace h := mh_ifp hc10 h
      refine mw_iconst (v := 0) dX3_standsAt_33 (by decide) ?_
      refine mw_istore dX3_standsAt_34 (by decide) rfl ?_
      refine mw_loc [2, 3, 1, 0] rfl ?_
      exact t_X3_standsAt_l36  _ _ h 
    · replace h := mh_ifn hc10 h
      refine mw_iconst (v := 0) dX3_standsAt_31 (by decide) ?_
      obtain rfl := Option.some.inj h
      exact mw_zret dX3_standsAt_32 rfl (Or.inl rfl) (Nat.le_of_ble_eq_true rfl) (Nat.le_refl 0) (mh_retz_rfl (Or.inl rfl))
abbrev w_X3_wordToken (sh : List mh_C) (Φ : mh_P) (I : mh_I) (L : mh_L) (pc : Nat) (lv : List (Nat × Value)) (st : List Value) : Prop := mh_W RX3 cX3_wordToken 4 (some .int) false (mh_rm 6) 46 0 0 mh_noX Φ 0 sh I L pc lv st
def X3_wordToken_l6 (u1 : Int32) (I : mh_I) : Nat → Int32 → Int32 → Option (Int32)
  | 0, _, _ => none
  | n + 1, u2, u3 => (J0_length_8abf5 1).bind (fun q1 => if q1 ≤ u3 then some (1 : Int32) else (J0_charAt_5068e 1 u3).bind (fun q2 => mh_j (fun (v3 : Int32) => mh_b (u3 + (1 : Int32)) (fun b9 => (X3_wordToken_l6 u1 I n v3 b9))) (fun J4 => if q2 = (32 : Int32) then (X3_standsAt (u3 + (1 : Int32)) u1 I).bind (fun q5 => if q5 = 0 then mh_b (u2 + (1 : Int32)) (fun b6 => (J4 b6)) else some u2) else (J4 u2))))
set_option maxHeartbeats 4000000 in
set_option maxRecDepth 100000 in
theorem t_X3_wordToken_l6 {into : Option Nat} {u1 : Int32} {I : mh_I} {L : mh_L} {res : Int32} (n : Nat) (u2 : Int32) (u3 : Int32) (h : X3_wordToken_l6 u1 I n u2 u3 = some res)  : w_X3_wordToken (SHX into) (mh_ret (some (.int res)) (SHX into) I L) I L 6 [(0, .ref 7), (1, .int u1), (2, .int u2), (3, .int u3)] [] := by
  induction n generalizing u2 u3 with
  | zero => rw [X3_wordToken_l6] at h; cases h
  | succ n ih =>
    rw [X3_wordToken_l6] at h
    refine mw_iload_n dX3_wordToken_6 3 rfl ?_
    refine mw_ldcB rfl dX3_wordToken_7 ?_
    obtain ⟨q1, hq1, h⟩ := mh_bind h
    refine mw_tr (dc := 1) (i := 1) (by decide) cv_X3_86 wd_298 dX3_wordToken_9 [] [.ref 1001, .int u3] rfl rfl rfl (t_J0_length_8abf5 (by decide) hq1) ⟨by decide, by decide⟩ (Nat.le_of_ble_eq_true rfl) ⟨rfl, rfl⟩ ?_
    refine mw_icmp_ge (tgt := 48) dX3_wordToken_12 (by decide) (fun hc10 => ?_) (fun hc10 => ?_)
    · replace h := mh_ifp hc10 h
      refine mw_iconst (v := 1) dX3_wordToken_48 (by decide) ?_
      obtain rfl := Option.some.inj h
      exact mw_iret dX3_wordToken_49 rfl rfl (Nat.le_of_ble_eq_true rfl) (Nat.le_refl 0) mh_ret_rfl
    · replace h := mh_ifn hc10 h
      refine mw_ldcB rfl dX3_wordToken_15 ?_
      refine mw_iload_n dX3_wordToken_17 3 rfl ?_
      obtain ⟨q2, hq2, h⟩ := mh_bind h
      refine mw_tr (dc := 4) (i := 1) (by decide) cv_X3_92 wd_308 dX3_wordToken_18 [.int u3] [.int u3, .ref 1001] rfl rfl rfl (t_J0_charAt_5068e (by decide) hq2) ⟨by decide, by decide⟩ (Nat.le_of_ble_eq_true rfl) ⟨rfl, rfl⟩ ?_
      refine mw_bipush (v := 32) dX3_wordToken_21 (by decide) ?_
      refine mh_jw (fun J4 => ∀ (v3 : Int32), J4 v3 = some res → w_X3_wordToken (SHX into) (mh_ret (some (.int res)) (SHX into) I L) I L 42 [(0, .ref 7), (1, .int u1), (2, .int v3), (3, .int u3)] []) h (fun v3 h => ?_) (fun J4 hJ4 h => ?_)
      · obtain ⟨b9, eb9, h⟩ := mh_b_some h
        refine mw_iinc (v := b9) dX3_wordToken_42 3 rfl (by rw [← eb9]; rfl) (by decide) rfl ?_
        refine mw_goto (tgt := 6) dX3_wordToken_45 (by decide) ?_
        refine mw_loc [1, 2, 3, 0] rfl ?_
        exact ih _ _ h
      · refine mw_icmp_ne (tgt := 42) dX3_wordToken_23 (by decide) (fun hc8 => ?_) (fun hc8 => ?_)
        · replace h := mh_ifn hc8 h
          refine mw_loc [0, 1, 2, 3] rfl ?_
          exact hJ4 _ h
        · replace h := mh_ifp hc8 h
          refine mw_aload_n dX3_wordToken_26 0 rfl ?_
          refine mw_iload_n dX3_wordToken_27 3 rfl ?_
          refine mw_iconst (v := 1) dX3_wordToken_28 (by decide) ?_
          refine mw_iadd dX3_wordToken_29 ?_
          refine mw_iload_n dX3_wordToken_30 1 rfl ?_
          obtain ⟨q5, hq5, h⟩ := mh_bind h
          refine mw_vz (dc := 5) (ci := 3) (fs := (fsX3 7 into)) (T := TX3) (N := 7) cv_X3_96 wd_377 dX3_wordToken_31 [.int (u3 + (1 : Int32)), .int u1] [.int u1, .int (u3 + (1 : Int32)), .ref 7] rfl rfl rfl rfl (t_X3_standsAt hq5) ⟨by decide, by decide⟩ (Nat.le_of_ble_eq_true rfl) ⟨rfl, rfl⟩ (fun zq5 => ?_)
          refine mw_if_eq (tgt := 39) dX3_wordToken_34 (by decide) (fun hc7 => ?_) (fun hc7 => ?_)
          · replace h := mh_ifp hc7 h
            obtain ⟨b6, eb6, h⟩ := mh_b_some h
            refine mw_iinc (v := b6) dX3_wordToken_39 2 rfl (by rw [← eb6]; rfl) (by decide) rfl ?_
            refine mw_loc [1, 2, 0, 3] rfl ?_
            exact hJ4 _ h
          · replace h := mh_ifn hc7 h
            refine mw_iload_n dX3_wordToken_37 2 rfl ?_
            obtain rfl := Option.some.inj h
            exact mw_iret dX3_wordToken_38 rfl rfl (Nat.le_of_ble_eq_true rfl) (Nat.le_refl 0) mh_ret_rfl
def X3_wordToken (p1 : Int32) (I : mh_I) : Option (Int32) := X3_wordToken_l6 p1 I mh_fuel (300 : Int32) (0 : Int32)
set_option maxHeartbeats 4000000 in
set_option maxRecDepth 100000 in
theorem t_X3_wordToken {into : Option Nat} {L : mh_L} {I : mh_I} {p1 : Int32} {res : Int32} (h : X3_wordToken p1 I = some res) : mh_CT yX3_wordToken cX3_wordToken 4 (some .int) (mh_rm 6) (SHX into) I L [.ref 7, .int p1] (mh_ret (some (.int res)) (SHX into) I L) := by
  refine mh_ofW (ini := false) RX3 rfl (by decide) (fun h => by cases h) (Nat.le_of_ble_eq_true rfl) ?_
  show w_X3_wordToken (SHX into) (mh_ret (some (.int res)) (SHX into) I L) I L 0 [(0, .ref 7), (1, .int p1)] []
  unfold X3_wordToken at h
  refine mw_sipush (v := 300) dX3_wordToken_0 (by decide) ?_
  refine mw_istore_n dX3_wordToken_3 (by decide) rfl ?_
  refine mw_iconst (v := 0) dX3_wordToken_4 (by decide) ?_
  refine mw_istore_n dX3_wordToken_5 (by decide) rfl ?_
  refine mw_loc [2, 3, 1, 0] rfl ?_
  exact t_X3_wordToken_l6  _ _ _ h 
abbrev w_X3_isDigit (sh : List mh_C) (Φ : mh_P) (I : mh_I) (L : mh_L) (pc : Nat) (lv : List (Nat × Value)) (st : List Value) : Prop := mh_W RX3 cX3_isDigit 1 (some .boolean) false (mh_rm 1) 46 0 0 mh_noX Φ 0 sh I L pc lv st
def X3_isDigit (p0 : Int32) : Option (Int32) := (X5_within p0 (48 : Int32) (57 : Int32)).bind (fun q1 => some q1)
set_option maxHeartbeats 4000000 in
set_option maxRecDepth 100000 in
theorem t_X3_isDigit {into : Option Nat} {L : mh_L} {I : mh_I} {p0 : Int32} {res : Int32} (h : X3_isDigit p0 = some res) : mh_CT yX3_isDigit cX3_isDigit 1 (some .boolean) (mh_rm 1) (SHX into) I L [.int p0] (mh_retz res (SHX into) I L) := by
  refine mh_ofW (ini := false) RX3 rfl (by decide) (fun h => by cases h) (Nat.le_of_ble_eq_true rfl) ?_
  show w_X3_isDigit (SHX into) (mh_retz res (SHX into) I L) I L 0 [(0, .int p0)] []
  unfold X3_isDigit at h
  refine mw_iload_n dX3_isDigit_0 0 rfl ?_
  refine mw_bipush (v := 48) dX3_isDigit_1 (by decide) ?_
  refine mw_bipush (v := 57) dX3_isDigit_3 (by decide) ?_
  obtain ⟨q1, hq1, h⟩ := mh_bind h
  refine mw_sz (dc := 0) cs_X3_64 wd_28 dX3_isDigit_5 [.int p0, .int (48 : Int32), .int (57 : Int32)] [.int (57 : Int32), .int (48 : Int32), .int p0] rfl rfl (t_X5_within hq1) ⟨by decide, by decide⟩ (Nat.le_of_ble_eq_true rfl) ⟨rfl, rfl⟩ (fun zq1 => ?_)
  obtain rfl := Option.some.inj h
  exact mw_zret dX3_isDigit_8 rfl zq1 (Nat.le_of_ble_eq_true rfl) (Nat.le_refl 0) (mh_retz_rfl zq1)
abbrev w_X3_isSign (sh : List mh_C) (Φ : mh_P) (I : mh_I) (L : mh_L) (pc : Nat) (lv : List (Nat × Value)) (st : List Value) : Prop := mh_W RX3 cX3_isSign 1 (some .boolean) false (mh_rm 1) 46 0 0 mh_noX Φ 0 sh I L pc lv st
def X3_isSign (p0 : Int32) : Option (Int32) := (X5_within p0 (40 : Int32) (43 : Int32)).bind (fun q1 => if q1 = 0 then (X5_within p0 (59 : Int32) (61 : Int32)).bind (fun q2 => if q2 = 0 then if p0 = (45 : Int32) then some (1 : Int32) else some (0 : Int32) else some (1 : Int32)) else some (1 : Int32))
set_option maxHeartbeats 4000000 in
set_option maxRecDepth 100000 in
theorem t_X3_isSign {into : Option Nat} {L : mh_L} {I : mh_I} {p0 : Int32} {res : Int32} (h : X3_isSign p0 = some res) : mh_CT yX3_isSign cX3_isSign 1 (some .boolean) (mh_rm 1) (SHX into) I L [.int p0] (mh_retz res (SHX into) I L) := by
  refine mh_ofW (ini := false) RX3 rfl (by decide) (fun h => by cases h) (Nat.le_of_ble_eq_true rfl) ?_
  show w_X3_isSign (SHX into) (mh_retz res (SHX into) I L) I L 0 [(0, .int p0)] []
  unfold X3_isSign at h
  refine mw_iload_n dX3_isSign_0 0 rfl ?_
  refine mw_bipush (v := 40) dX3_isSign_1 (by decide) ?_
  refine mw_bipush (v := 43) dX3_isSign_3 (by decide) ?_
  obtain ⟨q1, hq1, h⟩ := mh_bind h
  refine mw_sz (dc := 0) cs_X3_64 wd_28 dX3_isSign_5 [.int p0, .int (40 : Int32), .int (43 : Int32)] [.int (43 : Int32), .int (40 : Int32), .int p0] rfl rfl (t_X5_within hq1) ⟨by decide, by decide⟩ (Nat.le_of_ble_eq_true rfl) ⟨rfl, rfl⟩ (fun zq1 => ?_)
  refine mw_if_ne (tgt := 28) dX3_isSign_8 (by decide) (fun hc5 => ?_) (fun hc5 => ?_)
  · replace h := mh_ifn hc5 h
    refine mw_iconst (v := 1) dX3_isSign_28 (by decide) ?_
    refine mw_goto (tgt := 33) dX3_isSign_29 (by decide) ?_
    obtain rfl := Option.some.inj h
    exact mw_zret dX3_isSign_33 rfl (Or.inr rfl) (Nat.le_of_ble_eq_true rfl) (Nat.le_refl 0) (mh_retz_rfl (Or.inr rfl))
  · replace h := mh_ifp hc5 h
    refine mw_iload_n dX3_isSign_11 0 rfl ?_
    refine mw_bipush (v := 59) dX3_isSign_12 (by decide) ?_
    refine mw_bipush (v := 61) dX3_isSign_14 (by decide) ?_
    obtain ⟨q2, hq2, h⟩ := mh_bind h
    refine mw_sz (dc := 0) cs_X3_64 wd_28 dX3_isSign_16 [.int p0, .int (59 : Int32), .int (61 : Int32)] [.int (61 : Int32), .int (59 : Int32), .int p0] rfl rfl (t_X5_within hq2) ⟨by decide, by decide⟩ (Nat.le_of_ble_eq_true rfl) ⟨rfl, rfl⟩ (fun zq2 => ?_)
    refine mw_if_ne (tgt := 28) dX3_isSign_19 (by decide) (fun hc4 => ?_) (fun hc4 => ?_)
    · replace h := mh_ifn hc4 h
      refine mw_iconst (v := 1) dX3_isSign_28 (by decide) ?_
      refine mw_goto (tgt := 33) dX3_isSign_29 (by decide) ?_
      obtain rfl := Option.some.inj h
      exact mw_zret dX3_isSign_33 rfl (Or.inr rfl) (Nat.le_of_ble_eq_true rfl) (Nat.le_refl 0) (mh_retz_rfl (Or.inr rfl))
    · replace h := mh_ifp hc4 h
      refine mw_iload_n dX3_isSign_22 0 rfl ?_
      refine mw_bipush (v := 45) dX3_isSign_23 (by decide) ?_
      refine mw_icmp_ne (tgt := 32) dX3_isSign_25 (by decide) (fun hc3 => ?_) (fun hc3 => ?_)
      · replace h := mh_ifn hc3 h
        refine mw_iconst (v := 0) dX3_isSign_32 (by decide) ?_
        obtain rfl := Option.some.inj h
        exact mw_zret dX3_isSign_33 rfl (Or.inl rfl) (Nat.le_of_ble_eq_true rfl) (Nat.le_refl 0) (mh_retz_rfl (Or.inl rfl))
      · replace h := mh_ifp hc3 h
        refine mw_iconst (v := 1) dX3_isSign_28 (by decide) ?_
        refine mw_goto (tgt := 33) dX3_isSign_29 (by decide) ?_
        obtain rfl := Option.some.inj h
        exact mw_zret dX3_isSign_33 rfl (Or.inr rfl) (Nat.le_of_ble_eq_true rfl) (Nat.le_refl 0) (mh_retz_rfl (Or.inr rfl))
abbrev w_X3_advance (sh : List mh_C) (Φ : mh_P) (I : mh_I) (L : mh_L) (pc : Nat) (lv : List (Nat × Value)) (st : List Value) : Prop := mh_W RX3 cX3_advance 2 none false (mh_rm 7) 46 0 0 mh_noX Φ 0 sh I L pc lv st
def X3_advance_l5 (I : mh_I) (k41 : (Int32 → Option (mh_I))) : Nat → Int32 → Option (mh_I)
  | 0, _ => none
  | n + 1, u1 => if (I 7 1) ≤ u1 then (k41 u1) else mh_ix u1 160 (fun k2 => mh_j (mh_b (u1 + (1 : Int32)) (fun b9 => (X3_advance_l5 I k41 n b9))) (fun J4 => if (I 8 k2) = (32 : Int32) then J4 else mh_ix u1 160 (fun k5 => if (I 8 k5) = (10 : Int32) then J4 else (k41 u1))))
set_option maxHeartbeats 4000000 in
set_option maxRecDepth 100000 in
theorem t_X3_advance_l5 {into : Option Nat} {k41 : (Int32 → Option (mh_I))} {I : mh_I} {L : mh_L} {res : mh_I} (n : Nat) (u1 : Int32) (h : X3_advance_l5 I k41 n u1 = some res) (hk41 : ∀ (u1 : Int32), k41 u1 = some res → w_X3_advance (SHX into) (mh_ret none (SHX into) res L) I L 41 [(0, .ref 7), (1, .int u1)] []) : w_X3_advance (SHX into) (mh_ret none (SHX into) res L) I L 5 [(0, .ref 7), (1, .int u1)] [] := by
  induction n generalizing u1 with
  | zero => rw [X3_advance_l5] at h; cases h
  | succ n ih =>
    rw [X3_advance_l5] at h
    refine mw_iload_n dX3_advance_5 1 rfl ?_
    refine mw_aload_n dX3_advance_6 0 rfl ?_
    refine mw_geti (fs := (fsX3 7 into)) gf_X3_15 dX3_advance_7 rfl rfl ?_
    refine mw_icmp_ge (tgt := 41) dX3_advance_10 (by decide) (fun hc10 => ?_) (fun hc10 => ?_)
    · replace h := mh_ifp hc10 h
      refine mw_loc [0, 1] rfl ?_
      exact hk41 _ h
    · replace h := mh_ifn hc10 h
      refine mw_aload_n dX3_advance_13 0 rfl ?_
      refine mw_getr (b := 8) (fs := (fsX3 7 into)) gf_X3_9 dX3_advance_14 rfl rfl ?_
      refine mw_iload_n dX3_advance_17 1 rfl ?_
      obtain ⟨k2, hk3, hk3n, hk3l, h⟩ := mh_ix_some h
      refine mw_xiald dX3_advance_18 rfl hk3 hk3n ?_
      refine mw_bipush (v := 32) dX3_advance_19 (by decide) ?_
      refine mh_jw (fun J4 => J4 = some res → w_X3_advance (SHX into) (mh_ret none (SHX into) res L) I L 35 [(0, .ref 7), (1, .int u1)] []) h (fun h => ?_) (fun J4 hJ4 h => ?_)
      · obtain ⟨b9, eb9, h⟩ := mh_b_some h
        refine mw_iinc (v := b9) dX3_advance_35 1 rfl (by rw [← eb9]; rfl) (by decide) rfl ?_
        refine mw_goto (tgt := 5) dX3_advance_38 (by decide) ?_
        refine mw_loc [1, 0] rfl ?_
        exact ih _ h
      · refine mw_icmp_eq (tgt := 35) dX3_advance_21 (by decide) (fun hc8 => ?_) (fun hc8 => ?_)
        · replace h := mh_ifp hc8 h
          refine mw_loc [0, 1] rfl ?_
          exact hJ4  h
        · replace h := mh_ifn hc8 h
          refine mw_aload_n dX3_advance_24 0 rfl ?_
          refine mw_getr (b := 8) (fs := (fsX3 7 into)) gf_X3_9 dX3_advance_25 rfl rfl ?_
          refine mw_iload_n dX3_advance_28 1 rfl ?_
          obtain ⟨k5, hk6, hk6n, hk6l, h⟩ := mh_ix_some h
          refine mw_xiald dX3_advance_29 rfl hk6 hk6n ?_
          refine mw_bipush (v := 10) dX3_advance_30 (by decide) ?_
          refine mw_icmp_ne (tgt := 41) dX3_advance_32 (by decide) (fun hc7 => ?_) (fun hc7 => ?_)
          · replace h := mh_ifn hc7 h
            refine mw_loc [0, 1] rfl ?_
            exact hk41 _ h
          · replace h := mh_ifp hc7 h
            refine mw_loc [0, 1] rfl ?_
            exact hJ4  h
def X3_advance_l129 (k176 : (Int32 → mh_I → Option (mh_I))) : Nat → Int32 → mh_I → Option (mh_I)
  | 0, _, _ => none
  | n + 1, u1, I => if (I 7 1) ≤ u1 then (k176 u1 I) else mh_ix u1 160 (fun k30 => (X3_isDigit (I 8 k30)).bind (fun q32 => if q32 = 0 then (k176 u1 I) else mh_ix u1 160 (fun k33 => mh_b (u1 + (1 : Int32)) (fun b35 => (X3_advance_l129 k176 n b35 (mh_u I 7 5 ((((I 7 5) * (10 : Int32)) + (I 8 k33)) - (48 : Int32))))))))
set_option maxHeartbeats 4000000 in
set_option maxRecDepth 100000 in
theorem t_X3_advance_l129 {into : Option Nat} {k176 : (Int32 → mh_I → Option (mh_I))} {L : mh_L} {res : mh_I} (n : Nat) (u1 : Int32) (I : mh_I) (h : X3_advance_l129 k176 n u1 I = some res) (hk176 : ∀ (u1 : Int32) (I : mh_I), k176 u1 I = some res → w_X3_advance (SHX into) (mh_ret none (SHX into) res L) I L 176 [(0, .ref 7), (1, .int u1)] []) : w_X3_advance (SHX into) (mh_ret none (SHX into) res L) I L 129 [(0, .ref 7), (1, .int u1)] [] := by
  induction n generalizing u1 I with
  | zero => rw [X3_advance_l129] at h; cases h
  | succ n ih =>
    rw [X3_advance_l129] at h
    refine mw_iload_n dX3_advance_129 1 rfl ?_
    refine mw_aload_n dX3_advance_130 0 rfl ?_
    refine mw_geti (fs := (fsX3 7 into)) gf_X3_15 dX3_advance_131 rfl rfl ?_
    refine mw_icmp_ge (tgt := 176) dX3_advance_134 (by decide) (fun hc37 => ?_) (fun hc37 => ?_)
    · replace h := mh_ifp hc37 h
      refine mw_loc [0, 1] rfl ?_
      exact hk176 _ _ h
    · replace h := mh_ifn hc37 h
      refine mw_aload_n dX3_advance_137 0 rfl ?_
      refine mw_getr (b := 8) (fs := (fsX3 7 into)) gf_X3_9 dX3_advance_138 rfl rfl ?_
      refine mw_iload_n dX3_advance_141 1 rfl ?_
      obtain ⟨k30, hk31, hk31n, hk31l, h⟩ := mh_ix_some h
      refine mw_xiald dX3_advance_142 rfl hk31 hk31n ?_
      obtain ⟨q32, hq32, h⟩ := mh_bind h
      refine mw_sz (dc := 1) cs_X3_78 wd_380 dX3_advance_143 [.int (I 8 k30)] [.int (I 8 k30)] rfl rfl (t_X3_isDigit hq32) ⟨by decide, by decide⟩ (Nat.le_of_ble_eq_true rfl) ⟨rfl, rfl⟩ (fun zq32 => ?_)
      refine mw_if_eq (tgt := 176) dX3_advance_146 (by decide) (fun hc36 => ?_) (fun hc36 => ?_)
      · replace h := mh_ifp hc36 h
        refine mw_loc [0, 1] rfl ?_
        exact hk176 _ _ h
      · replace h := mh_ifn hc36 h
        refine mw_aload_n dX3_advance_149 0 rfl ?_
        refine mw_aload_n dX3_advance_150 0 rfl ?_
        refine mw_geti (fs := (fsX3 7 into)) gf_X3_61 dX3_advance_151 rfl rfl ?_
        refine mw_bipush (v := 10) dX3_advance_154 (by decide) ?_
        refine mw_imul dX3_advance_156 ?_
        refine mw_aload_n dX3_advance_157 0 rfl ?_
        refine mw_getr (b := 8) (fs := (fsX3 7 into)) gf_X3_9 dX3_advance_158 rfl rfl ?_
        refine mw_iload_n dX3_advance_161 1 rfl ?_
        obtain ⟨k33, hk34, hk34n, hk34l, h⟩ := mh_ix_some h
        refine mw_xiald dX3_advance_162 rfl hk34 hk34n ?_
        refine mw_iadd dX3_advance_163 ?_
        refine mw_bipush (v := 48) dX3_advance_164 (by decide) ?_
        refine mw_isub dX3_advance_166 ?_
        refine mw_puti (fs := (fsX3 7 into)) pf_X3_61 (fun h => by cases h) rfl rfl dX3_advance_167 rfl rfl ?_
        obtain ⟨b35, eb35, h⟩ := mh_b_some h
        refine mw_iinc (v := b35) dX3_advance_170 1 rfl (by rw [← eb35]; rfl) (by decide) rfl ?_
        refine mw_goto (tgt := 129) dX3_advance_173 (by decide) ?_
        refine mw_loc [1, 0] rfl ?_
        exact ih _ _ h
def X3_advance_l74 (I : mh_I) (k100 : (Int32 → Option (mh_I))) : Nat → Int32 → Option (mh_I)
  | 0, _ => none
  | n + 1, u1 => if (I 7 1) ≤ u1 then (k100 u1) else mh_ix u1 160 (fun k44 => (X3_isLetter (I 8 k44)).bind (fun q46 => if q46 = 0 then (k100 u1) else mh_b (u1 + (1 : Int32)) (fun b47 => (X3_advance_l74 I k100 n b47))))
set_option maxHeartbeats 4000000 in
set_option maxRecDepth 100000 in
theorem t_X3_advance_l74 {into : Option Nat} {k100 : (Int32 → Option (mh_I))} {I : mh_I} {L : mh_L} {res : mh_I} (n : Nat) (u1 : Int32) (h : X3_advance_l74 I k100 n u1 = some res) (hk100 : ∀ (u1 : Int32), k100 u1 = some res → w_X3_advance (SHX into) (mh_ret none (SHX into) res L) I L 100 [(0, .ref 7), (1, .int u1)] []) : w_X3_advance (SHX into) (mh_ret none (SHX into) res L) I L 74 [(0, .ref 7), (1, .int u1)] [] := by
  induction n generalizing u1 with
  | zero => rw [X3_advance_l74] at h; cases h
  | succ n ih =>
    rw [X3_advance_l74] at h
    refine mw_iload_n dX3_advance_74 1 rfl ?_
    refine mw_aload_n dX3_advance_75 0 rfl ?_
    refine mw_geti (fs := (fsX3 7 into)) gf_X3_15 dX3_advance_76 rfl rfl ?_
    refine mw_icmp_ge (tgt := 100) dX3_advance_79 (by decide) (fun hc49 => ?_) (fun hc49 => ?_)
    · replace h := mh_ifp hc49 h
      refine mw_loc [0, 1] rfl ?_
      exact hk100 _ h
    · replace h := mh_ifn hc49 h
      refine mw_aload_n dX3_advance_82 0 rfl ?_
      refine mw_getr (b := 8) (fs := (fsX3 7 into)) gf_X3_9 dX3_advance_83 rfl rfl ?_
      refine mw_iload_n dX3_advance_86 1 rfl ?_
      obtain ⟨k44, hk45, hk45n, hk45l, h⟩ := mh_ix_some h
      refine mw_xiald dX3_advance_87 rfl hk45 hk45n ?_
      obtain ⟨q46, hq46, h⟩ := mh_bind h
      refine mw_sz (dc := 1) cs_X3_71 wd_365 dX3_advance_88 [.int (I 8 k44)] [.int (I 8 k44)] rfl rfl (t_X3_isLetter hq46) ⟨by decide, by decide⟩ (Nat.le_of_ble_eq_true rfl) ⟨rfl, rfl⟩ (fun zq46 => ?_)
      refine mw_if_eq (tgt := 100) dX3_advance_91 (by decide) (fun hc48 => ?_) (fun hc48 => ?_)
      · replace h := mh_ifp hc48 h
        refine mw_loc [0, 1] rfl ?_
        exact hk100 _ h
      · replace h := mh_ifn hc48 h
        obtain ⟨b47, eb47, h⟩ := mh_b_some h
        refine mw_iinc (v := b47) dX3_advance_94 1 rfl (by rw [← eb47]; rfl) (by decide) rfl ?_
        refine mw_goto (tgt := 74) dX3_advance_97 (by decide) ?_
        refine mw_loc [1, 0] rfl ?_
        exact ih _ h
def X3_advance (I : mh_I) : Option (mh_I) := mh_b (I 7 2) (fun b1 => X3_advance_l5 I (fun (v11 : Int32) => mh_j (fun (v12 : Int32) (I13 : mh_I) => some (mh_u I13 7 2 v12)) (fun J14 => if v11 < ((mh_u I 7 3 v11) 7 1) then mh_ix v11 160 (fun k15 => (X3_isLetter ((mh_u I 7 3 v11) 8 k15)).bind (fun q17 => if q17 = 0 then mh_ix v11 160 (fun k18 => (X3_isDigit ((mh_u I 7 3 v11) 8 k18)).bind (fun q20 => if q20 = 0 then mh_ix v11 160 (fun k21 => (X3_isSign ((mh_u I 7 3 v11) 8 k21)).bind (fun q23 => mh_j (fun (s24 : Int32) => mh_b (v11 + (1 : Int32)) (fun b29 => (J14 b29 (mh_u (mh_u I 7 3 v11) 7 4 s24)))) (fun J25 => if q23 = 0 then (J25 (1 : Int32)) else mh_ix v11 160 (fun k26 => (J25 ((mh_u I 7 3 v11) 8 k26)))))) else X3_advance_l129 (fun (v38 : Int32) (I39 : mh_I) => mh_j (fun (s40 : Int32) => (J14 v38 (mh_u I39 7 4 s40))) (fun J41 => if (v38 - (I39 7 3)) ≤ (4 : Int32) then (J41 (2 : Int32)) else (J41 (1 : Int32)))) mh_fuel v11 (mh_u (mh_u I 7 3 v11) 7 5 (0 : Int32)))) else X3_advance_l74 (mh_u I 7 3 v11) (fun (v50 : Int32) => (X3_wordToken v50 (mh_u I 7 3 v11)).bind (fun q51 => (J14 v50 (mh_u (mh_u I 7 3 v11) 7 4 q51)))) mh_fuel v11)) else (J14 v11 (mh_u (mh_u I 7 3 v11) 7 4 (0 : Int32))))) mh_fuel b1)
set_option maxHeartbeats 4000000 in
set_option maxRecDepth 100000 in
theorem t_X3_advance {into : Option Nat} {L : mh_L} {I : mh_I} {res : mh_I} (h : X3_advance I = some res) : mh_CT yX3_advance cX3_advance 2 none (mh_rm 7) (SHX into) I L [.ref 7] (mh_ret none (SHX into) res L) := by
  refine mh_ofW (ini := false) RX3 rfl (by decide) (fun h => by cases h) (Nat.le_of_ble_eq_true rfl) ?_
  show w_X3_advance (SHX into) (mh_ret none (SHX into) res L) I L 0 [(0, .ref 7)] []
  unfold X3_advance at h
  refine mw_aload_n dX3_advance_0 0 rfl ?_
  refine mw_geti (fs := (fsX3 7 into)) gf_X3_28 dX3_advance_1 rfl rfl ?_
  obtain ⟨b1, eb1, h⟩ := mh_b_some h
  refine mw_nmi eb1 ?_
  refine mw_istore_n dX3_advance_4 (by decide) rfl ?_
  refine mw_loc [1, 0] rfl ?_
  refine t_X3_advance_l5  _ _ h (fun v11 h => ?_)
  refine mw_aload_n dX3_advance_41 0 rfl ?_
  refine mw_iload_n dX3_advance_42 1 rfl ?_
  refine mw_puti (fs := (fsX3 7 into)) pf_X3_37 (fun h => by cases h) rfl rfl dX3_advance_43 rfl rfl ?_
  refine mw_iload_n dX3_advance_46 1 rfl ?_
  refine mw_aload_n dX3_advance_47 0 rfl ?_
  refine mw_geti (fs := (fsX3 7 into)) gf_X3_15 dX3_advance_48 rfl rfl ?_
  refine mh_jw (fun J14 => ∀ (v12 : Int32) (I13 : mh_I), J14 v12 I13 = some res → w_X3_advance (SHX into) (mh_ret none (SHX into) res L) I13 L 227 [(0, .ref 7), (1, .int v12)] []) h (fun v12 I13 h => ?_) (fun J14 hJ14 h => ?_)
  · refine mw_aload_n dX3_advance_227 0 rfl ?_
    refine mw_iload_n dX3_advance_228 1 rfl ?_
    refine mw_puti (fs := (fsX3 7 into)) pf_X3_28 (fun h => by cases h) rfl rfl dX3_advance_229 rfl rfl ?_
    obtain rfl := Option.some.inj h
    exact mw_vret dX3_advance_232 rfl (Nat.le_of_ble_eq_true rfl) (Nat.le_refl 0) mh_ret_rfl
  · refine mw_icmp_lt (tgt := 62) dX3_advance_51 (by decide) (fun hc53 => ?_) (fun hc53 => ?_)
    · replace h := mh_ifp hc53 h
      refine mw_aload_n dX3_advance_62 0 rfl ?_
      refine mw_getr (b := 8) (fs := (fsX3 7 into)) gf_X3_9 dX3_advance_63 rfl rfl ?_
      refine mw_iload_n dX3_advance_66 1 rfl ?_
      obtain ⟨k15, hk16, hk16n, hk16l, h⟩ := mh_ix_some h
      refine mw_xiald dX3_advance_67 rfl hk16 hk16n ?_
      obtain ⟨q17, hq17, h⟩ := mh_bind h
      refine mw_sz (dc := 1) cs_X3_71 wd_365 dX3_advance_68 [.int ((mh_u I 7 3 v11) 8 k15)] [.int ((mh_u I 7 3 v11) 8 k15)] rfl rfl (t_X3_isLetter hq17) ⟨by decide, by decide⟩ (Nat.le_of_ble_eq_true rfl) ⟨rfl, rfl⟩ (fun zq17 => ?_)
      refine mw_if_eq (tgt := 112) dX3_advance_71 (by decide) (fun hc52 => ?_) (fun hc52 => ?_)
      · replace h := mh_ifp hc52 h
        refine mw_aload_n dX3_advance_112 0 rfl ?_
        refine mw_getr (b := 8) (fs := (fsX3 7 into)) gf_X3_9 dX3_advance_113 rfl rfl ?_
        refine mw_iload_n dX3_advance_116 1 rfl ?_
        obtain ⟨k18, hk19, hk19n, hk19l, h⟩ := mh_ix_some h
        refine mw_xiald dX3_advance_117 rfl hk19 hk19n ?_
        obtain ⟨q20, hq20, h⟩ := mh_bind h
        refine mw_sz (dc := 1) cs_X3_78 wd_380 dX3_advance_118 [.int ((mh_u I 7 3 v11) 8 k18)] [.int ((mh_u I 7 3 v11) 8 k18)] rfl rfl (t_X3_isDigit hq20) ⟨by decide, by decide⟩ (Nat.le_of_ble_eq_true rfl) ⟨rfl, rfl⟩ (fun zq20 => ?_)
        refine mw_if_eq (tgt := 198) dX3_advance_121 (by decide) (fun hc43 => ?_) (fun hc43 => ?_)
        · replace h := mh_ifp hc43 h
          refine mw_aload_n dX3_advance_198 0 rfl ?_
          refine mw_aload_n dX3_advance_199 0 rfl ?_
          refine mw_getr (b := 8) (fs := (fsX3 7 into)) gf_X3_9 dX3_advance_200 rfl rfl ?_
          refine mw_iload_n dX3_advance_203 1 rfl ?_
          obtain ⟨k21, hk22, hk22n, hk22l, h⟩ := mh_ix_some h
          refine mw_xiald dX3_advance_204 rfl hk22 hk22n ?_
          obtain ⟨q23, hq23, h⟩ := mh_bind h
          refine mw_sz (dc := 1) cs_X3_81 wd_383 dX3_advance_205 [.int ((mh_u I 7 3 v11) 8 k21)] [.int ((mh_u I 7 3 v11) 8 k21), .ref 7] rfl rfl (t_X3_isSign hq23) ⟨by decide, by decide⟩ (Nat.le_of_ble_eq_true rfl) ⟨rfl, rfl⟩ (fun zq23 => ?_)
          refine mh_jw (fun J25 => ∀ (s24 : Int32), J25 s24 = some res → w_X3_advance (SHX into) (mh_ret none (SHX into) res L) (mh_u I 7 3 v11) L 221 [(0, .ref 7), (1, .int v11)] [.int s24, .ref 7]) h (fun s24 h => ?_) (fun J25 hJ25 h => ?_)
          · refine mw_puti (fs := (fsX3 7 into)) pf_X3_34 (fun h => by cases h) rfl rfl dX3_advance_221 rfl rfl ?_
            obtain ⟨b29, eb29, h⟩ := mh_b_some h
            refine mw_iinc (v := b29) dX3_advance_224 1 rfl (by rw [← eb29]; rfl) (by decide) rfl ?_
            refine mw_loc [1, 0] rfl ?_
            exact hJ14 _ _ h
          · refine mw_if_eq (tgt := 220) dX3_advance_208 (by decide) (fun hc28 => ?_) (fun hc28 => ?_)
            · replace h := mh_ifp hc28 h
              refine mw_iconst (v := 1) dX3_advance_220 (by decide) ?_
              refine mw_loc [0, 1] rfl ?_
              exact hJ25 _ h
            · replace h := mh_ifn hc28 h
              refine mw_aload_n dX3_advance_211 0 rfl ?_
              refine mw_getr (b := 8) (fs := (fsX3 7 into)) gf_X3_9 dX3_advance_212 rfl rfl ?_
              refine mw_iload_n dX3_advance_215 1 rfl ?_
              obtain ⟨k26, hk27, hk27n, hk27l, h⟩ := mh_ix_some h
              refine mw_xiald dX3_advance_216 rfl hk27 hk27n ?_
              refine mw_goto (tgt := 221) dX3_advance_217 (by decide) ?_
              refine mw_loc [0, 1] rfl ?_
              exact hJ25 _ h
        · replace h := mh_ifn hc43 h
          refine mw_aload_n dX3_advance_124 0 rfl ?_
          refine mw_iconst (v := 0) dX3_advance_125 (by decide) ?_
          refine mw_puti (fs := (fsX3 7 into)) pf_X3_61 (fun h => by cases h) rfl rfl dX3_advance_126 rfl rfl ?_
          refine mw_loc [0, 1] rfl ?_
          refine t_X3_advance_l129  _ _ _ h (fun v38 I39 h => ?_)
          refine mw_aload_n dX3_advance_176 0 rfl ?_
          refine mw_iload_n dX3_advance_177 1 rfl ?_
          refine mw_aload_n dX3_advance_178 0 rfl ?_
          refine mw_geti (fs := (fsX3 7 into)) gf_X3_37 dX3_advance_179 rfl rfl ?_
          refine mw_isub dX3_advance_182 ?_
          refine mw_iconst (v := 4) dX3_advance_183 (by decide) ?_
          refine mh_jw (fun J41 => ∀ (s40 : Int32), J41 s40 = some res → w_X3_advance (SHX into) (mh_ret none (SHX into) res L) I39 L 192 [(0, .ref 7), (1, .int v38)] [.int s40, .ref 7]) h (fun s40 h => ?_) (fun J41 hJ41 h => ?_)
          · refine mw_puti (fs := (fsX3 7 into)) pf_X3_34 (fun h => by cases h) rfl rfl dX3_advance_192 rfl rfl ?_
            refine mw_goto (tgt := 227) dX3_advance_195 (by decide) ?_
            refine mw_loc [0, 1] rfl ?_
            exact hJ14 _ _ h
          · refine mw_icmp_le (tgt := 191) dX3_advance_184 (by decide) (fun hc42 => ?_) (fun hc42 => ?_)
            · replace h := mh_ifp hc42 h
              refine mw_iconst (v := 2) dX3_advance_191 (by decide) ?_
              refine mw_loc [0, 1] rfl ?_
              exact hJ41 _ h
            · replace h := mh_ifn hc42 h
              refine mw_iconst (v := 1) dX3_advance_187 (by decide) ?_
              refine mw_goto (tgt := 192) dX3_advance_188 (by decide) ?_
              refine mw_loc [0, 1] rfl ?_
              exact hJ41 _ h
      · replace h := mh_ifn hc52 h
        refine mw_loc [0, 1] rfl ?_
        refine t_X3_advance_l74  _ _ h (fun v50 h => ?_)
        refine mw_aload_n dX3_advance_100 0 rfl ?_
        refine mw_aload_n dX3_advance_101 0 rfl ?_
        refine mw_iload_n dX3_advance_102 1 rfl ?_
        obtain ⟨q51, hq51, h⟩ := mh_bind h
        refine mw_vr (dc := 6) (ci := 3) (fs := (fsX3 7 into)) (T := TX3) (N := 7) cv_X3_74 wd_370 dX3_advance_103 [.int v50] [.int v50, .ref 7, .ref 7] rfl rfl rfl rfl (t_X3_wordToken hq51) ⟨by decide, by decide⟩ (Nat.le_of_ble_eq_true rfl) ⟨rfl, rfl⟩ ?_
        refine mw_puti (fs := (fsX3 7 into)) pf_X3_34 (fun h => by cases h) rfl rfl dX3_advance_106 rfl rfl ?_
        refine mw_goto (tgt := 227) dX3_advance_109 (by decide) ?_
        refine mw_loc [0, 1] rfl ?_
        exact hJ14 _ _ h
    · replace h := mh_ifn hc53 h
      refine mw_aload_n dX3_advance_54 0 rfl ?_
      refine mw_iconst (v := 0) dX3_advance_55 (by decide) ?_
      refine mw_puti (fs := (fsX3 7 into)) pf_X3_34 (fun h => by cases h) rfl rfl dX3_advance_56 rfl rfl ?_
      refine mw_goto (tgt := 227) dX3_advance_59 (by decide) ?_
      refine mw_loc [0, 1] rfl ?_
      exact hJ14 _ _ h
abbrev w_X3_joins (sh : List mh_C) (Φ : mh_P) (I : mh_I) (L : mh_L) (pc : Nat) (lv : List (Nat × Value)) (st : List Value) : Prop := mh_W RX3 cX3_joins 2 (some .boolean) false (mh_rm 0) 46 0 0 mh_noX Φ 0 sh I L pc lv st
def X3_joins (p0 : Int32) (p1 : Int32) : Option (Int32) := if p0 = 0 then if p1 = (303 : Int32) then some (1 : Int32) else some (0 : Int32) else if p0 = 1 then if p1 = (304 : Int32) then some (1 : Int32) else some (0 : Int32) else if p0 = 2 then if p1 = (60 : Int32) then some (1 : Int32) else if p1 = (61 : Int32) then some (1 : Int32) else some (0 : Int32) else if p0 = 3 then if p1 = (43 : Int32) then some (1 : Int32) else if p1 = (45 : Int32) then some (1 : Int32) else some (0 : Int32) else if p1 = (42 : Int32) then some (1 : Int32) else some (0 : Int32)
set_option maxHeartbeats 4000000 in
set_option maxRecDepth 100000 in
theorem t_X3_joins {into : Option Nat} {L : mh_L} {I : mh_I} {p0 : Int32} {p1 : Int32} {res : Int32} (h : X3_joins p0 p1 = some res) : mh_CT yX3_joins cX3_joins 2 (some .boolean) (mh_rm 0) (SHX into) I L [.int p0, .int p1] (mh_retz res (SHX into) I L) := by
  refine mh_ofW (ini := false) RX3 rfl (by decide) (fun h => by cases h) (Nat.le_of_ble_eq_true rfl) ?_
  show w_X3_joins (SHX into) (mh_retz res (SHX into) I L) I L 0 [(0, .int p0), (1, .int p1)] []
  unfold X3_joins at h
  refine mw_iload_n dX3_joins_0 0 rfl ?_
  by_cases hc1 : p0 = 0
  · replace h := mh_ifp hc1 h
    refine mw_tableIn (off := 31) (tgt := 32) dX3_joins_1 (by rw [hc1]; decide) (by rw [hc1]; decide) (by rw [hc1]; rfl) (by decide) ?_
    refine mw_iload_n dX3_joins_32 1 rfl ?_
    refine mw_sipush (v := 303) dX3_joins_33 (by decide) ?_
    refine mw_icmp_ne (tgt := 43) dX3_joins_36 (by decide) (fun hc2 => ?_) (fun hc2 => ?_)
    · replace h := mh_ifn hc2 h
      refine mw_iconst (v := 0) dX3_joins_43 (by decide) ?_
      obtain rfl := Option.some.inj h
      exact mw_zret dX3_joins_44 rfl (Or.inl rfl) (Nat.le_of_ble_eq_true rfl) (Nat.le_refl 0) (mh_retz_rfl (Or.inl rfl))
    · replace h := mh_ifp hc2 h
      refine mw_iconst (v := 1) dX3_joins_39 (by decide) ?_
      refine mw_goto (tgt := 44) dX3_joins_40 (by decide) ?_
      obtain rfl := Option.some.inj h
      exact mw_zret dX3_joins_44 rfl (Or.inr rfl) (Nat.le_of_ble_eq_true rfl) (Nat.le_refl 0) (mh_retz_rfl (Or.inr rfl))
  · replace h := mh_ifn hc1 h
    by_cases hc3 : p0 = 1
    · replace h := mh_ifp hc3 h
      refine mw_tableIn (off := 44) (tgt := 45) dX3_joins_1 (by rw [hc3]; decide) (by rw [hc3]; decide) (by rw [hc3]; rfl) (by decide) ?_
      refine mw_iload_n dX3_joins_45 1 rfl ?_
      refine mw_sipush (v := 304) dX3_joins_46 (by decide) ?_
      refine mw_icmp_ne (tgt := 56) dX3_joins_49 (by decide) (fun hc4 => ?_) (fun hc4 => ?_)
      · replace h := mh_ifn hc4 h
        refine mw_iconst (v := 0) dX3_joins_56 (by decide) ?_
        obtain rfl := Option.some.inj h
        exact mw_zret dX3_joins_57 rfl (Or.inl rfl) (Nat.le_of_ble_eq_true rfl) (Nat.le_refl 0) (mh_retz_rfl (Or.inl rfl))
      · replace h := mh_ifp hc4 h
        refine mw_iconst (v := 1) dX3_joins_52 (by decide) ?_
        refine mw_goto (tgt := 57) dX3_joins_53 (by decide) ?_
        obtain rfl := Option.some.inj h
        exact mw_zret dX3_joins_57 rfl (Or.inr rfl) (Nat.le_of_ble_eq_true rfl) (Nat.le_refl 0) (mh_retz_rfl (Or.inr rfl))
    · replace h := mh_ifn hc3 h
      by_cases hc5 : p0 = 2
      · replace h := mh_ifp hc5 h
        refine mw_tableIn (off := 57) (tgt := 58) dX3_joins_1 (by rw [hc5]; decide) (by rw [hc5]; decide) (by rw [hc5]; rfl) (by decide) ?_
        refine mw_iload_n dX3_joins_58 1 rfl ?_
        refine mw_bipush (v := 60) dX3_joins_59 (by decide) ?_
        refine mw_icmp_eq (tgt := 70) dX3_joins_61 (by decide) (fun hc7 => ?_) (fun hc7 => ?_)
        · replace h := mh_ifp hc7 h
          refine mw_iconst (v := 1) dX3_joins_70 (by decide) ?_
          refine mw_goto (tgt := 75) dX3_joins_71 (by decide) ?_
          obtain rfl := Option.some.inj h
          exact mw_zret dX3_joins_75 rfl (Or.inr rfl) (Nat.le_of_ble_eq_true rfl) (Nat.le_refl 0) (mh_retz_rfl (Or.inr rfl))
        · replace h := mh_ifn hc7 h
          refine mw_iload_n dX3_joins_64 1 rfl ?_
          refine mw_bipush (v := 61) dX3_joins_65 (by decide) ?_
          refine mw_icmp_ne (tgt := 74) dX3_joins_67 (by decide) (fun hc6 => ?_) (fun hc6 => ?_)
          · replace h := mh_ifn hc6 h
            refine mw_iconst (v := 0) dX3_joins_74 (by decide) ?_
            obtain rfl := Option.some.inj h
            exact mw_zret dX3_joins_75 rfl (Or.inl rfl) (Nat.le_of_ble_eq_true rfl) (Nat.le_refl 0) (mh_retz_rfl (Or.inl rfl))
          · replace h := mh_ifp hc6 h
            refine mw_iconst (v := 1) dX3_joins_70 (by decide) ?_
            refine mw_goto (tgt := 75) dX3_joins_71 (by decide) ?_
            obtain rfl := Option.some.inj h
            exact mw_zret dX3_joins_75 rfl (Or.inr rfl) (Nat.le_of_ble_eq_true rfl) (Nat.le_refl 0) (mh_retz_rfl (Or.inr rfl))
      · replace h := mh_ifn hc5 h
        by_cases hc8 : p0 = 3
        · replace h := mh_ifp hc8 h
          refine mw_tableIn (off := 75) (tgt := 76) dX3_joins_1 (by rw [hc8]; decide) (by rw [hc8]; decide) (by rw [hc8]; rfl) (by decide) ?_
          refine mw_iload_n dX3_joins_76 1 rfl ?_
          refine mw_bipush (v := 43) dX3_joins_77 (by decide) ?_
          refine mw_icmp_eq (tgt := 88) dX3_joins_79 (by decide) (fun hc10 => ?_) (fun hc10 => ?_)
          · replace h := mh_ifp hc10 h
            refine mw_iconst (v := 1) dX3_joins_88 (by decide) ?_
            refine mw_goto (tgt := 93) dX3_joins_89 (by decide) ?_
            obtain rfl := Option.some.inj h
            exact mw_zret dX3_joins_93 rfl (Or.inr rfl) (Nat.le_of_ble_eq_true rfl) (Nat.le_refl 0) (mh_retz_rfl (Or.inr rfl))
          · replace h := mh_ifn hc10 h
            refine mw_iload_n dX3_joins_82 1 rfl ?_
            refine mw_bipush (v := 45) dX3_joins_83 (by decide) ?_
            refine mw_icmp_ne (tgt := 92) dX3_joins_85 (by decide) (fun hc9 => ?_) (fun hc9 => ?_)
            · replace h := mh_ifn hc9 h
              refine mw_iconst (v := 0) dX3_joins_92 (by decide) ?_
              obtain rfl := Option.some.inj h
              exact mw_zret dX3_joins_93 rfl (Or.inl rfl) (Nat.le_of_ble_eq_true rfl) (Nat.le_refl 0) (mh_retz_rfl (Or.inl rfl))
            · replace h := mh_ifp hc9 h
              refine mw_iconst (v := 1) dX3_joins_88 (by decide) ?_
              refine mw_goto (tgt := 93) dX3_joins_89 (by decide) ?_
              obtain rfl := Option.some.inj h
              exact mw_zret dX3_joins_93 rfl (Or.inr rfl) (Nat.le_of_ble_eq_true rfl) (Nat.le_refl 0) (mh_retz_rfl (Or.inr rfl))
        · replace h := mh_ifn hc8 h
          refine mw_tableOut (tgt := 94) dX3_joins_1 (by have e0 := mh_ne (n := 0) hc1 (by decide); have e1 := mh_ne (n := 1) hc3 (by decide); have e2 := mh_ne (n := 2) hc5 (by decide); have e3 := mh_ne (n := 3) hc8 (by decide); omega) (by decide) ?_
          refine mw_iload_n dX3_joins_94 1 rfl ?_
          refine mw_bipush (v := 42) dX3_joins_95 (by decide) ?_
          refine mw_icmp_ne (tgt := 104) dX3_joins_97 (by decide) (fun hc11 => ?_) (fun hc11 => ?_)
          · replace h := mh_ifn hc11 h
            refine mw_iconst (v := 0) dX3_joins_104 (by decide) ?_
            obtain rfl := Option.some.inj h
            exact mw_zret dX3_joins_105 rfl (Or.inl rfl) (Nat.le_of_ble_eq_true rfl) (Nat.le_refl 0) (mh_retz_rfl (Or.inl rfl))
          · replace h := mh_ifp hc11 h
            refine mw_iconst (v := 1) dX3_joins_100 (by decide) ?_
            refine mw_goto (tgt := 105) dX3_joins_101 (by decide) ?_
            obtain rfl := Option.some.inj h
            exact mw_zret dX3_joins_105 rfl (Or.inr rfl) (Nat.le_of_ble_eq_true rfl) (Nat.le_refl 0) (mh_retz_rfl (Or.inr rfl))
