abbrev w_J13_bitCount_95d88 (sh : List mh_C) (Φ : mh_P) (I : mh_I) (L : mh_L) (pc : Nat) (lv : List (Nat × Value)) (st : List Value) : Prop := mh_W RJ13 cJ13_bitCount_95d88 2 (some .int) false (mh_rm 0) sh.length 0 0 mh_noX Φ 0 sh I L pc lv st
def J13_bitCount_95d88 (p0 : Int64) : Option (Int32) := mh_b (p0 - ((mh_ushrl p0 (1 : Int32)) &&& (6148914691236517205 : Int64))) (fun b1 => mh_b ((b1 &&& (3689348814741910323 : Int64)) + ((mh_ushrl b1 (2 : Int32)) &&& (3689348814741910323 : Int64))) (fun b2 => mh_b ((b2 + (mh_ushrl b2 (4 : Int32))) &&& (1085102592571150095 : Int64)) (fun b3 => mh_b (b3 + (mh_ushrl b3 (8 : Int32))) (fun b4 => mh_b (b4 + (mh_ushrl b4 (16 : Int32))) (fun b5 => mh_b (b5 + (mh_ushrl b5 (32 : Int32))) (fun b6 => some ((b6.toInt32) &&& (127 : Int32))))))))
set_option maxHeartbeats 4000000 in
set_option maxRecDepth 100000 in
theorem t_J13_bitCount_95d88 {sh : List mh_C} {L : mh_L} {I : mh_I} {p0 : Int64} {res : Int32} (h : J13_bitCount_95d88 p0 = some res) : mh_CT yJ13_bitCount_95d88 cJ13_bitCount_95d88 2 (some .int) (mh_rm 0) sh I L [.long p0] (mh_ret (some (.int res)) sh I L) := by
  refine mh_ofW (ini := false) RJ13 rfl (by decide) (fun h => by cases h) (Nat.le_of_ble_eq_true rfl) ?_
  show w_J13_bitCount_95d88 sh (mh_ret (some (.int res)) sh I L) I L 0 [(0, .long p0)] []
  unfold J13_bitCount_95d88 at h
  refine mw_lload_n dJ13_bitCount_95d88_0 0 rfl ?_
  refine mw_lload_n dJ13_bitCount_95d88_1 0 rfl ?_
  refine mw_iconst (v := 1) dJ13_bitCount_95d88_2 (by decide) ?_
  refine mw_lushr dJ13_bitCount_95d88_3 ?_
  refine mw_ldc2 dJ13_bitCount_95d88_4 wd_122 ?_
  refine mw_land dJ13_bitCount_95d88_7 ?_
  refine mw_lsub dJ13_bitCount_95d88_8 ?_
  obtain ⟨b1, eb1, h⟩ := mh_b_some h
  refine mw_nml eb1 ?_
  refine mw_lstore_n dJ13_bitCount_95d88_9 (by decide) rfl ?_
  refine mw_lload_n dJ13_bitCount_95d88_10 0 rfl ?_
  refine mw_ldc2 dJ13_bitCount_95d88_11 wd_123 ?_
  refine mw_land dJ13_bitCount_95d88_14 ?_
  refine mw_lload_n dJ13_bitCount_95d88_15 0 rfl ?_
  refine mw_iconst (v := 2) dJ13_bitCount_95d88_16 (by decide) ?_
  refine mw_lushr dJ13_bitCount_95d88_17 ?_
  refine mw_ldc2 dJ13_bitCount_95d88_18 wd_123 ?_
  refine mw_land dJ13_bitCount_95d88_21 ?_
  refine mw_ladd dJ13_bitCount_95d88_22 ?_
  obtain ⟨b2, eb2, h⟩ := mh_b_some h
  refine mw_nml eb2 ?_
  refine mw_lstore_n dJ13_bitCount_95d88_23 (by decide) rfl ?_
  refine mw_lload_n dJ13_bitCount_95d88_24 0 rfl ?_
  refine mw_lload_n dJ13_bitCount_95d88_25 0 rfl ?_
  refine mw_iconst (v := 4) dJ13_bitCount_95d88_26 (by decide) ?_
  refine mw_lushr dJ13_bitCount_95d88_27 ?_
  refine mw_ladd dJ13_bitCount_95d88_28 ?_
  refine mw_ldc2 dJ13_bitCount_95d88_29 wd_124 ?_
  refine mw_land dJ13_bitCount_95d88_32 ?_
  obtain ⟨b3, eb3, h⟩ := mh_b_some h
  refine mw_nml eb3 ?_
  refine mw_lstore_n dJ13_bitCount_95d88_33 (by decide) rfl ?_
  refine mw_lload_n dJ13_bitCount_95d88_34 0 rfl ?_
  refine mw_lload_n dJ13_bitCount_95d88_35 0 rfl ?_
  refine mw_bipush (v := 8) dJ13_bitCount_95d88_36 (by decide) ?_
  refine mw_lushr dJ13_bitCount_95d88_38 ?_
  refine mw_ladd dJ13_bitCount_95d88_39 ?_
  obtain ⟨b4, eb4, h⟩ := mh_b_some h
  refine mw_nml eb4 ?_
  refine mw_lstore_n dJ13_bitCount_95d88_40 (by decide) rfl ?_
  refine mw_lload_n dJ13_bitCount_95d88_41 0 rfl ?_
  refine mw_lload_n dJ13_bitCount_95d88_42 0 rfl ?_
  refine mw_bipush (v := 16) dJ13_bitCount_95d88_43 (by decide) ?_
  refine mw_lushr dJ13_bitCount_95d88_45 ?_
  refine mw_ladd dJ13_bitCount_95d88_46 ?_
  obtain ⟨b5, eb5, h⟩ := mh_b_some h
  refine mw_nml eb5 ?_
  refine mw_lstore_n dJ13_bitCount_95d88_47 (by decide) rfl ?_
  refine mw_lload_n dJ13_bitCount_95d88_48 0 rfl ?_
  refine mw_lload_n dJ13_bitCount_95d88_49 0 rfl ?_
  refine mw_bipush (v := 32) dJ13_bitCount_95d88_50 (by decide) ?_
  refine mw_lushr dJ13_bitCount_95d88_52 ?_
  refine mw_ladd dJ13_bitCount_95d88_53 ?_
  obtain ⟨b6, eb6, h⟩ := mh_b_some h
  refine mw_nml eb6 ?_
  refine mw_lstore_n dJ13_bitCount_95d88_54 (by decide) rfl ?_
  refine mw_lload_n dJ13_bitCount_95d88_55 0 rfl ?_
  refine mw_l2i dJ13_bitCount_95d88_56 ?_
  refine mw_bipush (v := 127) dJ13_bitCount_95d88_57 (by decide) ?_
  refine mw_iand dJ13_bitCount_95d88_59 ?_
  obtain rfl := Option.some.inj h
  exact mw_iret dJ13_bitCount_95d88_60 rfl rfl (by rw [Nat.sub_self]; exact Nat.le_refl 0) (Nat.le_refl 0) mh_ret_rfl
abbrev w_J0_coder_7d493 (sh : List mh_C) (Φ : mh_P) (I : mh_I) (L : mh_L) (pc : Nat) (lv : List (Nat × Value)) (st : List Value) : Prop := mh_W RJ0 cJ0_coder_7d493 1 (some .byte) false (mh_rm 0) sh.length 0 0 mh_noX Φ 0 sh I L pc lv st
def J0_coder_7d493 (o : Nat) : Option (Int32) := if (1 : Int32) = 0 then some (1 : Int32) else some (0 : Int32)
set_option maxHeartbeats 4000000 in
set_option maxRecDepth 100000 in
theorem t_J0_coder_7d493 {sh : List mh_C} {L : mh_L} {I : mh_I} {o : Nat} (ho : o < 5) {res : Int32} (h : J0_coder_7d493 o = some res) : mh_CT yJ0_coder_7d493 cJ0_coder_7d493 1 (some .byte) (mh_rm 0) sh I L [.ref (1000 + o)] (mh_ret (some (.int res)) sh I L) := by
  refine mh_ofW (ini := false) RJ0 rfl (by decide) (fun h => by cases h) (Nat.le_of_ble_eq_true rfl) ?_
  show w_J0_coder_7d493 sh (mh_ret (some (.int res)) sh I L) I L 0 [(0, .ref (1000 + o))] []
  unfold J0_coder_7d493 at h
  refine mw_getsC wd_303 dJ0_coder_7d493_0 ?_
  refine mw_if_eq (tgt := 13) dJ0_coder_7d493_3 (by decide) (fun hc1 => ?_) (fun hc1 => ?_)
  · replace h := mh_ifp hc1 h
    refine mw_iconst (v := 1) dJ0_coder_7d493_13 (by decide) ?_
    obtain rfl := Option.some.inj h
    exact mw_iret dJ0_coder_7d493_14 rfl rfl (by rw [Nat.sub_self]; exact Nat.le_refl 0) (Nat.le_refl 0) mh_ret_rfl
  · replace h := mh_ifn hc1 h
    refine mw_aload_n dJ0_coder_7d493_6 0 rfl ?_
    refine mw_strc (i := o) ho wd_664 dJ0_coder_7d493_7 ?_
    refine mw_goto (tgt := 14) dJ0_coder_7d493_10 (by decide) ?_
    obtain rfl := Option.some.inj h
    exact mw_iret dJ0_coder_7d493_14 rfl rfl (by rw [Nat.sub_self]; exact Nat.le_refl 0) (Nat.le_refl 0) mh_ret_rfl
abbrev w_J0_length_8abf5 (sh : List mh_C) (Φ : mh_P) (I : mh_I) (L : mh_L) (pc : Nat) (lv : List (Nat × Value)) (st : List Value) : Prop := mh_W RJ0 cJ0_length_8abf5 1 (some .int) false (mh_rm 1) sh.length 0 0 mh_noX Φ 0 sh I L pc lv st
def J0_length_8abf5 (o : Nat) : Option (Int32) := (J0_coder_7d493 o).bind (fun q1 => some ((nI (mh_len.getD o 0)) >>> (q1 &&& 31)))
set_option maxHeartbeats 4000000 in
set_option maxRecDepth 100000 in
theorem t_J0_length_8abf5 {sh : List mh_C} {L : mh_L} {I : mh_I} {o : Nat} (ho : o < 5) {res : Int32} (h : J0_length_8abf5 o = some res) : mh_CT yJ0_length_8abf5 cJ0_length_8abf5 1 (some .int) (mh_rm 1) sh I L [.ref (1000 + o)] (mh_ret (some (.int res)) sh I L) := by
  refine mh_ofW (ini := false) RJ0 rfl (by decide) (fun h => by cases h) (Nat.le_of_ble_eq_true rfl) ?_
  show w_J0_length_8abf5 sh (mh_ret (some (.int res)) sh I L) I L 0 [(0, .ref (1000 + o))] []
  unfold J0_length_8abf5 at h
  refine mw_aload_n dJ0_length_8abf5_0 0 rfl ?_
  refine mw_strv (i := o) ho wd_663 dJ0_length_8abf5_1 ?_
  refine mw_blen (i := o) ho dJ0_length_8abf5_4 ?_
  refine mw_aload_n dJ0_length_8abf5_5 0 rfl ?_
  obtain ⟨q1, hq1, h⟩ := mh_bind h
  refine mw_tr (dc := 0) (i := o) ho cv_J0_335 wd_302 dJ0_length_8abf5_6 [] [.ref (1000 + o), .int (nI (mh_len.getD o 0))] rfl rfl rfl (t_J0_coder_7d493 ho hq1) ⟨by decide, by decide⟩ (Nat.le_of_ble_eq_true rfl) ⟨rfl, rfl⟩ ?_
  refine mw_ishr dJ0_length_8abf5_9 ?_
  obtain rfl := Option.some.inj h
  exact mw_iret dJ0_length_8abf5_10 rfl rfl (by rw [Nat.sub_self]; exact Nat.le_refl 0) (Nat.le_refl 0) mh_ret_rfl
abbrev w_J0_isLatin1_aae02 (sh : List mh_C) (Φ : mh_P) (I : mh_I) (L : mh_L) (pc : Nat) (lv : List (Nat × Value)) (st : List Value) : Prop := mh_W RJ0 cJ0_isLatin1_aae02 1 (some .boolean) false (mh_rm 0) sh.length 0 0 mh_noX Φ 0 sh I L pc lv st
def J0_isLatin1_aae02 (o : Nat) : Option (Int32) := if (1 : Int32) = 0 then some (0 : Int32) else if (0 : Int32) = 0 then some (1 : Int32) else some (0 : Int32)
set_option maxHeartbeats 4000000 in
set_option maxRecDepth 100000 in
theorem t_J0_isLatin1_aae02 {sh : List mh_C} {L : mh_L} {I : mh_I} {o : Nat} (ho : o < 5) {res : Int32} (h : J0_isLatin1_aae02 o = some res) : mh_CT yJ0_isLatin1_aae02 cJ0_isLatin1_aae02 1 (some .boolean) (mh_rm 0) sh I L [.ref (1000 + o)] (mh_retz res sh I L) := by
  refine mh_ofW (ini := false) RJ0 rfl (by decide) (fun h => by cases h) (Nat.le_of_ble_eq_true rfl) ?_
  show w_J0_isLatin1_aae02 sh (mh_retz res sh I L) I L 0 [(0, .ref (1000 + o))] []
  unfold J0_isLatin1_aae02 at h
  refine mw_getsC wd_303 dJ0_isLatin1_aae02_0 ?_
  refine mw_if_eq (tgt := 17) dJ0_isLatin1_aae02_3 (by decide) (fun hc2 => ?_) (fun hc2 => ?_)
  · replace h := mh_ifp hc2 h
    refine mw_iconst (v := 0) dJ0_isLatin1_aae02_17 (by decide) ?_
    obtain rfl := Option.some.inj h
    exact mw_zret dJ0_isLatin1_aae02_18 rfl (Or.inl rfl) (by rw [Nat.sub_self]; exact Nat.le_refl 0) (Nat.le_refl 0) (mh_retz_rfl (Or.inl rfl))
  · replace h := mh_ifn hc2 h
    refine mw_aload_n dJ0_isLatin1_aae02_6 0 rfl ?_
    refine mw_strc (i := o) ho wd_664 dJ0_isLatin1_aae02_7 ?_
    refine mw_if_ne (tgt := 17) dJ0_isLatin1_aae02_10 (by decide) (fun hc1 => ?_) (fun hc1 => ?_)
    · replace h := mh_ifn hc1 h
      refine mw_iconst (v := 0) dJ0_isLatin1_aae02_17 (by decide) ?_
      obtain rfl := Option.some.inj h
      exact mw_zret dJ0_isLatin1_aae02_18 rfl (Or.inl rfl) (by rw [Nat.sub_self]; exact Nat.le_refl 0) (Nat.le_refl 0) (mh_retz_rfl (Or.inl rfl))
    · replace h := mh_ifp hc1 h
      refine mw_iconst (v := 1) dJ0_isLatin1_aae02_13 (by decide) ?_
      refine mw_goto (tgt := 18) dJ0_isLatin1_aae02_14 (by decide) ?_
      obtain rfl := Option.some.inj h
      exact mw_zret dJ0_isLatin1_aae02_18 rfl (Or.inr rfl) (by rw [Nat.sub_self]; exact Nat.le_refl 0) (Nat.le_refl 0) (mh_retz_rfl (Or.inr rfl))
abbrev w_J3_checkIndex_8e157 (sh : List mh_C) (Φ : mh_P) (I : mh_I) (L : mh_L) (pc : Nat) (lv : List (Nat × Value)) (st : List Value) : Prop := mh_W RJ3 cJ3_checkIndex_8e157 3 (some .int) false (mh_rm 1) sh.length 0 0 mh_noX Φ 0 sh I L pc lv st
def J3_checkIndex_8e157 (p0 : Int32) (p1 : Int32) : Option (Int32) := mh_j (none) (fun J1 => if p0 < 0 then J1 else if p0 < p1 then some p0 else J1)
set_option maxHeartbeats 4000000 in
set_option maxRecDepth 100000 in
theorem t_J3a {sh : List mh_C} {L : mh_L} {I : mh_I} {p0 : Int32} {p1 : Int32} {res : Int32} (h : J3_checkIndex_8e157 p0 p1 = some res) : mh_CT yJ3_checkIndex_8e157 cJ3_checkIndex_8e157 3 (some .int) (mh_rm 1) sh I L [.int p0, .int p1, (.ref 1020)] (mh_ret (some (.int res)) sh I L) := by
  refine mh_ofW (ini := false) RJ3 rfl (by decide) (fun h => by cases h) (Nat.le_of_ble_eq_true rfl) ?_
  show w_J3_checkIndex_8e157 sh (mh_ret (some (.int res)) sh I L) I L 0 [(0, .int p0), (1, .int p1), (2, (.ref 1020))] []
  unfold J3_checkIndex_8e157 at h
  refine mw_iload_n dJ3_checkIndex_8e157_0 0 rfl ?_
  refine mh_jw (fun J1 => J1 = some res → w_J3_checkIndex_8e157 sh (mh_ret (some (.int res)) sh I L) I L 9 [(0, .int p0), (1, .int p1), (2, (.ref 1020))] []) h (fun h => ?_) (fun J1 hJ1 h => ?_)
  · cases h
  · refine mw_if_lt (tgt := 9) dJ3_checkIndex_8e157_1 (by decide) (fun hc3 => ?_) (fun hc3 => ?_)
    · replace h := mh_ifp hc3 h
      refine mw_loc [0, 1, 2] rfl ?_
      exact hJ1  h
    · replace h := mh_ifn hc3 h
      refine mw_iload_n dJ3_checkIndex_8e157_4 0 rfl ?_
      refine mw_iload_n dJ3_checkIndex_8e157_5 1 rfl ?_
      refine mw_icmp_lt (tgt := 16) dJ3_checkIndex_8e157_6 (by decide) (fun hc2 => ?_) (fun hc2 => ?_)
      · replace h := mh_ifp hc2 h
        refine mw_iload_n dJ3_checkIndex_8e157_16 0 rfl ?_
        obtain rfl := Option.some.inj h
        exact mw_iret dJ3_checkIndex_8e157_17 rfl rfl (by rw [Nat.sub_self]; exact Nat.le_refl 0) (Nat.le_refl 0) mh_ret_rfl
      · replace h := mh_ifn hc2 h
        refine mw_loc [0, 1, 2] rfl ?_
        exact hJ1  h
set_option maxHeartbeats 4000000 in
set_option maxRecDepth 100000 in
theorem t_J3n {sh : List mh_C} {L : mh_L} {I : mh_I} {p0 : Int32} {p1 : Int32} {res : Int32} (h : J3_checkIndex_8e157 p0 p1 = some res) : mh_CT yJ3_checkIndex_8e157 cJ3_checkIndex_8e157 3 (some .int) (mh_rm 1) sh I L [.int p0, .int p1, .null] (mh_ret (some (.int res)) sh I L) := by
  refine mh_ofW (ini := false) RJ3 rfl (by decide) (fun h => by cases h) (Nat.le_of_ble_eq_true rfl) ?_
  show w_J3_checkIndex_8e157 sh (mh_ret (some (.int res)) sh I L) I L 0 [(0, .int p0), (1, .int p1), (2, .null)] []
  unfold J3_checkIndex_8e157 at h
  refine mw_iload_n dJ3_checkIndex_8e157_0 0 rfl ?_
  refine mh_jw (fun J1 => J1 = some res → w_J3_checkIndex_8e157 sh (mh_ret (some (.int res)) sh I L) I L 9 [(0, .int p0), (1, .int p1), (2, .null)] []) h (fun h => ?_) (fun J1 hJ1 h => ?_)
  · cases h
  · refine mw_if_lt (tgt := 9) dJ3_checkIndex_8e157_1 (by decide) (fun hc3 => ?_) (fun hc3 => ?_)
    · replace h := mh_ifp hc3 h
      refine mw_loc [0, 1, 2] rfl ?_
      exact hJ1  h
    · replace h := mh_ifn hc3 h
      refine mw_iload_n dJ3_checkIndex_8e157_4 0 rfl ?_
      refine mw_iload_n dJ3_checkIndex_8e157_5 1 rfl ?_
      refine mw_icmp_lt (tgt := 16) dJ3_checkIndex_8e157_6 (by decide) (fun hc2 => ?_) (fun hc2 => ?_)
      · replace h := mh_ifp hc2 h
        refine mw_iload_n dJ3_checkIndex_8e157_16 0 rfl ?_
        obtain rfl := Option.some.inj h
        exact mw_iret dJ3_checkIndex_8e157_17 rfl rfl (by rw [Nat.sub_self]; exact Nat.le_refl 0) (Nat.le_refl 0) mh_ret_rfl
      · replace h := mh_ifn hc2 h
        refine mw_loc [0, 1, 2] rfl ?_
        exact hJ1  h
theorem t_J3_checkIndex_8e157 {sh : List mh_C} {L : mh_L} {I : mh_I} {p0 : Int32} {p1 : Int32} {w : Value} (hw : w = .null ∨ w = .ref 1020) {res : Int32} (h : J3_checkIndex_8e157 p0 p1 = some res) : mh_CT yJ3_checkIndex_8e157 cJ3_checkIndex_8e157 3 (some .int) (mh_rm 1) sh I L [.int p0, .int p1, w] (mh_ret (some (.int res)) sh I L) := by
  rcases hw with rfl | rfl
  · exact t_J3n h
  · exact t_J3a h
abbrev w_J0_checkIndex_df160 (sh : List mh_C) (Φ : mh_P) (I : mh_I) (L : mh_L) (pc : Nat) (lv : List (Nat × Value)) (st : List Value) : Prop := mh_W RJ0 cJ0_checkIndex_df160 2 none false (mh_rm 2) sh.length 0 0 mh_noX Φ 0 sh I L pc lv st
def J0_checkIndex_df160 (p0 : Int32) (p1 : Int32) : Option (Unit) := (J3_checkIndex_8e157 p0 p1).bind (fun q2 => some ())
set_option maxHeartbeats 4000000 in
set_option maxRecDepth 100000 in
theorem t_J0_checkIndex_df160 {sh : List mh_C} {L : mh_L} {I : mh_I} {p0 : Int32} {p1 : Int32} {res : Unit} (h : J0_checkIndex_df160 p0 p1 = some res) : mh_CT yJ0_checkIndex_df160 cJ0_checkIndex_df160 2 none (mh_rm 2) sh I L [.int p0, .int p1] (mh_ret none sh I L) := by
  refine mh_ofW (ini := false) RJ0 rfl (by decide) (fun h => by cases h) (Nat.le_of_ble_eq_true rfl) ?_
  show w_J0_checkIndex_df160 sh (mh_ret none sh I L) I L 0 [(0, .int p0), (1, .int p1)] []
  unfold J0_checkIndex_df160 at h
  refine mw_iload_n dJ0_checkIndex_df160_0 0 rfl ?_
  refine mw_iload_n dJ0_checkIndex_df160_1 1 rfl ?_
  refine mw_getsF wd_319 dJ0_checkIndex_df160_2 (fun w1 hw1 => ?_)
  obtain ⟨q2, hq2, h⟩ := mh_bind h
  refine mw_sr (dc := 1) cs_J0_1059 wd_323 dJ0_checkIndex_df160_5 [.int p0, .int p1, w1] [w1, .int p1, .int p0] rfl rfl (t_J3_checkIndex_8e157 hw1 hq2) ⟨by decide, by decide⟩ (Nat.le_of_ble_eq_true rfl) ⟨rfl, rfl⟩ ?_
  refine mw_pop dJ0_checkIndex_df160_8 rfl ?_
  obtain rfl := Option.some.inj h
  exact mw_vret dJ0_checkIndex_df160_9 rfl (by rw [Nat.sub_self]; exact Nat.le_refl 0) (Nat.le_refl 0) mh_ret_rfl
abbrev w_J1_charAt_3b067 (sh : List mh_C) (Φ : mh_P) (I : mh_I) (L : mh_L) (pc : Nat) (lv : List (Nat × Value)) (st : List Value) : Prop := mh_W RJ1 cJ1_charAt_3b067 2 (some .char) false (mh_rm 3) sh.length 0 0 mh_noX Φ 0 sh I L pc lv st
def J1_charAt_3b067 (p0 : Nat) (p1 : Int32) : Option (Int32) := (J0_checkIndex_df160 p1 (nI (mh_len.getD p0 0))).bind (fun q1 => mh_ix p1 (mh_len.getD p0 0) (fun k2 => some (((((mh_byt.getD p0 []).getD k2 0) &&& (255 : Int32)).toUInt32 % 65536).toInt32)))
set_option maxHeartbeats 4000000 in
set_option maxRecDepth 100000 in
theorem t_J1_charAt_3b067 {sh : List mh_C} {L : mh_L} {I : mh_I} {p0 : Nat} {p1 : Int32} (hf0 : p0 < 5) {res : Int32} (h : J1_charAt_3b067 p0 p1 = some res) : mh_CT yJ1_charAt_3b067 cJ1_charAt_3b067 2 (some .char) (mh_rm 3) sh I L [.ref (1010 + p0), .int p1] (mh_ret (some (.int res)) sh I L) := by
  refine mh_ofW (ini := false) RJ1 rfl (by decide) (fun h => by cases h) (Nat.le_of_ble_eq_true rfl) ?_
  show w_J1_charAt_3b067 sh (mh_ret (some (.int res)) sh I L) I L 0 [(0, .ref (1010 + p0)), (1, .int p1)] []
  unfold J1_charAt_3b067 at h
  refine mw_iload_n dJ1_charAt_3b067_0 1 rfl ?_
  refine mw_aload_n dJ1_charAt_3b067_1 0 rfl ?_
  refine mw_blen (i := p0) hf0 dJ1_charAt_3b067_2 ?_
  obtain ⟨q1, hq1, h⟩ := mh_bind h
  refine mw_sv (dc := 2) cs_J1_9 wd_318 dJ1_charAt_3b067_3 [.int p1, .int (nI (mh_len.getD p0 0))] [.int (nI (mh_len.getD p0 0)), .int p1] rfl rfl (t_J0_checkIndex_df160 hq1) ⟨by decide, by decide⟩ (Nat.le_of_ble_eq_true rfl) ⟨rfl, rfl⟩ ?_
  refine mw_aload_n dJ1_charAt_3b067_6 0 rfl ?_
  refine mw_iload_n dJ1_charAt_3b067_7 1 rfl ?_
  obtain ⟨k2, hk3, hk3n, hk3l, h⟩ := mh_ix_some h
  subst hk3
  refine mw_bald (i := p0) hf0 hk3n dJ1_charAt_3b067_8 ?_
  refine mw_sipush (v := 255) dJ1_charAt_3b067_9 (by decide) ?_
  refine mw_iand dJ1_charAt_3b067_12 ?_
  refine mw_i2c dJ1_charAt_3b067_13 ?_
  obtain rfl := Option.some.inj h
  exact mw_iret dJ1_charAt_3b067_14 rfl (pk_nc _) (by rw [Nat.sub_self]; exact Nat.le_refl 0) (Nat.le_refl 0) mh_ret_rfl
theorem J1_nch {p i : Nat} {x q : Int32} (h : J1_charAt_3b067 p x = some q) : narrow .char (.int q) = .int q := by
  unfold J1_charAt_3b067 at h
  obtain ⟨u, hu, h⟩ := mh_bind h
  obtain ⟨k, hk, hkn, hkl, h⟩ := mh_ix_some h
  cases h
  exact pk_nc _
abbrev w_J0_charAt_5068e (sh : List mh_C) (Φ : mh_P) (I : mh_I) (L : mh_L) (pc : Nat) (lv : List (Nat × Value)) (st : List Value) : Prop := mh_W RJ0 cJ0_charAt_5068e 2 (some .char) false (mh_rm 4) sh.length 0 0 mh_noX Φ 0 sh I L pc lv st
def J0_charAt_5068e (o : Nat) (p1 : Int32) : Option (Int32) := (J0_isLatin1_aae02 o).bind (fun q1 => if q1 = 0 then none else (J1_charAt_3b067 o p1).bind (fun q2 => some q2))
set_option maxHeartbeats 4000000 in
set_option maxRecDepth 100000 in
theorem t_J0_charAt_5068e {sh : List mh_C} {L : mh_L} {I : mh_I} {o : Nat} {p1 : Int32} (ho : o < 5) {res : Int32} (h : J0_charAt_5068e o p1 = some res) : mh_CT yJ0_charAt_5068e cJ0_charAt_5068e 2 (some .char) (mh_rm 4) sh I L [.ref (1000 + o), .int p1] (mh_ret (some (.int res)) sh I L) := by
  refine mh_ofW (ini := false) RJ0 rfl (by decide) (fun h => by cases h) (Nat.le_of_ble_eq_true rfl) ?_
  show w_J0_charAt_5068e sh (mh_ret (some (.int res)) sh I L) I L 0 [(0, .ref (1000 + o)), (1, .int p1)] []
  unfold J0_charAt_5068e at h
  refine mw_aload_n dJ0_charAt_5068e_0 0 rfl ?_
  obtain ⟨q1, hq1, h⟩ := mh_bind h
  refine mw_tz (dc := 0) (i := o) ho cv_J0_492 wd_312 dJ0_charAt_5068e_1 [] [.ref (1000 + o)] rfl rfl rfl (t_J0_isLatin1_aae02 ho hq1) ⟨by decide, by decide⟩ (Nat.le_of_ble_eq_true rfl) ⟨rfl, rfl⟩ (fun zq1 => ?_)
  refine mw_if_eq (tgt := 16) dJ0_charAt_5068e_4 (by decide) (fun hc3 => ?_) (fun hc3 => ?_)
  · replace h := mh_ifp hc3 h
    cases h
  · replace h := mh_ifn hc3 h
    refine mw_aload_n dJ0_charAt_5068e_7 0 rfl ?_
    refine mw_strv (i := o) ho wd_663 dJ0_charAt_5068e_8 ?_
    refine mw_iload_n dJ0_charAt_5068e_11 1 rfl ?_
    obtain ⟨q2, hq2, h⟩ := mh_bind h
    refine mw_sr (dc := 3) cs_J0_495 wd_315 dJ0_charAt_5068e_12 [.ref (1010 + o), .int p1] [.int p1, .ref (1010 + o)] rfl rfl (t_J1_charAt_3b067 ho hq2) ⟨by decide, by decide⟩ (Nat.le_of_ble_eq_true rfl) ⟨rfl, rfl⟩ ?_
    obtain rfl := Option.some.inj h
    exact mw_iret dJ0_charAt_5068e_15 rfl (J1_nch (i := 0) hq2) (by rw [Nat.sub_self]; exact Nat.le_refl 0) (Nat.le_refl 0) mh_ret_rfl
abbrev w_J6_numberOfTrailingZeros_0f7a4 (sh : List mh_C) (Φ : mh_P) (I : mh_I) (L : mh_L) (pc : Nat) (lv : List (Nat × Value)) (st : List Value) : Prop := mh_W RJ6 cJ6_numberOfTrailingZeros_0f7a4 2 (some .int) false (mh_rm 0) sh.length 0 0 mh_noX Φ 0 sh I L pc lv st
def J6_numberOfTrailingZeros_0f7a4 (p0 : Int32) : Option (Int32) := mh_b ((p0 ^^^ (-1 : Int32)) &&& (p0 - (1 : Int32))) (fun b1 => if 0 < b1 then mh_j (fun (v2 : Int32) (v3 : Int32) => mh_j (fun (v8 : Int32) (v9 : Int32) => mh_j (fun (v14 : Int32) (v15 : Int32) => mh_j (fun (v20 : Int32) (v21 : Int32) => some (v21 + (mh_ushr v20 (1 : Int32)))) (fun J22 => if v14 ≤ (4 : Int32) then (J22 v14 v15) else mh_b (v15 + (2 : Int32)) (fun b23 => mh_b (mh_ushr v14 (2 : Int32)) (fun b24 => (J22 b24 b23))))) (fun J16 => if v8 ≤ (16 : Int32) then (J16 v8 v9) else mh_b (v9 + (4 : Int32)) (fun b17 => mh_b (mh_ushr v8 (4 : Int32)) (fun b18 => (J16 b18 b17))))) (fun J10 => if v2 ≤ (256 : Int32) then (J10 v2 v3) else mh_b (v3 + (8 : Int32)) (fun b11 => mh_b (mh_ushr v2 (8 : Int32)) (fun b12 => (J10 b12 b11))))) (fun J4 => if b1 ≤ (65536 : Int32) then (J4 b1 (1 : Int32)) else mh_b ((1 : Int32) + (16 : Int32)) (fun b5 => mh_b (mh_ushr b1 (16 : Int32)) (fun b6 => (J4 b6 b5)))) else some (b1 &&& (32 : Int32)))
set_option maxHeartbeats 4000000 in
set_option maxRecDepth 100000 in
theorem t_J6_numberOfTrailingZeros_0f7a4 {sh : List mh_C} {L : mh_L} {I : mh_I} {p0 : Int32} {res : Int32} (h : J6_numberOfTrailingZeros_0f7a4 p0 = some res) : mh_CT yJ6_numberOfTrailingZeros_0f7a4 cJ6_numberOfTrailingZeros_0f7a4 2 (some .int) (mh_rm 0) sh I L [.int p0] (mh_ret (some (.int res)) sh I L) := by
  refine mh_ofW (ini := false) RJ6 rfl (by decide) (fun h => by cases h) (Nat.le_of_ble_eq_true rfl) ?_
  show w_J6_numberOfTrailingZeros_0f7a4 sh (mh_ret (some (.int res)) sh I L) I L 0 [(0, .int p0)] []
  unfold J6_numberOfTrailingZeros_0f7a4 at h
  refine mw_iload_n dJ6_numberOfTrailingZeros_0f7a4_0 0 rfl ?_
  refine mw_iconst (v := -1) dJ6_numberOfTrailingZeros_0f7a4_1 (by decide) ?_
  refine mw_ixor dJ6_numberOfTrailingZeros_0f7a4_2 ?_
  refine mw_iload_n dJ6_numberOfTrailingZeros_0f7a4_3 0 rfl ?_
  refine mw_iconst (v := 1) dJ6_numberOfTrailingZeros_0f7a4_4 (by decide) ?_
  refine mw_isub dJ6_numberOfTrailingZeros_0f7a4_5 ?_
  refine mw_iand dJ6_numberOfTrailingZeros_0f7a4_6 ?_
  obtain ⟨b1, eb1, h⟩ := mh_b_some h
  refine mw_nmi eb1 ?_
  refine mw_istore_n dJ6_numberOfTrailingZeros_0f7a4_7 (by decide) rfl ?_
  refine mw_iload_n dJ6_numberOfTrailingZeros_0f7a4_8 0 rfl ?_
  refine mw_if_gt (tgt := 17) dJ6_numberOfTrailingZeros_0f7a4_9 (by decide) (fun hc26 => ?_) (fun hc26 => ?_)
  · replace h := mh_ifp hc26 h
    refine mw_iconst (v := 1) dJ6_numberOfTrailingZeros_0f7a4_17 (by decide) ?_
    refine mw_istore_n dJ6_numberOfTrailingZeros_0f7a4_18 (by decide) rfl ?_
    refine mw_iload_n dJ6_numberOfTrailingZeros_0f7a4_19 1 rfl ?_
    refine mw_ldcw dJ6_numberOfTrailingZeros_0f7a4_20 wd_136 ?_
    refine mh_jw (fun J4 => ∀ (v2 : Int32) (v3 : Int32), J4 v2 v3 = some res → w_J6_numberOfTrailingZeros_0f7a4 sh (mh_ret (some (.int res)) sh I L) I L 34 [(0, .int v2), (1, .int v3)] []) h (fun v2 v3 h => ?_) (fun J4 hJ4 h => ?_)
    · refine mw_iload_n dJ6_numberOfTrailingZeros_0f7a4_34 0 rfl ?_
      refine mw_sipush (v := 256) dJ6_numberOfTrailingZeros_0f7a4_35 (by decide) ?_
      refine mh_jw (fun J10 => ∀ (v8 : Int32) (v9 : Int32), J10 v8 v9 = some res → w_J6_numberOfTrailingZeros_0f7a4 sh (mh_ret (some (.int res)) sh I L) I L 49 [(0, .int v8), (1, .int v9)] []) h (fun v8 v9 h => ?_) (fun J10 hJ10 h => ?_)
      · refine mw_iload_n dJ6_numberOfTrailingZeros_0f7a4_49 0 rfl ?_
        refine mw_bipush (v := 16) dJ6_numberOfTrailingZeros_0f7a4_50 (by decide) ?_
        refine mh_jw (fun J16 => ∀ (v14 : Int32) (v15 : Int32), J16 v14 v15 = some res → w_J6_numberOfTrailingZeros_0f7a4 sh (mh_ret (some (.int res)) sh I L) I L 62 [(0, .int v14), (1, .int v15)] []) h (fun v14 v15 h => ?_) (fun J16 hJ16 h => ?_)
        · refine mw_iload_n dJ6_numberOfTrailingZeros_0f7a4_62 0 rfl ?_
          refine mw_iconst (v := 4) dJ6_numberOfTrailingZeros_0f7a4_63 (by decide) ?_
          refine mh_jw (fun J22 => ∀ (v20 : Int32) (v21 : Int32), J22 v20 v21 = some res → w_J6_numberOfTrailingZeros_0f7a4 sh (mh_ret (some (.int res)) sh I L) I L 74 [(0, .int v20), (1, .int v21)] []) h (fun v20 v21 h => ?_) (fun J22 hJ22 h => ?_)
          · refine mw_iload_n dJ6_numberOfTrailingZeros_0f7a4_74 1 rfl ?_
            refine mw_iload_n dJ6_numberOfTrailingZeros_0f7a4_75 0 rfl ?_
            refine mw_iconst (v := 1) dJ6_numberOfTrailingZeros_0f7a4_76 (by decide) ?_
            refine mw_iushr dJ6_numberOfTrailingZeros_0f7a4_77 ?_
            refine mw_iadd dJ6_numberOfTrailingZeros_0f7a4_78 ?_
            obtain rfl := Option.some.inj h
            exact mw_iret dJ6_numberOfTrailingZeros_0f7a4_79 rfl rfl (by rw [Nat.sub_self]; exact Nat.le_refl 0) (Nat.le_refl 0) mh_ret_rfl
          · refine mw_icmp_le (tgt := 74) dJ6_numberOfTrailingZeros_0f7a4_64 (by decide) (fun hc25 => ?_) (fun hc25 => ?_)
            · replace h := mh_ifp hc25 h
              refine mw_loc [0, 1] rfl ?_
              exact hJ22 _ _ h
            · replace h := mh_ifn hc25 h
              obtain ⟨b23, eb23, h⟩ := mh_b_some h
              refine mw_iinc (v := b23) dJ6_numberOfTrailingZeros_0f7a4_67 1 rfl (by rw [← eb23]; rfl) (by decide) rfl ?_
              refine mw_iload_n dJ6_numberOfTrailingZeros_0f7a4_70 1 rfl ?_
              refine mw_iconst (v := 2) dJ6_numberOfTrailingZeros_0f7a4_71 (by decide) ?_
              refine mw_iushr dJ6_numberOfTrailingZeros_0f7a4_72 ?_
              obtain ⟨b24, eb24, h⟩ := mh_b_some h
              refine mw_nmi eb24 ?_
              refine mw_istore_n dJ6_numberOfTrailingZeros_0f7a4_73 (by decide) rfl ?_
              refine mw_loc [0, 1] rfl ?_
              exact hJ22 _ _ h
        · refine mw_icmp_le (tgt := 62) dJ6_numberOfTrailingZeros_0f7a4_52 (by decide) (fun hc19 => ?_) (fun hc19 => ?_)
          · replace h := mh_ifp hc19 h
            refine mw_loc [0, 1] rfl ?_
            exact hJ16 _ _ h
          · replace h := mh_ifn hc19 h
            obtain ⟨b17, eb17, h⟩ := mh_b_some h
            refine mw_iinc (v := b17) dJ6_numberOfTrailingZeros_0f7a4_55 1 rfl (by rw [← eb17]; rfl) (by decide) rfl ?_
            refine mw_iload_n dJ6_numberOfTrailingZeros_0f7a4_58 1 rfl ?_
            refine mw_iconst (v := 4) dJ6_numberOfTrailingZeros_0f7a4_59 (by decide) ?_
            refine mw_iushr dJ6_numberOfTrailingZeros_0f7a4_60 ?_
            obtain ⟨b18, eb18, h⟩ := mh_b_some h
            refine mw_nmi eb18 ?_
            refine mw_istore_n dJ6_numberOfTrailingZeros_0f7a4_61 (by decide) rfl ?_
            refine mw_loc [0, 1] rfl ?_
            exact hJ16 _ _ h
      · refine mw_icmp_le (tgt := 49) dJ6_numberOfTrailingZeros_0f7a4_38 (by decide) (fun hc13 => ?_) (fun hc13 => ?_)
        · replace h := mh_ifp hc13 h
          refine mw_loc [0, 1] rfl ?_
          exact hJ10 _ _ h
        · replace h := mh_ifn hc13 h
          obtain ⟨b11, eb11, h⟩ := mh_b_some h
          refine mw_iinc (v := b11) dJ6_numberOfTrailingZeros_0f7a4_41 1 rfl (by rw [← eb11]; rfl) (by decide) rfl ?_
          refine mw_iload_n dJ6_numberOfTrailingZeros_0f7a4_44 1 rfl ?_
          refine mw_bipush (v := 8) dJ6_numberOfTrailingZeros_0f7a4_45 (by decide) ?_
          refine mw_iushr dJ6_numberOfTrailingZeros_0f7a4_47 ?_
          obtain ⟨b12, eb12, h⟩ := mh_b_some h
          refine mw_nmi eb12 ?_
          refine mw_istore_n dJ6_numberOfTrailingZeros_0f7a4_48 (by decide) rfl ?_
          refine mw_loc [0, 1] rfl ?_
          exact hJ10 _ _ h
    · refine mw_icmp_le (tgt := 34) dJ6_numberOfTrailingZeros_0f7a4_23 (by decide) (fun hc7 => ?_) (fun hc7 => ?_)
      · replace h := mh_ifp hc7 h
        refine mw_loc [1, 0] rfl ?_
        exact hJ4 _ _ h
      · replace h := mh_ifn hc7 h
        obtain ⟨b5, eb5, h⟩ := mh_b_some h
        refine mw_iinc (v := b5) dJ6_numberOfTrailingZeros_0f7a4_26 0 rfl (by rw [← eb5]; rfl) (by decide) rfl ?_
        refine mw_iload_n dJ6_numberOfTrailingZeros_0f7a4_29 1 rfl ?_
        refine mw_bipush (v := 16) dJ6_numberOfTrailingZeros_0f7a4_30 (by decide) ?_
        refine mw_iushr dJ6_numberOfTrailingZeros_0f7a4_32 ?_
        obtain ⟨b6, eb6, h⟩ := mh_b_some h
        refine mw_nmi eb6 ?_
        refine mw_istore_n dJ6_numberOfTrailingZeros_0f7a4_33 (by decide) rfl ?_
        refine mw_loc [0, 1] rfl ?_
        exact hJ4 _ _ h
  · replace h := mh_ifn hc26 h
    refine mw_iload_n dJ6_numberOfTrailingZeros_0f7a4_12 0 rfl ?_
    refine mw_bipush (v := 32) dJ6_numberOfTrailingZeros_0f7a4_13 (by decide) ?_
    refine mw_iand dJ6_numberOfTrailingZeros_0f7a4_15 ?_
    obtain rfl := Option.some.inj h
    exact mw_iret dJ6_numberOfTrailingZeros_0f7a4_16 rfl rfl (by rw [Nat.sub_self]; exact Nat.le_refl 0) (Nat.le_refl 0) mh_ret_rfl
abbrev w_J13_numberOfTrailingZeros_95d88 (sh : List mh_C) (Φ : mh_P) (I : mh_I) (L : mh_L) (pc : Nat) (lv : List (Nat × Value)) (st : List Value) : Prop := mh_W RJ13 cJ13_numberOfTrailingZeros_95d88 3 (some .int) false (mh_rm 1) sh.length 0 0 mh_noX Φ 0 sh I L pc lv st
def J13_numberOfTrailingZeros_95d88 (p0 : Int64) : Option (Int32) := mh_b (p0.toInt32) (fun b1 => if b1 = 0 then (J6_numberOfTrailingZeros_0f7a4 ((mh_ushrl p0 (32 : Int32)).toInt32)).bind (fun q3 => some ((32 : Int32) + q3)) else (J6_numberOfTrailingZeros_0f7a4 b1).bind (fun q2 => some q2))
set_option maxHeartbeats 4000000 in
set_option maxRecDepth 100000 in
theorem t_J13_numberOfTrailingZeros_95d88 {sh : List mh_C} {L : mh_L} {I : mh_I} {p0 : Int64} {res : Int32} (h : J13_numberOfTrailingZeros_95d88 p0 = some res) : mh_CT yJ13_numberOfTrailingZeros_95d88 cJ13_numberOfTrailingZeros_95d88 3 (some .int) (mh_rm 1) sh I L [.long p0] (mh_ret (some (.int res)) sh I L) := by
  refine mh_ofW (ini := false) RJ13 rfl (by decide) (fun h => by cases h) (Nat.le_of_ble_eq_true rfl) ?_
  show w_J13_numberOfTrailingZeros_95d88 sh (mh_ret (some (.int res)) sh I L) I L 0 [(0, .long p0)] []
  unfold J13_numberOfTrailingZeros_95d88 at h
  refine mw_lload_n dJ13_numberOfTrailingZeros_95d88_0 0 rfl ?_
  refine mw_l2i dJ13_numberOfTrailingZeros_95d88_1 ?_
  obtain ⟨b1, eb1, h⟩ := mh_b_some h
  refine mw_nmi eb1 ?_
  refine mw_istore_n dJ13_numberOfTrailingZeros_95d88_2 (by decide) rfl ?_
  refine mw_iload_n dJ13_numberOfTrailingZeros_95d88_3 0 rfl ?_
  refine mw_if_ne (tgt := 21) dJ13_numberOfTrailingZeros_95d88_4 (by decide) (fun hc4 => ?_) (fun hc4 => ?_)
  · replace h := mh_ifn hc4 h
    refine mw_iload_n dJ13_numberOfTrailingZeros_95d88_21 0 rfl ?_
    obtain ⟨q2, hq2, h⟩ := mh_bind h
    refine mw_sr (dc := 0) cs_J13_311 wd_135 dJ13_numberOfTrailingZeros_95d88_22 [.int b1] [.int b1] rfl rfl (t_J6_numberOfTrailingZeros_0f7a4 hq2) ⟨by decide, by decide⟩ (Nat.le_of_ble_eq_true rfl) ⟨rfl, rfl⟩ ?_
    obtain rfl := Option.some.inj h
    exact mw_iret dJ13_numberOfTrailingZeros_95d88_25 rfl rfl (by rw [Nat.sub_self]; exact Nat.le_refl 0) (Nat.le_refl 0) mh_ret_rfl
  · replace h := mh_ifp hc4 h
    refine mw_bipush (v := 32) dJ13_numberOfTrailingZeros_95d88_7 (by decide) ?_
    refine mw_lload_n dJ13_numberOfTrailingZeros_95d88_9 1 rfl ?_
    refine mw_bipush (v := 32) dJ13_numberOfTrailingZeros_95d88_10 (by decide) ?_
    refine mw_lushr dJ13_numberOfTrailingZeros_95d88_12 ?_
    refine mw_l2i dJ13_numberOfTrailingZeros_95d88_13 ?_
    obtain ⟨q3, hq3, h⟩ := mh_bind h
    refine mw_sr (dc := 0) cs_J13_311 wd_135 dJ13_numberOfTrailingZeros_95d88_14 [.int ((mh_ushrl p0 (32 : Int32)).toInt32)] [.int ((mh_ushrl p0 (32 : Int32)).toInt32), .int (32 : Int32)] rfl rfl (t_J6_numberOfTrailingZeros_0f7a4 hq3) ⟨by decide, by decide⟩ (Nat.le_of_ble_eq_true rfl) ⟨rfl, rfl⟩ ?_
    refine mw_iadd dJ13_numberOfTrailingZeros_95d88_17 ?_
    refine mw_goto (tgt := 25) dJ13_numberOfTrailingZeros_95d88_18 (by decide) ?_
    obtain rfl := Option.some.inj h
    exact mw_iret dJ13_numberOfTrailingZeros_95d88_25 rfl rfl (by rw [Nat.sub_self]; exact Nat.le_refl 0) (Nat.le_refl 0) mh_ret_rfl
