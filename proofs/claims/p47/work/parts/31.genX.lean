abbrev w_X5_goesThroughOwn (sh : List mh_C) (Φ : mh_P) (I : mh_I) (L : mh_L) (pc : Nat) (lv : List (Nat × Value)) (st : List Value) : Prop := mh_W RX5 cX5_goesThroughOwn 1 (some .boolean) false (mh_rm 0) 46 0 0 mh_noX Φ 0 sh I L pc lv st
def X5_goesThroughOwn (p0 : Int32) : Option (Int32) := if p0 = (2 : Int32) then some (0 : Int32) else if p0 = (4 : Int32) then some (0 : Int32) else some (1 : Int32)
set_option maxHeartbeats 4000000 in
set_option maxRecDepth 100000 in
theorem t_X5_goesThroughOwn {into : Option Nat} {L : mh_L} {I : mh_I} {p0 : Int32} {res : Int32} (h : X5_goesThroughOwn p0 = some res) : mh_CT yX5_goesThroughOwn cX5_goesThroughOwn 1 (some .boolean) (mh_rm 0) (SHX into) I L [.int p0] (mh_retz res (SHX into) I L) := by
  refine mh_ofW (ini := false) RX5 rfl (by decide) (fun h => by cases h) (Nat.le_of_ble_eq_true rfl) ?_
  show w_X5_goesThroughOwn (SHX into) (mh_retz res (SHX into) I L) I L 0 [(0, .int p0)] []
  unfold X5_goesThroughOwn at h
  refine mw_iload_n dX5_goesThroughOwn_0 0 rfl ?_
  refine mw_iconst (v := 2) dX5_goesThroughOwn_1 (by decide) ?_
  refine mw_icmp_eq (tgt := 14) dX5_goesThroughOwn_2 (by decide) (fun hc2 => ?_) (fun hc2 => ?_)
  · replace h := mh_ifp hc2 h
    refine mw_iconst (v := 0) dX5_goesThroughOwn_14 (by decide) ?_
    obtain rfl := Option.some.inj h
    exact mw_zret dX5_goesThroughOwn_15 rfl (Or.inl rfl) (Nat.le_of_ble_eq_true rfl) (Nat.le_refl 0) (mh_retz_rfl (Or.inl rfl))
  · replace h := mh_ifn hc2 h
    refine mw_iload_n dX5_goesThroughOwn_5 0 rfl ?_
    refine mw_iconst (v := 4) dX5_goesThroughOwn_6 (by decide) ?_
    refine mw_icmp_eq (tgt := 14) dX5_goesThroughOwn_7 (by decide) (fun hc1 => ?_) (fun hc1 => ?_)
    · replace h := mh_ifp hc1 h
      refine mw_iconst (v := 0) dX5_goesThroughOwn_14 (by decide) ?_
      obtain rfl := Option.some.inj h
      exact mw_zret dX5_goesThroughOwn_15 rfl (Or.inl rfl) (Nat.le_of_ble_eq_true rfl) (Nat.le_refl 0) (mh_retz_rfl (Or.inl rfl))
    · replace h := mh_ifn hc1 h
      refine mw_iconst (v := 1) dX5_goesThroughOwn_10 (by decide) ?_
      refine mw_goto (tgt := 15) dX5_goesThroughOwn_11 (by decide) ?_
      obtain rfl := Option.some.inj h
      exact mw_zret dX5_goesThroughOwn_15 rfl (Or.inr rfl) (Nat.le_of_ble_eq_true rfl) (Nat.le_refl 0) (mh_retz_rfl (Or.inr rfl))
abbrev w_X5_bit (sh : List mh_C) (Φ : mh_P) (I : mh_I) (L : mh_L) (pc : Nat) (lv : List (Nat × Value)) (st : List Value) : Prop := mh_W RX5 cX5_bit 1 (some .long) false (mh_rm 0) 46 0 0 mh_noX Φ 0 sh I L pc lv st
def X5_bit (p0 : Int32) : Option (Int64) := some ((1 : Int64) <<< (p0.toInt64 &&& 63))
set_option maxHeartbeats 4000000 in
set_option maxRecDepth 100000 in
theorem t_X5_bit {into : Option Nat} {L : mh_L} {I : mh_I} {p0 : Int32} {res : Int64} (h : X5_bit p0 = some res) : mh_CT yX5_bit cX5_bit 1 (some .long) (mh_rm 0) (SHX into) I L [.int p0] (mh_ret (some (.long res)) (SHX into) I L) := by
  refine mh_ofW (ini := false) RX5 rfl (by decide) (fun h => by cases h) (Nat.le_of_ble_eq_true rfl) ?_
  show w_X5_bit (SHX into) (mh_ret (some (.long res)) (SHX into) I L) I L 0 [(0, .int p0)] []
  unfold X5_bit at h
  refine mw_lconst (v := 1) dX5_bit_0 (by decide) ?_
  refine mw_iload_n dX5_bit_1 0 rfl ?_
  refine mw_lshl dX5_bit_2 ?_
  obtain rfl := Option.some.inj h
  exact mw_lret dX5_bit_3 rfl (Nat.le_of_ble_eq_true rfl) (Nat.le_refl 0) mh_ret_rfl
abbrev w_X5_goesThroughNext (sh : List mh_C) (Φ : mh_P) (I : mh_I) (L : mh_L) (pc : Nat) (lv : List (Nat × Value)) (st : List Value) : Prop := mh_W RX5 cX5_goesThroughNext 1 (some .boolean) false (mh_rm 0) 46 0 0 mh_noX Φ 0 sh I L pc lv st
def X5_goesThroughNext (p0 : Int32) : Option (Int32) := if p0 = (2 : Int32) then some (1 : Int32) else if p0 = (3 : Int32) then some (1 : Int32) else some (0 : Int32)
set_option maxHeartbeats 4000000 in
set_option maxRecDepth 100000 in
theorem t_X5_goesThroughNext {into : Option Nat} {L : mh_L} {I : mh_I} {p0 : Int32} {res : Int32} (h : X5_goesThroughNext p0 = some res) : mh_CT yX5_goesThroughNext cX5_goesThroughNext 1 (some .boolean) (mh_rm 0) (SHX into) I L [.int p0] (mh_retz res (SHX into) I L) := by
  refine mh_ofW (ini := false) RX5 rfl (by decide) (fun h => by cases h) (Nat.le_of_ble_eq_true rfl) ?_
  show w_X5_goesThroughNext (SHX into) (mh_retz res (SHX into) I L) I L 0 [(0, .int p0)] []
  unfold X5_goesThroughNext at h
  refine mw_iload_n dX5_goesThroughNext_0 0 rfl ?_
  refine mw_iconst (v := 2) dX5_goesThroughNext_1 (by decide) ?_
  refine mw_icmp_eq (tgt := 10) dX5_goesThroughNext_2 (by decide) (fun hc2 => ?_) (fun hc2 => ?_)
  · replace h := mh_ifp hc2 h
    refine mw_iconst (v := 1) dX5_goesThroughNext_10 (by decide) ?_
    refine mw_goto (tgt := 15) dX5_goesThroughNext_11 (by decide) ?_
    obtain rfl := Option.some.inj h
    exact mw_zret dX5_goesThroughNext_15 rfl (Or.inr rfl) (Nat.le_of_ble_eq_true rfl) (Nat.le_refl 0) (mh_retz_rfl (Or.inr rfl))
  · replace h := mh_ifn hc2 h
    refine mw_iload_n dX5_goesThroughNext_5 0 rfl ?_
    refine mw_iconst (v := 3) dX5_goesThroughNext_6 (by decide) ?_
    refine mw_icmp_ne (tgt := 14) dX5_goesThroughNext_7 (by decide) (fun hc1 => ?_) (fun hc1 => ?_)
    · replace h := mh_ifn hc1 h
      refine mw_iconst (v := 0) dX5_goesThroughNext_14 (by decide) ?_
      obtain rfl := Option.some.inj h
      exact mw_zret dX5_goesThroughNext_15 rfl (Or.inl rfl) (Nat.le_of_ble_eq_true rfl) (Nat.le_refl 0) (mh_retz_rfl (Or.inl rfl))
    · replace h := mh_ifp hc1 h
      refine mw_iconst (v := 1) dX5_goesThroughNext_10 (by decide) ?_
      refine mw_goto (tgt := 15) dX5_goesThroughNext_11 (by decide) ?_
      obtain rfl := Option.some.inj h
      exact mw_zret dX5_goesThroughNext_15 rfl (Or.inr rfl) (Nat.le_of_ble_eq_true rfl) (Nat.le_refl 0) (mh_retz_rfl (Or.inr rfl))
abbrev w_X1_over (sh : List mh_C) (Φ : mh_P) (I : mh_I) (L : mh_L) (pc : Nat) (lv : List (Nat × Value)) (st : List Value) : Prop := mh_W RX1 cX1_over 6 (some .long) false (mh_rm 1) 46 0 0 mh_noX Φ 0 sh I L pc lv st
def X1_over (o : Nat) (p1 : Int32) (I : mh_I) : Option (Int64) := mh_b (p1 + (6 : Int32)) (fun b1 => if b1 < (48 : Int32) then mh_b (b1 ^^^ (1 : Int32)) (fun b2 => mh_ix b1 48 (fun k3 => (X5_goesThroughOwn (I (o + 1) k3)).bind (fun q5 => mh_j (fun (s6 : Int64) => mh_ix b2 48 (fun k10 => (X5_goesThroughNext (I (o + 1) k10)).bind (fun q12 => if q12 = 0 then some s6 else (X5_bit b2).bind (fun q13 => some (s6 ||| q13))))) (fun J7 => if q5 = 0 then (J7 (0 : Int64)) else (X5_bit b1).bind (fun q8 => (J7 q8)))))) else some (0 : Int64))
set_option maxHeartbeats 4000000 in
set_option maxRecDepth 100000 in
theorem t_X1_over {into : Option Nat} {L : mh_L} {I : mh_I} {o : Nat} {p1 : Int32} (ho : hs_X1 (SHX into) o) {res : Int64} (h : X1_over o p1 I = some res) : mh_CT yX1_over cX1_over 6 (some .long) (mh_rm 1) (SHX into) I L [.ref o, .int p1] (mh_ret (some (.long res)) (SHX into) I L) := by
  refine mh_ofW (ini := false) RX1 rfl (by decide) (fun h => by cases h) (Nat.le_of_ble_eq_true rfl) ?_
  show w_X1_over (SHX into) (mh_ret (some (.long res)) (SHX into) I L) I L 0 [(0, .ref o), (1, .int p1)] []
  unfold X1_over at h
  refine mw_iload_n dX1_over_0 1 rfl ?_
  refine mw_bipush (v := 6) dX1_over_1 (by decide) ?_
  refine mw_iadd dX1_over_3 ?_
  obtain ⟨b1, eb1, h⟩ := mh_b_some h
  refine mw_nmi eb1 ?_
  refine mw_istore_n dX1_over_4 (by decide) rfl ?_
  refine mw_iload_n dX1_over_5 0 rfl ?_
  refine mw_bipush (v := 48) dX1_over_6 (by decide) ?_
  refine mw_icmp_lt (tgt := 13) dX1_over_8 (by decide) (fun hc15 => ?_) (fun hc15 => ?_)
  · replace h := mh_ifp hc15 h
    refine mw_iload_n dX1_over_13 0 rfl ?_
    refine mw_iconst (v := 1) dX1_over_14 (by decide) ?_
    refine mw_ixor dX1_over_15 ?_
    obtain ⟨b2, eb2, h⟩ := mh_b_some h
    refine mw_nmi eb2 ?_
    refine mw_istore_n dX1_over_16 (by decide) rfl ?_
    refine mw_aload_n dX1_over_17 2 rfl ?_
    refine mw_getr (b := (o + 1)) (fs := (fsX1 o)) gf_X1_9 dX1_over_18 ho.1 rfl ?_
    refine mw_iload_n dX1_over_21 1 rfl ?_
    obtain ⟨k3, hk4, hk4n, hk4l, h⟩ := mh_ix_some h
    refine mw_xiald dX1_over_22 ho.2.1 hk4 hk4n ?_
    obtain ⟨q5, hq5, h⟩ := mh_bind h
    refine mw_sz (dc := 0) cs_X1_39 wd_64 dX1_over_23 [.int (I (o + 1) k3)] [.int (I (o + 1) k3)] rfl rfl (t_X5_goesThroughOwn hq5) ⟨by decide, by decide⟩ (Nat.le_of_ble_eq_true rfl) ⟨rfl, rfl⟩ (fun zq5 => ?_)
    refine mh_jw (fun J7 => ∀ (s6 : Int64), J7 s6 = some res → w_X1_over (SHX into) (mh_ret (some (.long res)) (SHX into) I L) I L 37 [(0, .ref o), (3, .int b2)] [.long s6]) h (fun s6 h => ?_) (fun J7 hJ7 h => ?_)
    · refine mw_lstore dX1_over_37 (by decide) rfl ?_
      refine mw_aload_n dX1_over_39 1 rfl ?_
      refine mw_getr (b := (o + 1)) (fs := (fsX1 o)) gf_X1_9 dX1_over_40 ho.1 rfl ?_
      refine mw_iload_n dX1_over_43 2 rfl ?_
      obtain ⟨k10, hk11, hk11n, hk11l, h⟩ := mh_ix_some h
      refine mw_xiald dX1_over_44 ho.2.1 hk11 hk11n ?_
      obtain ⟨q12, hq12, h⟩ := mh_bind h
      refine mw_sz (dc := 0) cs_X1_43 wd_68 dX1_over_45 [.int (I (o + 1) k10)] [.int (I (o + 1) k10)] rfl rfl (t_X5_goesThroughNext hq12) ⟨by decide, by decide⟩ (Nat.le_of_ble_eq_true rfl) ⟨rfl, rfl⟩ (fun zq12 => ?_)
      refine mw_if_eq (tgt := 61) dX1_over_48 (by decide) (fun hc14 => ?_) (fun hc14 => ?_)
      · replace h := mh_ifp hc14 h
        refine mw_lload dX1_over_61 0 rfl ?_
        obtain rfl := Option.some.inj h
        exact mw_lret dX1_over_63 rfl (Nat.le_of_ble_eq_true rfl) (Nat.le_refl 0) mh_ret_rfl
      · replace h := mh_ifn hc14 h
        refine mw_lload dX1_over_51 0 rfl ?_
        refine mw_iload_n dX1_over_53 2 rfl ?_
        obtain ⟨q13, hq13, h⟩ := mh_bind h
        refine mw_sr (dc := 0) cs_X1_50 wd_34 dX1_over_54 [.int b2] [.int b2, .long s6] rfl rfl (t_X5_bit hq13) ⟨by decide, by decide⟩ (Nat.le_of_ble_eq_true rfl) ⟨rfl, rfl⟩ ?_
        refine mw_lor dX1_over_57 ?_
        refine mw_goto (tgt := 63) dX1_over_58 (by decide) ?_
        obtain rfl := Option.some.inj h
        exact mw_lret dX1_over_63 rfl (Nat.le_of_ble_eq_true rfl) (Nat.le_refl 0) mh_ret_rfl
    · refine mw_if_eq (tgt := 36) dX1_over_26 (by decide) (fun hc9 => ?_) (fun hc9 => ?_)
      · replace h := mh_ifp hc9 h
        refine mw_lconst (v := 0) dX1_over_36 (by decide) ?_
        refine mw_loc [2, 0] rfl ?_
        exact hJ7 _ h
      · replace h := mh_ifn hc9 h
        refine mw_iload_n dX1_over_29 1 rfl ?_
        obtain ⟨q8, hq8, h⟩ := mh_bind h
        refine mw_sr (dc := 0) cs_X1_50 wd_34 dX1_over_30 [.int b1] [.int b1] rfl rfl (t_X5_bit hq8) ⟨by decide, by decide⟩ (Nat.le_of_ble_eq_true rfl) ⟨rfl, rfl⟩ ?_
        refine mw_goto (tgt := 37) dX1_over_33 (by decide) ?_
        refine mw_loc [2, 0] rfl ?_
        exact hJ7 _ h
  · replace h := mh_ifn hc15 h
    refine mw_lconst (v := 0) dX1_over_11 (by decide) ?_
    obtain rfl := Option.some.inj h
    exact mw_lret dX1_over_12 rfl (Nat.le_of_ble_eq_true rfl) (Nat.le_refl 0) mh_ret_rfl
abbrev w_X5_hasBit (sh : List mh_C) (Φ : mh_P) (I : mh_I) (L : mh_L) (pc : Nat) (lv : List (Nat × Value)) (st : List Value) : Prop := mh_W RX5 cX5_hasBit 3 (some .boolean) false (mh_rm 0) 46 0 0 mh_noX Φ 0 sh I L pc lv st
def X5_hasBit (p0 : Int64) (p2 : Int32) : Option (Int32) := if (lg_cmp ((p0 >>> (p2.toInt64 &&& 63)) &&& (1 : Int64)) (0 : Int64)) = 0 then some (0 : Int32) else some (1 : Int32)
set_option maxHeartbeats 4000000 in
set_option maxRecDepth 100000 in
theorem t_X5_hasBit {into : Option Nat} {L : mh_L} {I : mh_I} {p0 : Int64} {p2 : Int32} {res : Int32} (h : X5_hasBit p0 p2 = some res) : mh_CT yX5_hasBit cX5_hasBit 3 (some .boolean) (mh_rm 0) (SHX into) I L [.long p0, .int p2] (mh_retz res (SHX into) I L) := by
  refine mh_ofW (ini := false) RX5 rfl (by decide) (fun h => by cases h) (Nat.le_of_ble_eq_true rfl) ?_
  show w_X5_hasBit (SHX into) (mh_retz res (SHX into) I L) I L 0 [(0, .long p0), (2, .int p2)] []
  unfold X5_hasBit at h
  refine mw_lload_n dX5_hasBit_0 0 rfl ?_
  refine mw_iload_n dX5_hasBit_1 1 rfl ?_
  refine mw_lshr dX5_hasBit_2 ?_
  refine mw_lconst (v := 1) dX5_hasBit_3 (by decide) ?_
  refine mw_land dX5_hasBit_4 ?_
  refine mw_lconst (v := 0) dX5_hasBit_5 (by decide) ?_
  refine mw_lcmp dX5_hasBit_6 ?_
  refine mw_if_eq (tgt := 14) dX5_hasBit_7 (by decide) (fun hc1 => ?_) (fun hc1 => ?_)
  · replace h := mh_ifp hc1 h
    refine mw_iconst (v := 0) dX5_hasBit_14 (by decide) ?_
    obtain rfl := Option.some.inj h
    exact mw_zret dX5_hasBit_15 rfl (Or.inl rfl) (Nat.le_of_ble_eq_true rfl) (Nat.le_refl 0) (mh_retz_rfl (Or.inl rfl))
  · replace h := mh_ifn hc1 h
    refine mw_iconst (v := 1) dX5_hasBit_10 (by decide) ?_
    refine mw_goto (tgt := 15) dX5_hasBit_11 (by decide) ?_
    obtain rfl := Option.some.inj h
    exact mw_zret dX5_hasBit_15 rfl (Or.inr rfl) (Nat.le_of_ble_eq_true rfl) (Nat.le_refl 0) (mh_retz_rfl (Or.inr rfl))
abbrev w_X1_keeps (sh : List mh_C) (Φ : mh_P) (I : mh_I) (L : mh_L) (pc : Nat) (lv : List (Nat × Value)) (st : List Value) : Prop := mh_W RX1 cX1_keeps 2 (some .boolean) false (mh_rm 1) 46 0 0 mh_noX Φ 0 sh I L pc lv st
def X1_keeps (o : Nat) (p1 : Int32) (I : mh_I) (L : mh_L) : Option (Int32) := mh_ix p1 48 (fun k1 => if (I (o + 1) k1) = (5 : Int32) then some (1 : Int32) else (X5_hasBit (L o 2) p1).bind (fun q3 => if q3 = 0 then some (0 : Int32) else some (1 : Int32)))
set_option maxHeartbeats 4000000 in
set_option maxRecDepth 100000 in
theorem t_X1_keeps {into : Option Nat} {L : mh_L} {I : mh_I} {o : Nat} {p1 : Int32} (ho : hs_X1 (SHX into) o) {res : Int32} (h : X1_keeps o p1 I L = some res) : mh_CT yX1_keeps cX1_keeps 2 (some .boolean) (mh_rm 1) (SHX into) I L [.ref o, .int p1] (mh_retz res (SHX into) I L) := by
  refine mh_ofW (ini := false) RX1 rfl (by decide) (fun h => by cases h) (Nat.le_of_ble_eq_true rfl) ?_
  show w_X1_keeps (SHX into) (mh_retz res (SHX into) I L) I L 0 [(0, .ref o), (1, .int p1)] []
  unfold X1_keeps at h
  refine mw_aload_n dX1_keeps_0 0 rfl ?_
  refine mw_getr (b := (o + 1)) (fs := (fsX1 o)) gf_X1_9 dX1_keeps_1 ho.1 rfl ?_
  refine mw_iload_n dX1_keeps_4 1 rfl ?_
  obtain ⟨k1, hk2, hk2n, hk2l, h⟩ := mh_ix_some h
  refine mw_xiald dX1_keeps_5 ho.2.1 hk2 hk2n ?_
  refine mw_iconst (v := 5) dX1_keeps_6 (by decide) ?_
  refine mw_icmp_eq (tgt := 21) dX1_keeps_7 (by decide) (fun hc5 => ?_) (fun hc5 => ?_)
  · replace h := mh_ifp hc5 h
    refine mw_iconst (v := 1) dX1_keeps_21 (by decide) ?_
    refine mw_goto (tgt := 26) dX1_keeps_22 (by decide) ?_
    obtain rfl := Option.some.inj h
    exact mw_zret dX1_keeps_26 rfl (Or.inr rfl) (Nat.le_of_ble_eq_true rfl) (Nat.le_refl 0) (mh_retz_rfl (Or.inr rfl))
  · replace h := mh_ifn hc5 h
    refine mw_aload_n dX1_keeps_10 0 rfl ?_
    refine mw_getl (fs := (fsX1 o)) gf_X1_24 dX1_keeps_11 ho.1 rfl ?_
    refine mw_iload_n dX1_keeps_14 1 rfl ?_
    obtain ⟨q3, hq3, h⟩ := mh_bind h
    refine mw_sz (dc := 0) cs_X1_35 wd_31 dX1_keeps_15 [.long (L o 2), .int p1] [.int p1, .long (L o 2)] rfl rfl (t_X5_hasBit hq3) ⟨by decide, by decide⟩ (Nat.le_of_ble_eq_true rfl) ⟨rfl, rfl⟩ (fun zq3 => ?_)
    refine mw_if_eq (tgt := 25) dX1_keeps_18 (by decide) (fun hc4 => ?_) (fun hc4 => ?_)
    · replace h := mh_ifp hc4 h
      refine mw_iconst (v := 0) dX1_keeps_25 (by decide) ?_
      obtain rfl := Option.some.inj h
      exact mw_zret dX1_keeps_26 rfl (Or.inl rfl) (Nat.le_of_ble_eq_true rfl) (Nat.le_refl 0) (mh_retz_rfl (Or.inl rfl))
    · replace h := mh_ifn hc4 h
      refine mw_iconst (v := 1) dX1_keeps_21 (by decide) ?_
      refine mw_goto (tgt := 26) dX1_keeps_22 (by decide) ?_
      obtain rfl := Option.some.inj h
      exact mw_zret dX1_keeps_26 rfl (Or.inr rfl) (Nat.le_of_ble_eq_true rfl) (Nat.le_refl 0) (mh_retz_rfl (Or.inr rfl))
abbrev w_X4_push (sh : List mh_C) (Φ : mh_P) (I : mh_I) (L : mh_L) (pc : Nat) (lv : List (Nat × Value)) (st : List Value) : Prop := mh_W RX4 cX4_push 2 none false (mh_rm 0) 46 0 0 mh_noX Φ 0 sh I L pc lv st
def X4_push (o : Nat) (p1 : Int32) (I : mh_I) : Option (mh_I) := if (40 : Int32) ≤ (I o 4) then some I else mh_ix (I o 4) 40 (fun k1 => some (mh_u (mh_u I o 4 ((I o 4) + (1 : Int32))) (o + 3) k1 p1))
set_option maxHeartbeats 4000000 in
set_option maxRecDepth 100000 in
theorem t_X4_push {into : Option Nat} {L : mh_L} {I : mh_I} {o : Nat} {p1 : Int32} (ho : hs_X4 (SHX into) o) {res : mh_I} (h : X4_push o p1 I = some res) : mh_CT yX4_push cX4_push 2 none (mh_rm 0) (SHX into) I L [.ref o, .int p1] (mh_ret none (SHX into) res L) := by
  refine mh_ofW (ini := false) RX4 rfl (by decide) (fun h => by cases h) (Nat.le_of_ble_eq_true rfl) ?_
  show w_X4_push (SHX into) (mh_ret none (SHX into) res L) I L 0 [(0, .ref o), (1, .int p1)] []
  unfold X4_push at h
  refine mw_aload_n dX4_push_0 0 rfl ?_
  refine mw_geti (fs := (fsX4 o)) gf_X4_25 dX4_push_1 ho.1 rfl ?_
  refine mw_bipush (v := 40) dX4_push_4 (by decide) ?_
  refine mw_icmp_ge (tgt := 26) dX4_push_6 (by decide) (fun hc3 => ?_) (fun hc3 => ?_)
  · replace h := mh_ifp hc3 h
    obtain rfl := Option.some.inj h
    exact mw_vret dX4_push_26 rfl (Nat.le_of_ble_eq_true rfl) (Nat.le_refl 0) mh_ret_rfl
  · replace h := mh_ifn hc3 h
    refine mw_aload_n dX4_push_9 0 rfl ?_
    refine mw_getr (b := (o + 3)) (fs := (fsX4 o)) gf_X4_18 dX4_push_10 ho.1 rfl ?_
    refine mw_aload_n dX4_push_13 0 rfl ?_
    refine mw_dup dX4_push_14 rfl ?_
    refine mw_geti (fs := (fsX4 o)) gf_X4_25 dX4_push_15 ho.1 rfl ?_
    refine mw_dup_x1 dX4_push_18 rfl rfl ?_
    refine mw_iconst (v := 1) dX4_push_19 (by decide) ?_
    refine mw_iadd dX4_push_20 ?_
    refine mw_puti (fs := (fsX4 o)) pf_X4_25 (fun h => by cases h) rfl rfl dX4_push_21 ho.1 rfl ?_
    refine mw_iload_n dX4_push_24 1 rfl ?_
    obtain ⟨k1, hk2, hk2n, hk2l, h⟩ := mh_ix_some h
    refine mw_xiast dX4_push_25 ho.2.2.2 hk2 hk2n ?_
    obtain rfl := Option.some.inj h
    exact mw_vret dX4_push_26 rfl (Nat.le_of_ble_eq_true rfl) (Nat.le_refl 0) mh_ret_rfl
abbrev w_X5_faceOf (sh : List mh_C) (Φ : mh_P) (I : mh_I) (L : mh_L) (pc : Nat) (lv : List (Nat × Value)) (st : List Value) : Prop := mh_W RX5 cX5_faceOf 1 (some .int) false (mh_rm 0) 46 0 0 mh_noX Φ 0 sh I L pc lv st
def X5_faceOf (p0 : Int32) : Option (Int32) := if p0 = (1 : Int32) then some (1 : Int32) else some (0 : Int32)
set_option maxHeartbeats 4000000 in
set_option maxRecDepth 100000 in
theorem t_X5_faceOf {into : Option Nat} {L : mh_L} {I : mh_I} {p0 : Int32} {res : Int32} (h : X5_faceOf p0 = some res) : mh_CT yX5_faceOf cX5_faceOf 1 (some .int) (mh_rm 0) (SHX into) I L [.int p0] (mh_ret (some (.int res)) (SHX into) I L) := by
  refine mh_ofW (ini := false) RX5 rfl (by decide) (fun h => by cases h) (Nat.le_of_ble_eq_true rfl) ?_
  show w_X5_faceOf (SHX into) (mh_ret (some (.int res)) (SHX into) I L) I L 0 [(0, .int p0)] []
  unfold X5_faceOf at h
  refine mw_iload_n dX5_faceOf_0 0 rfl ?_
  refine mw_iconst (v := 1) dX5_faceOf_1 (by decide) ?_
  refine mw_icmp_ne (tgt := 9) dX5_faceOf_2 (by decide) (fun hc1 => ?_) (fun hc1 => ?_)
  · replace h := mh_ifn hc1 h
    refine mw_iconst (v := 0) dX5_faceOf_9 (by decide) ?_
    obtain rfl := Option.some.inj h
    exact mw_iret dX5_faceOf_10 rfl rfl (Nat.le_of_ble_eq_true rfl) (Nat.le_refl 0) mh_ret_rfl
  · replace h := mh_ifp hc1 h
    refine mw_iconst (v := 1) dX5_faceOf_5 (by decide) ?_
    refine mw_goto (tgt := 10) dX5_faceOf_6 (by decide) ?_
    obtain rfl := Option.some.inj h
    exact mw_iret dX5_faceOf_10 rfl rfl (Nat.le_of_ble_eq_true rfl) (Nat.le_refl 0) mh_ret_rfl
abbrev w_X4_pop (sh : List mh_C) (Φ : mh_P) (I : mh_I) (L : mh_L) (pc : Nat) (lv : List (Nat × Value)) (st : List Value) : Prop := mh_W RX4 cX4_pop 1 (some .int) false (mh_rm 0) 46 0 0 mh_noX Φ 0 sh I L pc lv st
def X4_pop (o : Nat) (I : mh_I) : Option (Int32 × mh_I) := if (I o 4) ≤ 0 then some ((0 : Int32), I) else mh_ix ((I o 4) - (1 : Int32)) 40 (fun k1 => some (((mh_u I o 4 ((I o 4) - (1 : Int32))) (o + 3) k1), (mh_u I o 4 ((I o 4) - (1 : Int32)))))
set_option maxHeartbeats 4000000 in
set_option maxRecDepth 100000 in
theorem t_X4_pop {into : Option Nat} {L : mh_L} {I : mh_I} {o : Nat} (ho : hs_X4 (SHX into) o) {res : Int32 × mh_I} (h : X4_pop o I = some res) : mh_CT yX4_pop cX4_pop 1 (some .int) (mh_rm 0) (SHX into) I L [.ref o] (mh_ret (some (.int res.1)) (SHX into) res.2 L) := by
  refine mh_ofW (ini := false) RX4 rfl (by decide) (fun h => by cases h) (Nat.le_of_ble_eq_true rfl) ?_
  show w_X4_pop (SHX into) (mh_ret (some (.int res.1)) (SHX into) res.2 L) I L 0 [(0, .ref o)] []
  unfold X4_pop at h
  refine mw_aload_n dX4_pop_0 0 rfl ?_
  refine mw_geti (fs := (fsX4 o)) gf_X4_25 dX4_pop_1 ho.1 rfl ?_
  refine mw_if_le (tgt := 26) dX4_pop_4 (by decide) (fun hc3 => ?_) (fun hc3 => ?_)
  · replace h := mh_ifp hc3 h
    refine mw_iconst (v := 0) dX4_pop_26 (by decide) ?_
    obtain rfl := Option.some.inj h
    exact mw_iret dX4_pop_27 rfl rfl (Nat.le_of_ble_eq_true rfl) (Nat.le_refl 0) mh_ret_rfl
  · replace h := mh_ifn hc3 h
    refine mw_aload_n dX4_pop_7 0 rfl ?_
    refine mw_getr (b := (o + 3)) (fs := (fsX4 o)) gf_X4_18 dX4_pop_8 ho.1 rfl ?_
    refine mw_aload_n dX4_pop_11 0 rfl ?_
    refine mw_dup dX4_pop_12 rfl ?_
    refine mw_geti (fs := (fsX4 o)) gf_X4_25 dX4_pop_13 ho.1 rfl ?_
    refine mw_iconst (v := 1) dX4_pop_16 (by decide) ?_
    refine mw_isub dX4_pop_17 ?_
    refine mw_dup_x1 dX4_pop_18 rfl rfl ?_
    refine mw_puti (fs := (fsX4 o)) pf_X4_25 (fun h => by cases h) rfl rfl dX4_pop_19 ho.1 rfl ?_
    obtain ⟨k1, hk2, hk2n, hk2l, h⟩ := mh_ix_some h
    refine mw_xiald dX4_pop_22 ho.2.2.2 hk2 hk2n ?_
    refine mw_goto (tgt := 27) dX4_pop_23 (by decide) ?_
    obtain rfl := Option.some.inj h
    exact mw_iret dX4_pop_27 rfl rfl (Nat.le_of_ble_eq_true rfl) (Nat.le_refl 0) mh_ret_rfl
abbrev w_X4_joined (sh : List mh_C) (Φ : mh_P) (I : mh_I) (L : mh_L) (pc : Nat) (lv : List (Nat × Value)) (st : List Value) : Prop := mh_W RX4 cX4_joined 3 (some .int) false (mh_rm 0) 46 0 0 mh_noX Φ 0 sh I L pc lv st
def X4_joined (p0 : Int32) (p1 : Int32) (p2 : Int32) : Option (Int32) := if p0 = 42 then some (p1 * p2) else if p0 = 43 then some (p1 + p2) else if p0 = 45 then some (p1 - p2) else if p0 = 60 then if p2 ≤ p1 then some (0 : Int32) else some (1 : Int32) else if p0 = 61 then if p1 = p2 then some (1 : Int32) else some (0 : Int32) else if p0 = 304 then if p1 = 0 then some (0 : Int32) else if p2 = 0 then some (0 : Int32) else some (1 : Int32) else if p1 = 0 then if p2 = 0 then some (0 : Int32) else some (1 : Int32) else some (1 : Int32)
set_option maxHeartbeats 4000000 in
set_option maxRecDepth 100000 in
theorem t_X4_joined {into : Option Nat} {L : mh_L} {I : mh_I} {p0 : Int32} {p1 : Int32} {p2 : Int32} {res : Int32} (h : X4_joined p0 p1 p2 = some res) : mh_CT yX4_joined cX4_joined 3 (some .int) (mh_rm 0) (SHX into) I L [.int p0, .int p1, .int p2] (mh_ret (some (.int res)) (SHX into) I L) := by
  refine mh_ofW (ini := false) RX4 rfl (by decide) (fun h => by cases h) (Nat.le_of_ble_eq_true rfl) ?_
  show w_X4_joined (SHX into) (mh_ret (some (.int res)) (SHX into) I L) I L 0 [(0, .int p0), (1, .int p1), (2, .int p2)] []
  unfold X4_joined at h
  refine mw_iload_n dX4_joined_0 0 rfl ?_
  by_cases hc1 : p0 = 42
  · replace h := mh_ifp hc1 h
    refine mw_lookup (off := 67) (tgt := 68) dX4_joined_1 (by decide) (by rw [hc1]; rfl) (by decide) ?_
    refine mw_iload_n dX4_joined_68 1 rfl ?_
    refine mw_iload_n dX4_joined_69 2 rfl ?_
    refine mw_imul dX4_joined_70 ?_
    obtain rfl := Option.some.inj h
    exact mw_iret dX4_joined_71 rfl rfl (Nat.le_of_ble_eq_true rfl) (Nat.le_refl 0) mh_ret_rfl
  · replace h := mh_ifn hc1 h
    by_cases hc2 : p0 = 43
    · replace h := mh_ifp hc2 h
      refine mw_lookup (off := 59) (tgt := 60) dX4_joined_1 (by decide) (by rw [hc2]; rfl) (by decide) ?_
      refine mw_iload_n dX4_joined_60 1 rfl ?_
      refine mw_iload_n dX4_joined_61 2 rfl ?_
      refine mw_iadd dX4_joined_62 ?_
      obtain rfl := Option.some.inj h
      exact mw_iret dX4_joined_63 rfl rfl (Nat.le_of_ble_eq_true rfl) (Nat.le_refl 0) mh_ret_rfl
    · replace h := mh_ifn hc2 h
      by_cases hc3 : p0 = 45
      · replace h := mh_ifp hc3 h
        refine mw_lookup (off := 63) (tgt := 64) dX4_joined_1 (by decide) (by rw [hc3]; rfl) (by decide) ?_
        refine mw_iload_n dX4_joined_64 1 rfl ?_
        refine mw_iload_n dX4_joined_65 2 rfl ?_
        refine mw_isub dX4_joined_66 ?_
        obtain rfl := Option.some.inj h
        exact mw_iret dX4_joined_67 rfl rfl (Nat.le_of_ble_eq_true rfl) (Nat.le_refl 0) mh_ret_rfl
      · replace h := mh_ifn hc3 h
        by_cases hc4 : p0 = 60
        · replace h := mh_ifp hc4 h
          refine mw_lookup (off := 71) (tgt := 72) dX4_joined_1 (by decide) (by rw [hc4]; rfl) (by decide) ?_
          refine mw_iload_n dX4_joined_72 1 rfl ?_
          refine mw_iload_n dX4_joined_73 2 rfl ?_
          refine mw_icmp_ge (tgt := 81) dX4_joined_74 (by decide) (fun hc5 => ?_) (fun hc5 => ?_)
          · replace h := mh_ifp hc5 h
            refine mw_iconst (v := 0) dX4_joined_81 (by decide) ?_
            obtain rfl := Option.some.inj h
            exact mw_iret dX4_joined_82 rfl rfl (Nat.le_of_ble_eq_true rfl) (Nat.le_refl 0) mh_ret_rfl
          · replace h := mh_ifn hc5 h
            refine mw_iconst (v := 1) dX4_joined_77 (by decide) ?_
            refine mw_goto (tgt := 82) dX4_joined_78 (by decide) ?_
            obtain rfl := Option.some.inj h
            exact mw_iret dX4_joined_82 rfl rfl (Nat.le_of_ble_eq_true rfl) (Nat.le_refl 0) mh_ret_rfl
        · replace h := mh_ifn hc4 h
          by_cases hc6 : p0 = 61
          · replace h := mh_ifp hc6 h
            refine mw_lookup (off := 82) (tgt := 83) dX4_joined_1 (by decide) (by rw [hc6]; rfl) (by decide) ?_
            refine mw_iload_n dX4_joined_83 1 rfl ?_
            refine mw_iload_n dX4_joined_84 2 rfl ?_
            refine mw_icmp_ne (tgt := 92) dX4_joined_85 (by decide) (fun hc7 => ?_) (fun hc7 => ?_)
            · replace h := mh_ifn hc7 h
              refine mw_iconst (v := 0) dX4_joined_92 (by decide) ?_
              obtain rfl := Option.some.inj h
              exact mw_iret dX4_joined_93 rfl rfl (Nat.le_of_ble_eq_true rfl) (Nat.le_refl 0) mh_ret_rfl
            · replace h := mh_ifp hc7 h
              refine mw_iconst (v := 1) dX4_joined_88 (by decide) ?_
              refine mw_goto (tgt := 93) dX4_joined_89 (by decide) ?_
              obtain rfl := Option.some.inj h
              exact mw_iret dX4_joined_93 rfl rfl (Nat.le_of_ble_eq_true rfl) (Nat.le_refl 0) mh_ret_rfl
          · replace h := mh_ifn hc6 h
            by_cases hc8 : p0 = 304
            · replace h := mh_ifp hc8 h
              refine mw_lookup (off := 93) (tgt := 94) dX4_joined_1 (by decide) (by rw [hc8]; rfl) (by decide) ?_
              refine mw_iload_n dX4_joined_94 1 rfl ?_
              refine mw_if_eq (tgt := 106) dX4_joined_95 (by decide) (fun hc10 => ?_) (fun hc10 => ?_)
              · replace h := mh_ifp hc10 h
                refine mw_iconst (v := 0) dX4_joined_106 (by decide) ?_
                obtain rfl := Option.some.inj h
                exact mw_iret dX4_joined_107 rfl rfl (Nat.le_of_ble_eq_true rfl) (Nat.le_refl 0) mh_ret_rfl
              · replace h := mh_ifn hc10 h
                refine mw_iload_n dX4_joined_98 2 rfl ?_
                refine mw_if_eq (tgt := 106) dX4_joined_99 (by decide) (fun hc9 => ?_) (fun hc9 => ?_)
                · replace h := mh_ifp hc9 h
                  refine mw_iconst (v := 0) dX4_joined_106 (by decide) ?_
                  obtain rfl := Option.some.inj h
                  exact mw_iret dX4_joined_107 rfl rfl (Nat.le_of_ble_eq_true rfl) (Nat.le_refl 0) mh_ret_rfl
                · replace h := mh_ifn hc9 h
                  refine mw_iconst (v := 1) dX4_joined_102 (by decide) ?_
                  refine mw_goto (tgt := 107) dX4_joined_103 (by decide) ?_
                  obtain rfl := Option.some.inj h
                  exact mw_iret dX4_joined_107 rfl rfl (Nat.le_of_ble_eq_true rfl) (Nat.le_refl 0) mh_ret_rfl
            · replace h := mh_ifn hc8 h
              refine mw_lookup (off := 107) (tgt := 108) dX4_joined_1 (by decide) (by show Op.lookupswitch.offset [(42, 67), (43, 59), (45, 63), (60, 71), (61, 82), (304, 93)] 107 (p0 : Int32).toInt = 107; rw [lv_osw hc1 (by decide), lv_osw hc2 (by decide), lv_osw hc3 (by decide), lv_osw hc4 (by decide), lv_osw hc6 (by decide), lv_osw hc8 (by decide)]; rfl) (by decide) ?_
              refine mw_iload_n dX4_joined_108 1 rfl ?_
              refine mw_if_ne (tgt := 116) dX4_joined_109 (by decide) (fun hc12 => ?_) (fun hc12 => ?_)
              · replace h := mh_ifn hc12 h
                refine mw_iconst (v := 1) dX4_joined_116 (by decide) ?_
                refine mw_goto (tgt := 121) dX4_joined_117 (by decide) ?_
                obtain rfl := Option.some.inj h
                exact mw_iret dX4_joined_121 rfl rfl (Nat.le_of_ble_eq_true rfl) (Nat.le_refl 0) mh_ret_rfl
              · replace h := mh_ifp hc12 h
                refine mw_iload_n dX4_joined_112 2 rfl ?_
                refine mw_if_eq (tgt := 120) dX4_joined_113 (by decide) (fun hc11 => ?_) (fun hc11 => ?_)
                · replace h := mh_ifp hc11 h
                  refine mw_iconst (v := 0) dX4_joined_120 (by decide) ?_
                  obtain rfl := Option.some.inj h
                  exact mw_iret dX4_joined_121 rfl rfl (Nat.le_of_ble_eq_true rfl) (Nat.le_refl 0) mh_ret_rfl
                · replace h := mh_ifn hc11 h
                  refine mw_iconst (v := 1) dX4_joined_116 (by decide) ?_
                  refine mw_goto (tgt := 121) dX4_joined_117 (by decide) ?_
                  obtain rfl := Option.some.inj h
                  exact mw_iret dX4_joined_121 rfl rfl (Nat.le_of_ble_eq_true rfl) (Nat.le_refl 0) mh_ret_rfl
abbrev w_X4_take (sh : List mh_C) (Φ : mh_P) (I : mh_I) (L : mh_L) (pc : Nat) (lv : List (Nat × Value)) (st : List Value) : Prop := mh_W RX4 cX4_take 6 none false (mh_rm 1) 46 0 0 mh_noX Φ 0 sh I L pc lv st
def X4_take (o : Nat) (p1 : Int32) (p2 : Nat) (p3 : Int32) (p4 : Int32) (I : mh_I) (L : mh_L) : Option (mh_I) := if (-p1) = 3 then (X4_pop o I).bind (fun q2 => (X4_push o (-q2.1) q2.2).bind (fun q3 => some q3)) else if (-p1) = 305 then (X4_pop o I).bind (fun q5 => mh_j (fun (s6 : Int32) => (X4_push o s6 q5.2).bind (fun q9 => some q9)) (fun J7 => if q5.1 = 0 then (J7 (1 : Int32)) else (J7 (0 : Int32)))) else if (-p1) = 306 then (X4_push o (p3 / (6 : Int32)) I).bind (fun q11 => some q11) else if (-p1) = 307 then (X4_push o (mh_rem p3 (6 : Int32)) I).bind (fun q13 => some q13) else if (-p1) = 308 then mh_ix p3 48 (fun k15 => (X4_push o (I (p2 + 2) k15) I).bind (fun q17 => some q17)) else if (-p1) = 309 then (X4_push o p4 I).bind (fun q19 => some q19) else if (-p1) = 310 then mh_ix p3 48 (fun k21 => (X5_faceOf (I (p2 + 1) k21)).bind (fun q23 => (X4_push o q23 I).bind (fun q24 => some q24))) else if (-p1) = 311 then (X5_hasBit (L p2 3) p3).bind (fun q26 => mh_j (fun (s27 : Int32) => (X4_push o s27 I).bind (fun q30 => some q30)) (fun J28 => if q26 = 0 then (J28 (0 : Int32)) else (J28 (1 : Int32)))) else if p1 < 0 then (X4_pop o I).bind (fun q31 => mh_b q31.1 (fun b32 => (X4_pop o q31.2).bind (fun q33 => (X4_joined (-p1) q33.1 b32).bind (fun q34 => (X4_push o q34 q33.2).bind (fun q35 => some q35))))) else (X4_push o p1 I).bind (fun q36 => some q36)
set_option maxHeartbeats 4000000 in
set_option maxRecDepth 100000 in
theorem t_X4_take {into : Option Nat} {L : mh_L} {I : mh_I} {o : Nat} {p1 : Int32} {p2 : Nat} {p3 : Int32} {p4 : Int32} (ho : hs_X4 (SHX into) o) (hf2 : hs_X1 (SHX into) p2) {res : mh_I} (h : X4_take o p1 p2 p3 p4 I L = some res) : mh_CT yX4_take cX4_take 6 none (mh_rm 1) (SHX into) I L [.ref o, .int p1, .ref p2, .int p3, .int p4] (mh_ret none (SHX into) res L) := by
  refine mh_ofW (ini := false) RX4 rfl (by decide) (fun h => by cases h) (Nat.le_of_ble_eq_true rfl) ?_
  show w_X4_take (SHX into) (mh_ret none (SHX into) res L) I L 0 [(0, .ref o), (1, .int p1), (2, .ref p2), (3, .int p3), (4, .int p4)] []
  unfold X4_take at h
  refine mw_iload_n dX4_take_0 1 rfl ?_
  refine mw_ineg dX4_take_1 ?_
  by_cases hc1 : (-p1) = 3
  · replace h := mh_ifp hc1 h
    refine mw_lookup (off := 176) (tgt := 178) dX4_take_2 (by decide) (by rw [hc1]; rfl) (by decide) ?_
    refine mw_aload_n dX4_take_178 0 rfl ?_
    refine mw_aload_n dX4_take_179 0 rfl ?_
    obtain ⟨q2, hq2, h⟩ := mh_bind h
    refine mw_vr (dc := 0) (ci := 4) (fs := (fsX4 o)) (T := TX4) (N := 5) cv_X4_38 wd_105 dX4_take_180 [] [.ref o, .ref o] rfl rfl ho.1 rfl (t_X4_pop ho hq2) ⟨by decide, by decide⟩ (Nat.le_of_ble_eq_true rfl) ⟨rfl, rfl⟩ ?_
    refine mw_ineg dX4_take_183 ?_
    obtain ⟨q3, hq3, h⟩ := mh_bind h
    refine mw_vv (dc := 0) (ci := 4) (fs := (fsX4 o)) (T := TX4) (N := 5) cv_X4_45 wd_97 dX4_take_184 [.int (-q2.1)] [.int (-q2.1), .ref o] rfl rfl ho.1 rfl (t_X4_push ho hq3) ⟨by decide, by decide⟩ (Nat.le_of_ble_eq_true rfl) ⟨rfl, rfl⟩ ?_
    refine mw_goto (tgt := 223) dX4_take_187 (by decide) ?_
    obtain rfl := Option.some.inj h
    exact mw_vret dX4_take_223 rfl (Nat.le_of_ble_eq_true rfl) (Nat.le_refl 0) mh_ret_rfl
  · replace h := mh_ifn hc1 h
    by_cases hc4 : (-p1) = 305
    · replace h := mh_ifp hc4 h
      refine mw_lookup (off := 157) (tgt := 159) dX4_take_2 (by decide) (by rw [hc4]; rfl) (by decide) ?_
      refine mw_aload_n dX4_take_159 0 rfl ?_
      refine mw_aload_n dX4_take_160 0 rfl ?_
      obtain ⟨q5, hq5, h⟩ := mh_bind h
      refine mw_vr (dc := 0) (ci := 4) (fs := (fsX4 o)) (T := TX4) (N := 5) cv_X4_38 wd_105 dX4_take_161 [] [.ref o, .ref o] rfl rfl ho.1 rfl (t_X4_pop ho hq5) ⟨by decide, by decide⟩ (Nat.le_of_ble_eq_true rfl) ⟨rfl, rfl⟩ ?_
      refine mh_jw (fun J7 => ∀ (s6 : Int32), J7 s6 = some res → w_X4_take (SHX into) (mh_ret none (SHX into) res L) q5.2 L 172 [] [.int s6, .ref o]) h (fun s6 h => ?_) (fun J7 hJ7 h => ?_)
      · obtain ⟨q9, hq9, h⟩ := mh_bind h
        refine mw_vv (dc := 0) (ci := 4) (fs := (fsX4 o)) (T := TX4) (N := 5) cv_X4_45 wd_97 dX4_take_172 [.int s6] [.int s6, .ref o] rfl rfl ho.1 rfl (t_X4_push ho hq9) ⟨by decide, by decide⟩ (Nat.le_of_ble_eq_true rfl) ⟨rfl, rfl⟩ ?_
        refine mw_goto (tgt := 223) dX4_take_175 (by decide) ?_
        obtain rfl := Option.some.inj h
        exact mw_vret dX4_take_223 rfl (Nat.le_of_ble_eq_true rfl) (Nat.le_refl 0) mh_ret_rfl
      · refine mw_if_ne (tgt := 171) dX4_take_164 (by decide) (fun hc8 => ?_) (fun hc8 => ?_)
        · replace h := mh_ifn hc8 h
          refine mw_iconst (v := 0) dX4_take_171 (by decide) ?_
          refine mw_loc [] rfl ?_
          exact hJ7 _ h
        · replace h := mh_ifp hc8 h
          refine mw_iconst (v := 1) dX4_take_167 (by decide) ?_
          refine mw_goto (tgt := 172) dX4_take_168 (by decide) ?_
          refine mw_loc [] rfl ?_
          exact hJ7 _ h
    · replace h := mh_ifn hc4 h
      by_cases hc10 : (-p1) = 306
      · replace h := mh_ifp hc10 h
        refine mw_lookup (off := 74) (tgt := 76) dX4_take_2 (by decide) (by rw [hc10]; rfl) (by decide) ?_
        refine mw_aload_n dX4_take_76 0 rfl ?_
        refine mw_iload_n dX4_take_77 3 rfl ?_
        refine mw_bipush (v := 6) dX4_take_78 (by decide) ?_
        refine mw_idiv dX4_take_80 (by decide) ?_
        obtain ⟨q11, hq11, h⟩ := mh_bind h
        refine mw_vv (dc := 0) (ci := 4) (fs := (fsX4 o)) (T := TX4) (N := 5) cv_X4_45 wd_97 dX4_take_81 [.int (p3 / (6 : Int32))] [.int (p3 / (6 : Int32)), .ref o] rfl rfl ho.1 rfl (t_X4_push ho hq11) ⟨by decide, by decide⟩ (Nat.le_of_ble_eq_true rfl) ⟨rfl, rfl⟩ ?_
        refine mw_goto (tgt := 223) dX4_take_84 (by decide) ?_
        obtain rfl := Option.some.inj h
        exact mw_vret dX4_take_223 rfl (Nat.le_of_ble_eq_true rfl) (Nat.le_refl 0) mh_ret_rfl
      · replace h := mh_ifn hc10 h
        by_cases hc12 : (-p1) = 307
        · replace h := mh_ifp hc12 h
          refine mw_lookup (off := 85) (tgt := 87) dX4_take_2 (by decide) (by rw [hc12]; rfl) (by decide) ?_
          refine mw_aload_n dX4_take_87 0 rfl ?_
          refine mw_iload_n dX4_take_88 3 rfl ?_
          refine mw_bipush (v := 6) dX4_take_89 (by decide) ?_
          refine mw_irem dX4_take_91 (by decide) ?_
          obtain ⟨q13, hq13, h⟩ := mh_bind h
          refine mw_vv (dc := 0) (ci := 4) (fs := (fsX4 o)) (T := TX4) (N := 5) cv_X4_45 wd_97 dX4_take_92 [.int (mh_rem p3 (6 : Int32))] [.int (mh_rem p3 (6 : Int32)), .ref o] rfl rfl ho.1 rfl (t_X4_push ho hq13) ⟨by decide, by decide⟩ (Nat.le_of_ble_eq_true rfl) ⟨rfl, rfl⟩ ?_
          refine mw_goto (tgt := 223) dX4_take_95 (by decide) ?_
          obtain rfl := Option.some.inj h
          exact mw_vret dX4_take_223 rfl (Nat.le_of_ble_eq_true rfl) (Nat.le_refl 0) mh_ret_rfl
        · replace h := mh_ifn hc12 h
          by_cases hc14 : (-p1) = 308
          · replace h := mh_ifp hc14 h
            refine mw_lookup (off := 96) (tgt := 98) dX4_take_2 (by decide) (by rw [hc14]; rfl) (by decide) ?_
            refine mw_aload_n dX4_take_98 0 rfl ?_
            refine mw_aload_n dX4_take_99 2 rfl ?_
            refine mw_getr (b := (p2 + 2)) (fs := (fsX1 p2)) gf_X4_49 dX4_take_100 hf2.1 rfl ?_
            refine mw_iload_n dX4_take_103 3 rfl ?_
            obtain ⟨k15, hk16, hk16n, hk16l, h⟩ := mh_ix_some h
            refine mw_xiald dX4_take_104 hf2.2.2 hk16 hk16n ?_
            obtain ⟨q17, hq17, h⟩ := mh_bind h
            refine mw_vv (dc := 0) (ci := 4) (fs := (fsX4 o)) (T := TX4) (N := 5) cv_X4_45 wd_97 dX4_take_105 [.int (I (p2 + 2) k15)] [.int (I (p2 + 2) k15), .ref o] rfl rfl ho.1 rfl (t_X4_push ho hq17) ⟨by decide, by decide⟩ (Nat.le_of_ble_eq_true rfl) ⟨rfl, rfl⟩ ?_
            refine mw_goto (tgt := 223) dX4_take_108 (by decide) ?_
            obtain rfl := Option.some.inj h
            exact mw_vret dX4_take_223 rfl (Nat.le_of_ble_eq_true rfl) (Nat.le_refl 0) mh_ret_rfl
          · replace h := mh_ifn hc14 h
            by_cases hc18 : (-p1) = 309
            · replace h := mh_ifp hc18 h
              refine mw_lookup (off := 109) (tgt := 111) dX4_take_2 (by decide) (by rw [hc18]; rfl) (by decide) ?_
              refine mw_aload_n dX4_take_111 0 rfl ?_
              refine mw_iload dX4_take_112 4 rfl ?_
              obtain ⟨q19, hq19, h⟩ := mh_bind h
              refine mw_vv (dc := 0) (ci := 4) (fs := (fsX4 o)) (T := TX4) (N := 5) cv_X4_45 wd_97 dX4_take_114 [.int p4] [.int p4, .ref o] rfl rfl ho.1 rfl (t_X4_push ho hq19) ⟨by decide, by decide⟩ (Nat.le_of_ble_eq_true rfl) ⟨rfl, rfl⟩ ?_
              refine mw_goto (tgt := 223) dX4_take_117 (by decide) ?_
              obtain rfl := Option.some.inj h
              exact mw_vret dX4_take_223 rfl (Nat.le_of_ble_eq_true rfl) (Nat.le_refl 0) mh_ret_rfl
            · replace h := mh_ifn hc18 h
              by_cases hc20 : (-p1) = 310
              · replace h := mh_ifp hc20 h
                refine mw_lookup (off := 118) (tgt := 120) dX4_take_2 (by decide) (by rw [hc20]; rfl) (by decide) ?_
                refine mw_aload_n dX4_take_120 0 rfl ?_
                refine mw_aload_n dX4_take_121 2 rfl ?_
                refine mw_getr (b := (p2 + 1)) (fs := (fsX1 p2)) gf_X4_54 dX4_take_122 hf2.1 rfl ?_
                refine mw_iload_n dX4_take_125 3 rfl ?_
                obtain ⟨k21, hk22, hk22n, hk22l, h⟩ := mh_ix_some h
                refine mw_xiald dX4_take_126 hf2.2.1 hk22 hk22n ?_
                obtain ⟨q23, hq23, h⟩ := mh_bind h
                refine mw_sr (dc := 0) cs_X4_57 wd_100 dX4_take_127 [.int (I (p2 + 1) k21)] [.int (I (p2 + 1) k21), .ref o] rfl rfl (t_X5_faceOf hq23) ⟨by decide, by decide⟩ (Nat.le_of_ble_eq_true rfl) ⟨rfl, rfl⟩ ?_
                obtain ⟨q24, hq24, h⟩ := mh_bind h
                refine mw_vv (dc := 0) (ci := 4) (fs := (fsX4 o)) (T := TX4) (N := 5) cv_X4_45 wd_97 dX4_take_130 [.int q23] [.int q23, .ref o] rfl rfl ho.1 rfl (t_X4_push ho hq24) ⟨by decide, by decide⟩ (Nat.le_of_ble_eq_true rfl) ⟨rfl, rfl⟩ ?_
                refine mw_goto (tgt := 223) dX4_take_133 (by decide) ?_
                obtain rfl := Option.some.inj h
                exact mw_vret dX4_take_223 rfl (Nat.le_of_ble_eq_true rfl) (Nat.le_refl 0) mh_ret_rfl
              · replace h := mh_ifn hc20 h
                by_cases hc25 : (-p1) = 311
                · replace h := mh_ifp hc25 h
                  refine mw_lookup (off := 134) (tgt := 136) dX4_take_2 (by decide) (by rw [hc25]; rfl) (by decide) ?_
                  refine mw_aload_n dX4_take_136 0 rfl ?_
                  refine mw_aload_n dX4_take_137 2 rfl ?_
                  refine mw_getl (fs := (fsX1 p2)) gf_X4_61 dX4_take_138 hf2.1 rfl ?_
                  refine mw_iload_n dX4_take_141 3 rfl ?_
                  obtain ⟨q26, hq26, h⟩ := mh_bind h
                  refine mw_sz (dc := 0) cs_X4_65 wd_31 dX4_take_142 [.long (L p2 3), .int p3] [.int p3, .long (L p2 3), .ref o] rfl rfl (t_X5_hasBit hq26) ⟨by decide, by decide⟩ (Nat.le_of_ble_eq_true rfl) ⟨rfl, rfl⟩ (fun zq26 => ?_)
                  refine mh_jw (fun J28 => ∀ (s27 : Int32), J28 s27 = some res → w_X4_take (SHX into) (mh_ret none (SHX into) res L) I L 153 [] [.int s27, .ref o]) h (fun s27 h => ?_) (fun J28 hJ28 h => ?_)
                  · obtain ⟨q30, hq30, h⟩ := mh_bind h
                    refine mw_vv (dc := 0) (ci := 4) (fs := (fsX4 o)) (T := TX4) (N := 5) cv_X4_45 wd_97 dX4_take_153 [.int s27] [.int s27, .ref o] rfl rfl ho.1 rfl (t_X4_push ho hq30) ⟨by decide, by decide⟩ (Nat.le_of_ble_eq_true rfl) ⟨rfl, rfl⟩ ?_
                    refine mw_goto (tgt := 223) dX4_take_156 (by decide) ?_
                    obtain rfl := Option.some.inj h
                    exact mw_vret dX4_take_223 rfl (Nat.le_of_ble_eq_true rfl) (Nat.le_refl 0) mh_ret_rfl
                  · refine mw_if_eq (tgt := 152) dX4_take_145 (by decide) (fun hc29 => ?_) (fun hc29 => ?_)
                    · replace h := mh_ifp hc29 h
                      refine mw_iconst (v := 0) dX4_take_152 (by decide) ?_
                      refine mw_loc [] rfl ?_
                      exact hJ28 _ h
                    · replace h := mh_ifn hc29 h
                      refine mw_iconst (v := 1) dX4_take_148 (by decide) ?_
                      refine mw_goto (tgt := 153) dX4_take_149 (by decide) ?_
                      refine mw_loc [] rfl ?_
                      exact hJ28 _ h
                · replace h := mh_ifn hc25 h
                  refine mw_lookup (off := 188) (tgt := 190) dX4_take_2 (by decide) (by show Op.lookupswitch.offset [(3, 176), (305, 157), (306, 74), (307, 85), (308, 96), (309, 109), (310, 118), (311, 134)] 188 ((-p1) : Int32).toInt = 188; rw [lv_osw hc1 (by decide), lv_osw hc4 (by decide), lv_osw hc10 (by decide), lv_osw hc12 (by decide), lv_osw hc14 (by decide), lv_osw hc18 (by decide), lv_osw hc20 (by decide), lv_osw hc25 (by decide)]; rfl) (by decide) ?_
                  refine mw_iload_n dX4_take_190 1 rfl ?_
                  refine mw_if_lt (tgt := 202) dX4_take_191 (by decide) (fun hc37 => ?_) (fun hc37 => ?_)
                  · replace h := mh_ifp hc37 h
                    refine mw_aload_n dX4_take_202 0 rfl ?_
                    obtain ⟨q31, hq31, h⟩ := mh_bind h
                    refine mw_vr (dc := 0) (ci := 4) (fs := (fsX4 o)) (T := TX4) (N := 5) cv_X4_38 wd_105 dX4_take_203 [] [.ref o] rfl rfl ho.1 rfl (t_X4_pop ho hq31) ⟨by decide, by decide⟩ (Nat.le_of_ble_eq_true rfl) ⟨rfl, rfl⟩ ?_
                    obtain ⟨b32, eb32, h⟩ := mh_b_some h
                    refine mw_nmi eb32 ?_
                    refine mw_istore dX4_take_206 (by decide) rfl ?_
                    refine mw_aload_n dX4_take_208 1 rfl ?_
                    refine mw_iload_n dX4_take_209 2 rfl ?_
                    refine mw_ineg dX4_take_210 ?_
                    refine mw_aload_n dX4_take_211 1 rfl ?_
                    obtain ⟨q33, hq33, h⟩ := mh_bind h
                    refine mw_vr (dc := 0) (ci := 4) (fs := (fsX4 o)) (T := TX4) (N := 5) cv_X4_38 wd_105 dX4_take_212 [] [.ref o, .int (-p1), .ref o] rfl rfl ho.1 rfl (t_X4_pop ho hq33) ⟨by decide, by decide⟩ (Nat.le_of_ble_eq_true rfl) ⟨rfl, rfl⟩ ?_
                    refine mw_iload dX4_take_215 0 rfl ?_
                    obtain ⟨q34, hq34, h⟩ := mh_bind h
                    refine mw_sr (dc := 0) cs_X4_69 wd_108 dX4_take_217 [.int (-p1), .int q33.1, .int b32] [.int b32, .int q33.1, .int (-p1), .ref o] rfl rfl (t_X4_joined hq34) ⟨by decide, by decide⟩ (Nat.le_of_ble_eq_true rfl) ⟨rfl, rfl⟩ ?_
                    obtain ⟨q35, hq35, h⟩ := mh_bind h
                    refine mw_vv (dc := 0) (ci := 4) (fs := (fsX4 o)) (T := TX4) (N := 5) cv_X4_45 wd_97 dX4_take_220 [.int q34] [.int q34, .ref o] rfl rfl ho.1 rfl (t_X4_push ho hq35) ⟨by decide, by decide⟩ (Nat.le_of_ble_eq_true rfl) ⟨rfl, rfl⟩ ?_
                    obtain rfl := Option.some.inj h
                    exact mw_vret dX4_take_223 rfl (Nat.le_of_ble_eq_true rfl) (Nat.le_refl 0) mh_ret_rfl
                  · replace h := mh_ifn hc37 h
                    refine mw_aload_n dX4_take_194 0 rfl ?_
                    refine mw_iload_n dX4_take_195 1 rfl ?_
                    obtain ⟨q36, hq36, h⟩ := mh_bind h
                    refine mw_vv (dc := 0) (ci := 4) (fs := (fsX4 o)) (T := TX4) (N := 5) cv_X4_45 wd_97 dX4_take_196 [.int p1] [.int p1, .ref o] rfl rfl ho.1 rfl (t_X4_push ho hq36) ⟨by decide, by decide⟩ (Nat.le_of_ble_eq_true rfl) ⟨rfl, rfl⟩ ?_
                    refine mw_goto (tgt := 223) dX4_take_199 (by decide) ?_
                    obtain rfl := Option.some.inj h
                    exact mw_vret dX4_take_223 rfl (Nat.le_of_ble_eq_true rfl) (Nat.le_refl 0) mh_ret_rfl
abbrev w_X5_bounded (sh : List mh_C) (Φ : mh_P) (I : mh_I) (L : mh_L) (pc : Nat) (lv : List (Nat × Value)) (st : List Value) : Prop := mh_W RX5 cX5_bounded 2 (some .int) false (mh_rm 1) 46 0 0 mh_noX Φ 0 sh I L pc lv st
def X5_bounded (p0 : Int32) (p1 : Int32) : Option (Int32) := some (mh_max (0 : Int32) (mh_min p1 p0))
set_option maxHeartbeats 4000000 in
set_option maxRecDepth 100000 in
theorem t_X5_bounded {into : Option Nat} {L : mh_L} {I : mh_I} {p0 : Int32} {p1 : Int32} {res : Int32} (h : X5_bounded p0 p1 = some res) : mh_CT yX5_bounded cX5_bounded 2 (some .int) (mh_rm 1) (SHX into) I L [.int p0, .int p1] (mh_ret (some (.int res)) (SHX into) I L) := by
  refine mh_ofW (ini := false) RX5 rfl (by decide) (fun h => by cases h) (Nat.le_of_ble_eq_true rfl) ?_
  show w_X5_bounded (SHX into) (mh_ret (some (.int res)) (SHX into) I L) I L 0 [(0, .int p0), (1, .int p1)] []
  unfold X5_bounded at h
  refine mw_iconst (v := 0) dX5_bounded_0 (by decide) ?_
  refine mw_iload_n dX5_bounded_1 1 rfl ?_
  refine mw_iload_n dX5_bounded_2 0 rfl ?_
  refine mw_mmin wd_112 ⟨wd_88, wd_14, wd_89⟩ dX5_bounded_3 (by decide) (Nat.le_of_ble_eq_true rfl) (Nat.le_of_ble_eq_true rfl) ?_
  refine mw_mmax wd_113 ⟨wd_80, wd_14, wd_81⟩ dX5_bounded_6 (by decide) (Nat.le_of_ble_eq_true rfl) (Nat.le_of_ble_eq_true rfl) ?_
  obtain rfl := Option.some.inj h
  exact mw_iret dX5_bounded_9 rfl rfl (Nat.le_of_ble_eq_true rfl) (Nat.le_refl 0) mh_ret_rfl
abbrev w_X4_says (sh : List mh_C) (Φ : mh_P) (I : mh_I) (L : mh_L) (pc : Nat) (lv : List (Nat × Value)) (st : List Value) : Prop := mh_W RX4 cX4_says 8 (some .int) false (mh_rm 2) 46 0 0 mh_noX Φ 0 sh I L pc lv st
def X4_says_l41 (u0 : Nat) (u2 : Nat) (u3 : Int32) (u4 : Int32) (u6 : Int32) (L : mh_L) (k69 : (mh_I → Option (Int32 × mh_I))) : Nat → Int32 → mh_I → Option (Int32 × mh_I)
  | 0, _, _ => none
  | n + 1, u7, I => if u6 ≤ u7 then (k69 I) else mh_ix u7 160 (fun k9 => (X4_take u0 (I (u0 + 1) k9) u2 u3 u4 I L).bind (fun q11 => mh_b (u7 + (1 : Int32)) (fun b12 => (X4_says_l41 u0 u2 u3 u4 u6 L k69 n b12 q11))))
set_option maxHeartbeats 4000000 in
set_option maxRecDepth 100000 in
theorem t_X4_says_l41 {into : Option Nat} {u0 : Nat} (hf0 : hs_X4 (SHX into) u0) {u2 : Nat} (hf2 : hs_X1 (SHX into) u2) {u3 : Int32} {u4 : Int32} {u6 : Int32} {k69 : (mh_I → Option (Int32 × mh_I))} {L : mh_L} {res : Int32 × mh_I} (n : Nat) (u7 : Int32) (I : mh_I) (h : X4_says_l41 u0 u2 u3 u4 u6 L k69 n u7 I = some res) (hk69 : ∀ (I : mh_I), k69 I = some res → w_X4_says (SHX into) (mh_ret (some (.int res.1)) (SHX into) res.2 L) I L 69 [(0, .ref u0)] []) : w_X4_says (SHX into) (mh_ret (some (.int res.1)) (SHX into) res.2 L) I L 41 [(0, .ref u0), (2, .ref u2), (3, .int u3), (4, .int u4), (6, .int u6), (7, .int u7)] [] := by
  induction n generalizing u7 I with
  | zero => rw [X4_says_l41] at h; cases h
  | succ n ih =>
    rw [X4_says_l41] at h
    refine mw_iload dX4_says_41 5 rfl ?_
    refine mw_iload dX4_says_43 4 rfl ?_
    refine mw_icmp_ge (tgt := 69) dX4_says_45 (by decide) (fun hc13 => ?_) (fun hc13 => ?_)
    · replace h := mh_ifp hc13 h
      refine mw_loc [0] rfl ?_
      exact hk69 _ h
    · replace h := mh_ifn hc13 h
      refine mw_aload_n dX4_says_48 0 rfl ?_
      refine mw_aload_n dX4_says_49 0 rfl ?_
      refine mw_getr (b := (u0 + 1)) (fs := (fsX4 u0)) gf_X4_9 dX4_says_50 hf0.1 rfl ?_
      refine mw_iload dX4_says_53 5 rfl ?_
      obtain ⟨k9, hk10, hk10n, hk10l, h⟩ := mh_ix_some h
      refine mw_xiald dX4_says_55 hf0.2.1 hk10 hk10n ?_
      refine mw_aload_n dX4_says_56 1 rfl ?_
      refine mw_iload_n dX4_says_57 2 rfl ?_
      refine mw_iload dX4_says_58 3 rfl ?_
      obtain ⟨q11, hq11, h⟩ := mh_bind h
      refine mw_vv (dc := 1) (ci := 4) (fs := (fsX4 u0)) (T := TX4) (N := 5) cv_X4_34 wd_93 dX4_says_60 [.int (I (u0 + 1) k9), .ref u2, .int u3, .int u4] [.int u4, .int u3, .ref u2, .int (I (u0 + 1) k9), .ref u0] rfl rfl hf0.1 rfl (t_X4_take hf0 hf2 hq11) ⟨by decide, by decide⟩ (Nat.le_of_ble_eq_true rfl) ⟨rfl, rfl⟩ ?_
      obtain ⟨b12, eb12, h⟩ := mh_b_some h
      refine mw_iinc (v := b12) dX4_says_63 5 rfl (by rw [← eb12]; rfl) (by decide) rfl ?_
      refine mw_goto (tgt := 41) dX4_says_66 (by decide) ?_
      refine mw_loc [1, 2, 3, 4, 5, 0] rfl ?_
      exact ih _ _ h
def X4_says (o : Nat) (p1 : Int32) (p2 : Nat) (p3 : Int32) (p4 : Int32) (I : mh_I) (L : mh_L) : Option (Int32 × mh_I) := mh_j (fun (s1 : Int32) => mh_ix p1 3 (fun k6 => mh_b (mh_min ((mh_u I o 4 (0 : Int32)) (o + 2) k6) (160 : Int32)) (fun b8 => X4_says_l41 o p2 p3 p4 b8 L (fun (I14 : mh_I) => (X4_pop o I14).bind (fun q15 => (X5_bounded q15.1 (99 : Int32)).bind (fun q16 => some (q16, q15.2)))) mh_fuel s1 (mh_u I o 4 (0 : Int32))))) (fun J2 => if p1 ≤ 0 then (J2 (0 : Int32)) else mh_ix (p1 - (1 : Int32)) 3 (fun k3 => (J2 ((mh_u I o 4 (0 : Int32)) (o + 2) k3))))
set_option maxHeartbeats 4000000 in
set_option maxRecDepth 100000 in
theorem t_X4_says {into : Option Nat} {L : mh_L} {I : mh_I} {o : Nat} {p1 : Int32} {p2 : Nat} {p3 : Int32} {p4 : Int32} (ho : hs_X4 (SHX into) o) (hf2 : hs_X1 (SHX into) p2) {res : Int32 × mh_I} (h : X4_says o p1 p2 p3 p4 I L = some res) : mh_CT yX4_says cX4_says 8 (some .int) (mh_rm 2) (SHX into) I L [.ref o, .int p1, .ref p2, .int p3, .int p4] (mh_ret (some (.int res.1)) (SHX into) res.2 L) := by
  refine mh_ofW (ini := false) RX4 rfl (by decide) (fun h => by cases h) (Nat.le_of_ble_eq_true rfl) ?_
  show w_X4_says (SHX into) (mh_ret (some (.int res.1)) (SHX into) res.2 L) I L 0 [(0, .ref o), (1, .int p1), (2, .ref p2), (3, .int p3), (4, .int p4)] []
  unfold X4_says at h
  refine mw_aload_n dX4_says_0 0 rfl ?_
  refine mw_iconst (v := 0) dX4_says_1 (by decide) ?_
  refine mw_puti (fs := (fsX4 o)) pf_X4_25 (fun h => by cases h) rfl rfl dX4_says_2 ho.1 rfl ?_
  refine mw_iload_n dX4_says_5 1 rfl ?_
  refine mh_jw (fun J2 => ∀ (s1 : Int32), J2 s1 = some res → w_X4_says (SHX into) (mh_ret (some (.int res.1)) (SHX into) res.2 L) (mh_u I o 4 (0 : Int32)) L 21 [(0, .ref o), (1, .int p1), (2, .ref p2), (3, .int p3), (4, .int p4)] [.int s1]) h (fun s1 h => ?_) (fun J2 hJ2 h => ?_)
  · refine mw_istore dX4_says_21 (by decide) rfl ?_
    refine mw_aload_n dX4_says_23 1 rfl ?_
    refine mw_getr (b := (o + 2)) (fs := (fsX4 o)) gf_X4_15 dX4_says_24 ho.1 rfl ?_
    refine mw_iload_n dX4_says_27 2 rfl ?_
    obtain ⟨k6, hk7, hk7n, hk7l, h⟩ := mh_ix_some h
    refine mw_xiald dX4_says_28 ho.2.2.1 hk7 hk7n ?_
    refine mw_sipush (v := 160) dX4_says_29 (by decide) ?_
    refine mw_mmin wd_87 ⟨wd_88, wd_14, wd_89⟩ dX4_says_32 (by decide) (Nat.le_of_ble_eq_true rfl) (Nat.le_of_ble_eq_true rfl) ?_
    obtain ⟨b8, eb8, h⟩ := mh_b_some h
    refine mw_nmi eb8 ?_
    refine mw_istore dX4_says_35 (by decide) rfl ?_
    refine mw_iload dX4_says_37 1 rfl ?_
    refine mw_istore dX4_says_39 (by decide) rfl ?_
    refine mw_loc [3, 5, 6, 7, 1, 0] rfl ?_
    refine t_X4_says_l41 ho hf2 _ _ _ h (fun I14 h => ?_)
    refine mw_aload_n dX4_says_69 0 rfl ?_
    obtain ⟨q15, hq15, h⟩ := mh_bind h
    refine mw_vr (dc := 0) (ci := 4) (fs := (fsX4 o)) (T := TX4) (N := 5) cv_X4_38 wd_105 dX4_says_70 [] [.ref o] rfl rfl ho.1 rfl (t_X4_pop ho hq15) ⟨by decide, by decide⟩ (Nat.le_of_ble_eq_true rfl) ⟨rfl, rfl⟩ ?_
    refine mw_bipush (v := 99) dX4_says_73 (by decide) ?_
    obtain ⟨q16, hq16, h⟩ := mh_bind h
    refine mw_sr (dc := 1) cs_X4_42 wd_111 dX4_says_75 [.int q15.1, .int (99 : Int32)] [.int (99 : Int32), .int q15.1] rfl rfl (t_X5_bounded hq16) ⟨by decide, by decide⟩ (Nat.le_of_ble_eq_true rfl) ⟨rfl, rfl⟩ ?_
    obtain rfl := Option.some.inj h
    exact mw_iret dX4_says_78 rfl rfl (Nat.le_of_ble_eq_true rfl) (Nat.le_refl 0) mh_ret_rfl
  · refine mw_if_le (tgt := 20) dX4_says_6 (by decide) (fun hc5 => ?_) (fun hc5 => ?_)
    · replace h := mh_ifp hc5 h
      refine mw_iconst (v := 0) dX4_says_20 (by decide) ?_
      refine mw_loc [0, 1, 2, 3, 4] rfl ?_
      exact hJ2 _ h
    · replace h := mh_ifn hc5 h
      refine mw_aload_n dX4_says_9 0 rfl ?_
      refine mw_getr (b := (o + 2)) (fs := (fsX4 o)) gf_X4_15 dX4_says_10 ho.1 rfl ?_
      refine mw_iload_n dX4_says_13 1 rfl ?_
      refine mw_iconst (v := 1) dX4_says_14 (by decide) ?_
      refine mw_isub dX4_says_15 ?_
      obtain ⟨k3, hk4, hk4n, hk4l, h⟩ := mh_ix_some h
      refine mw_xiald dX4_says_16 ho.2.2.1 hk4 hk4n ?_
      refine mw_goto (tgt := 21) dX4_says_17 (by decide) ?_
      refine mw_loc [0, 1, 2, 3, 4] rfl ?_
      exact hJ2 _ h
abbrev w_X5_rubOf (sh : List mh_C) (Φ : mh_P) (I : mh_I) (L : mh_L) (pc : Nat) (lv : List (Nat × Value)) (st : List Value) : Prop := mh_W RX5 cX5_rubOf 3 (some .int) false (mh_rm 0) 46 0 0 mh_noX Φ 0 sh I L pc lv st
def X5_rubOf (p0 : Int32) (p1 : Int32) (p2 : Int32) : Option (Int32) := if p0 = 1 then some (p1 + p2) else if p0 = 2 then some p1 else if p0 = 3 then some ((2 : Int32) * p1) else if p0 = 4 then some p1 else if p0 = 5 then some (p1 + p2) else some p1
set_option maxHeartbeats 4000000 in
set_option maxRecDepth 100000 in
theorem t_X5_rubOf {into : Option Nat} {L : mh_L} {I : mh_I} {p0 : Int32} {p1 : Int32} {p2 : Int32} {res : Int32} (h : X5_rubOf p0 p1 p2 = some res) : mh_CT yX5_rubOf cX5_rubOf 3 (some .int) (mh_rm 0) (SHX into) I L [.int p0, .int p1, .int p2] (mh_ret (some (.int res)) (SHX into) I L) := by
  refine mh_ofW (ini := false) RX5 rfl (by decide) (fun h => by cases h) (Nat.le_of_ble_eq_true rfl) ?_
  show w_X5_rubOf (SHX into) (mh_ret (some (.int res)) (SHX into) I L) I L 0 [(0, .int p0), (1, .int p1), (2, .int p2)] []
  unfold X5_rubOf at h
  refine mw_iload_n dX5_rubOf_0 0 rfl ?_
  by_cases hc1 : p0 = 1
  · replace h := mh_ifp hc1 h
    refine mw_tableIn (off := 35) (tgt := 36) dX5_rubOf_1 (by rw [hc1]; decide) (by rw [hc1]; decide) (by rw [hc1]; rfl) (by decide) ?_
    refine mw_iload_n dX5_rubOf_36 1 rfl ?_
    refine mw_iload_n dX5_rubOf_37 2 rfl ?_
    refine mw_iadd dX5_rubOf_38 ?_
    obtain rfl := Option.some.inj h
    exact mw_iret dX5_rubOf_39 rfl rfl (Nat.le_of_ble_eq_true rfl) (Nat.le_refl 0) mh_ret_rfl
  · replace h := mh_ifn hc1 h
    by_cases hc2 : p0 = 2
    · replace h := mh_ifp hc2 h
      refine mw_tableIn (off := 43) (tgt := 44) dX5_rubOf_1 (by rw [hc2]; decide) (by rw [hc2]; decide) (by rw [hc2]; rfl) (by decide) ?_
      refine mw_iload_n dX5_rubOf_44 1 rfl ?_
      obtain rfl := Option.some.inj h
      exact mw_iret dX5_rubOf_45 rfl rfl (Nat.le_of_ble_eq_true rfl) (Nat.le_refl 0) mh_ret_rfl
    · replace h := mh_ifn hc2 h
      by_cases hc3 : p0 = 3
      · replace h := mh_ifp hc3 h
        refine mw_tableIn (off := 39) (tgt := 40) dX5_rubOf_1 (by rw [hc3]; decide) (by rw [hc3]; decide) (by rw [hc3]; rfl) (by decide) ?_
        refine mw_iconst (v := 2) dX5_rubOf_40 (by decide) ?_
        refine mw_iload_n dX5_rubOf_41 1 rfl ?_
        refine mw_imul dX5_rubOf_42 ?_
        obtain rfl := Option.some.inj h
        exact mw_iret dX5_rubOf_43 rfl rfl (Nat.le_of_ble_eq_true rfl) (Nat.le_refl 0) mh_ret_rfl
      · replace h := mh_ifn hc3 h
        by_cases hc4 : p0 = 4
        · replace h := mh_ifp hc4 h
          refine mw_tableIn (off := 43) (tgt := 44) dX5_rubOf_1 (by rw [hc4]; decide) (by rw [hc4]; decide) (by rw [hc4]; rfl) (by decide) ?_
          refine mw_iload_n dX5_rubOf_44 1 rfl ?_
          obtain rfl := Option.some.inj h
          exact mw_iret dX5_rubOf_45 rfl rfl (Nat.le_of_ble_eq_true rfl) (Nat.le_refl 0) mh_ret_rfl
        · replace h := mh_ifn hc4 h
          by_cases hc5 : p0 = 5
          · replace h := mh_ifp hc5 h
            refine mw_tableIn (off := 35) (tgt := 36) dX5_rubOf_1 (by rw [hc5]; decide) (by rw [hc5]; decide) (by rw [hc5]; rfl) (by decide) ?_
            refine mw_iload_n dX5_rubOf_36 1 rfl ?_
            refine mw_iload_n dX5_rubOf_37 2 rfl ?_
            refine mw_iadd dX5_rubOf_38 ?_
            obtain rfl := Option.some.inj h
            exact mw_iret dX5_rubOf_39 rfl rfl (Nat.le_of_ble_eq_true rfl) (Nat.le_refl 0) mh_ret_rfl
          · replace h := mh_ifn hc5 h
            refine mw_tableOut (tgt := 44) dX5_rubOf_1 (by have e0 := mh_ne (n := 1) hc1 (by decide); have e1 := mh_ne (n := 2) hc2 (by decide); have e2 := mh_ne (n := 3) hc3 (by decide); have e3 := mh_ne (n := 4) hc4 (by decide); have e4 := mh_ne (n := 5) hc5 (by decide); omega) (by decide) ?_
            refine mw_iload_n dX5_rubOf_44 1 rfl ?_
            obtain rfl := Option.some.inj h
            exact mw_iret dX5_rubOf_45 rfl rfl (Nat.le_of_ble_eq_true rfl) (Nat.le_refl 0) mh_ret_rfl
abbrev w_X0_restOf (sh : List mh_C) (Φ : mh_P) (I : mh_I) (L : mh_L) (pc : Nat) (lv : List (Nat × Value)) (st : List Value) : Prop := mh_W RX0 cX0_restOf 9 (some .int) false (mh_rm 3) 46 0 0 mh_noX Φ 0 sh I L pc lv st
def X0_restOf_l11 (u0 : Nat) (u3 : Int32) (u4 : Int64) (I : mh_I) (k59 : (Int32 → Option (Int32 × mh_I))) : Nat → Int32 → Int32 → Option (Int32 × mh_I)
  | 0, _, _ => none
  | n + 1, u6, u7 => if (48 : Int32) ≤ u7 then (k59 u6) else if ((u3 + (6 : Int32)) + (1 : Int32)) < u7 then (k59 u6) else (X5_hasBit u4 u7).bind (fun q2 => mh_j (fun (v3 : Int32) => mh_b (u7 + (1 : Int32)) (fun b9 => (X0_restOf_l11 u0 u3 u4 I k59 n v3 b9))) (fun J4 => if q2 = 0 then (J4 u6) else mh_ix u7 48 (fun k5 => mh_b (mh_max u6 (I (u0 + 1) k5)) (fun b7 => (J4 b7)))))
set_option maxHeartbeats 4000000 in
set_option maxRecDepth 100000 in
theorem t_X0_restOf_l11 {into : Option Nat} {u0 : Nat} (hf0 : hs_X0 (SHX into) u0) {u1 : Nat} (hf1 : hs_X1 (SHX into) u1) {u2 : Nat} (hf2 : hs_X4 (SHX into) u2) {u3 : Int32} {u4 : Int64} {k59 : (Int32 → Option (Int32 × mh_I))} {I : mh_I} {L : mh_L} {res : Int32 × mh_I} (n : Nat) (u6 : Int32) (u7 : Int32) (h : X0_restOf_l11 u0 u3 u4 I k59 n u6 u7 = some res) (hk59 : ∀ (u6 : Int32), k59 u6 = some res → w_X0_restOf (SHX into) (mh_ret (some (.int res.1)) (SHX into) res.2 L) I L 59 [(1, .ref u1), (2, .ref u2), (3, .int u3), (6, .int u6)] []) : w_X0_restOf (SHX into) (mh_ret (some (.int res.1)) (SHX into) res.2 L) I L 11 [(0, .ref u0), (1, .ref u1), (2, .ref u2), (3, .int u3), (4, .long u4), (6, .int u6), (7, .int u7)] [] := by
  induction n generalizing u6 u7 with
  | zero => rw [X0_restOf_l11] at h; cases h
  | succ n ih =>
    rw [X0_restOf_l11] at h
    refine mw_iload dX0_restOf_11 6 rfl ?_
    refine mw_bipush (v := 48) dX0_restOf_13 (by decide) ?_
    refine mw_icmp_ge (tgt := 59) dX0_restOf_15 (by decide) (fun hc11 => ?_) (fun hc11 => ?_)
    · replace h := mh_ifp hc11 h
      refine mw_loc [1, 2, 3, 5] rfl ?_
      exact hk59 _ h
    · replace h := mh_ifn hc11 h
      refine mw_iload dX0_restOf_18 6 rfl ?_
      refine mw_iload_n dX0_restOf_20 3 rfl ?_
      refine mw_bipush (v := 6) dX0_restOf_21 (by decide) ?_
      refine mw_iadd dX0_restOf_23 ?_
      refine mw_iconst (v := 1) dX0_restOf_24 (by decide) ?_
      refine mw_iadd dX0_restOf_25 ?_
      refine mw_icmp_gt (tgt := 59) dX0_restOf_26 (by decide) (fun hc10 => ?_) (fun hc10 => ?_)
      · replace h := mh_ifp hc10 h
        refine mw_loc [1, 2, 3, 5] rfl ?_
        exact hk59 _ h
      · replace h := mh_ifn hc10 h
        refine mw_lload dX0_restOf_29 4 rfl ?_
        refine mw_iload dX0_restOf_31 6 rfl ?_
        obtain ⟨q2, hq2, h⟩ := mh_bind h
        refine mw_sz (dc := 0) cs_X0_28 wd_31 dX0_restOf_33 [.long u4, .int u7] [.int u7, .long u4] rfl rfl (t_X5_hasBit hq2) ⟨by decide, by decide⟩ (Nat.le_of_ble_eq_true rfl) ⟨rfl, rfl⟩ (fun zq2 => ?_)
        refine mh_jw (fun J4 => ∀ (v3 : Int32), J4 v3 = some res → w_X0_restOf (SHX into) (mh_ret (some (.int res.1)) (SHX into) res.2 L) I L 53 [(0, .ref u0), (1, .ref u1), (2, .ref u2), (3, .int u3), (4, .long u4), (6, .int v3), (7, .int u7)] []) h (fun v3 h => ?_) (fun J4 hJ4 h => ?_)
        · obtain ⟨b9, eb9, h⟩ := mh_b_some h
          refine mw_iinc (v := b9) dX0_restOf_53 6 rfl (by rw [← eb9]; rfl) (by decide) rfl ?_
          refine mw_goto (tgt := 11) dX0_restOf_56 (by decide) ?_
          refine mw_loc [1, 2, 3, 4, 5, 6, 0] rfl ?_
          exact ih _ _ h
        · refine mw_if_eq (tgt := 53) dX0_restOf_36 (by decide) (fun hc8 => ?_) (fun hc8 => ?_)
          · replace h := mh_ifp hc8 h
            refine mw_loc [0, 1, 2, 3, 4, 5, 6] rfl ?_
            exact hJ4 _ h
          · replace h := mh_ifn hc8 h
            refine mw_iload dX0_restOf_39 5 rfl ?_
            refine mw_aload_n dX0_restOf_41 0 rfl ?_
            refine mw_getr (b := (u0 + 1)) (fs := (fsX0 u0)) gf_X0_9 dX0_restOf_42 hf0.1 rfl ?_
            refine mw_iload dX0_restOf_45 6 rfl ?_
            obtain ⟨k5, hk6, hk6n, hk6l, h⟩ := mh_ix_some h
            refine mw_xiald dX0_restOf_47 hf0.2 hk6 hk6n ?_
            refine mw_mmax wd_79 ⟨wd_80, wd_14, wd_81⟩ dX0_restOf_48 (by decide) (Nat.le_of_ble_eq_true rfl) (Nat.le_of_ble_eq_true rfl) ?_
            obtain ⟨b7, eb7, h⟩ := mh_b_some h
            refine mw_nmi eb7 ?_
            refine mw_istore dX0_restOf_51 (by decide) rfl ?_
            refine mw_loc [1, 2, 3, 4, 5, 0, 6] rfl ?_
            exact hJ4 _ h
def X0_restOf (o : Nat) (p1 : Nat) (p2 : Nat) (p3 : Int32) (p4 : Int64) (I : mh_I) (L : mh_L) : Option (Int32 × mh_I) := mh_b ((p3 + (6 : Int32)) - (1 : Int32)) (fun b1 => X0_restOf_l11 o p3 p4 I (fun (v12 : Int32) => (X4_says p2 (0 : Int32) p1 p3 v12 I L).bind (fun q13 => mh_b q13.1 (fun b14 => mh_ix p3 48 (fun k15 => mh_ix p3 48 (fun k17 => (X5_rubOf (q13.2 (p1 + 1) k15) b14 (q13.2 (p1 + 2) k17)).bind (fun q19 => (X5_bounded q19 (999 : Int32)).bind (fun q20 => if v12 ≤ q20 then some ((-1 : Int32), q13.2) else some ((v12 - q20), q13.2)))))))) mh_fuel (0 : Int32) b1)
set_option maxHeartbeats 4000000 in
set_option maxRecDepth 100000 in
theorem t_X0_restOf {into : Option Nat} {L : mh_L} {I : mh_I} {o : Nat} {p1 : Nat} {p2 : Nat} {p3 : Int32} {p4 : Int64} (ho : hs_X0 (SHX into) o) (hf1 : hs_X1 (SHX into) p1) (hf2 : hs_X4 (SHX into) p2) {res : Int32 × mh_I} (h : X0_restOf o p1 p2 p3 p4 I L = some res) : mh_CT yX0_restOf cX0_restOf 9 (some .int) (mh_rm 3) (SHX into) I L [.ref o, .ref p1, .ref p2, .int p3, .long p4] (mh_ret (some (.int res.1)) (SHX into) res.2 L) := by
  refine mh_ofW (ini := false) RX0 rfl (by decide) (fun h => by cases h) (Nat.le_of_ble_eq_true rfl) ?_
  show w_X0_restOf (SHX into) (mh_ret (some (.int res.1)) (SHX into) res.2 L) I L 0 [(0, .ref o), (1, .ref p1), (2, .ref p2), (3, .int p3), (4, .long p4)] []
  unfold X0_restOf at h
  refine mw_iconst (v := 0) dX0_restOf_0 (by decide) ?_
  refine mw_istore dX0_restOf_1 (by decide) rfl ?_
  refine mw_iload_n dX0_restOf_3 4 rfl ?_
  refine mw_bipush (v := 6) dX0_restOf_4 (by decide) ?_
  refine mw_iadd dX0_restOf_6 ?_
  refine mw_iconst (v := 1) dX0_restOf_7 (by decide) ?_
  refine mw_isub dX0_restOf_8 ?_
  obtain ⟨b1, eb1, h⟩ := mh_b_some h
  refine mw_nmi eb1 ?_
  refine mw_istore dX0_restOf_9 (by decide) rfl ?_
  refine mw_loc [2, 3, 4, 5, 6, 1, 0] rfl ?_
  refine t_X0_restOf_l11 ho hf1 hf2 _ _ _ h (fun v12 h => ?_)
  refine mw_aload_n dX0_restOf_59 1 rfl ?_
  refine mw_iconst (v := 0) dX0_restOf_60 (by decide) ?_
  refine mw_aload_n dX0_restOf_61 0 rfl ?_
  refine mw_iload_n dX0_restOf_62 2 rfl ?_
  refine mw_iload dX0_restOf_63 3 rfl ?_
  obtain ⟨q13, hq13, h⟩ := mh_bind h
  refine mw_vr (dc := 2) (ci := 4) (fs := (fsX4 p2)) (T := TX4) (N := 5) cv_X0_55 wd_86 dX0_restOf_65 [.int (0 : Int32), .ref p1, .int p3, .int v12] [.int v12, .int p3, .ref p1, .int (0 : Int32), .ref p2] rfl rfl hf2.1 rfl (t_X4_says hf2 hf1 hq13) ⟨by decide, by decide⟩ (Nat.le_of_ble_eq_true rfl) ⟨rfl, rfl⟩ ?_
  obtain ⟨b14, eb14, h⟩ := mh_b_some h
  refine mw_nmi eb14 ?_
  refine mw_istore dX0_restOf_68 (by decide) rfl ?_
  refine mw_aload_n dX0_restOf_70 1 rfl ?_
  refine mw_getr (b := (p1 + 1)) (fs := (fsX1 p1)) gf_X0_61 dX0_restOf_71 hf1.1 rfl ?_
  refine mw_iload_n dX0_restOf_74 3 rfl ?_
  obtain ⟨k15, hk16, hk16n, hk16l, h⟩ := mh_ix_some h
  refine mw_xiald dX0_restOf_75 hf1.2.1 hk16 hk16n ?_
  refine mw_iload dX0_restOf_76 0 rfl ?_
  refine mw_aload_n dX0_restOf_78 1 rfl ?_
  refine mw_getr (b := (p1 + 2)) (fs := (fsX1 p1)) gf_X0_64 dX0_restOf_79 hf1.1 rfl ?_
  refine mw_iload_n dX0_restOf_82 3 rfl ?_
  obtain ⟨k17, hk18, hk18n, hk18l, h⟩ := mh_ix_some h
  refine mw_xiald dX0_restOf_83 hf1.2.2 hk18 hk18n ?_
  obtain ⟨q19, hq19, h⟩ := mh_bind h
  refine mw_sr (dc := 0) cs_X0_67 wd_116 dX0_restOf_84 [.int (q13.2 (p1 + 1) k15), .int b14, .int (q13.2 (p1 + 2) k17)] [.int (q13.2 (p1 + 2) k17), .int b14, .int (q13.2 (p1 + 1) k15)] rfl rfl (t_X5_rubOf hq19) ⟨by decide, by decide⟩ (Nat.le_of_ble_eq_true rfl) ⟨rfl, rfl⟩ ?_
  refine mw_sipush (v := 999) dX0_restOf_87 (by decide) ?_
  obtain ⟨q20, hq20, h⟩ := mh_bind h
  refine mw_sr (dc := 1) cs_X0_71 wd_111 dX0_restOf_90 [.int q19, .int (999 : Int32)] [.int (999 : Int32), .int q19] rfl rfl (t_X5_bounded hq20) ⟨by decide, by decide⟩ (Nat.le_of_ble_eq_true rfl) ⟨rfl, rfl⟩ ?_
  refine mw_istore dX0_restOf_93 (by decide) rfl ?_
  refine mw_iload dX0_restOf_95 5 rfl ?_
  refine mw_iload dX0_restOf_97 0 rfl ?_
  refine mw_icmp_le (tgt := 110) dX0_restOf_99 (by decide) (fun hc21 => ?_) (fun hc21 => ?_)
  · replace h := mh_ifp hc21 h
    refine mw_iconst (v := -1) dX0_restOf_110 (by decide) ?_
    obtain rfl := Option.some.inj h
    exact mw_iret dX0_restOf_111 rfl rfl (Nat.le_of_ble_eq_true rfl) (Nat.le_refl 0) mh_ret_rfl
  · replace h := mh_ifn hc21 h
    refine mw_iload dX0_restOf_102 5 rfl ?_
    refine mw_iload dX0_restOf_104 0 rfl ?_
    refine mw_isub dX0_restOf_106 ?_
    refine mw_goto (tgt := 111) dX0_restOf_107 (by decide) ?_
    obtain rfl := Option.some.inj h
    exact mw_iret dX0_restOf_111 rfl rfl (Nat.le_of_ble_eq_true rfl) (Nat.le_refl 0) mh_ret_rfl
abbrev w_X0_runFrom (sh : List mh_C) (Φ : mh_P) (I : mh_I) (L : mh_L) (pc : Nat) (lv : List (Nat × Value)) (st : List Value) : Prop := mh_W RX0 cX0_runFrom 13 (some .int) false (mh_rm 4) 46 0 0 mh_noX Φ 0 sh I L pc lv st
def X0_runFrom_l14 (u0 : Nat) (u1 : Nat) (u2 : Nat) (u3 : Int64) (u5 : Int64) (u7 : Int32) (k178 : (mh_I → mh_L → Option (Int32 × mh_I × mh_L))) : Nat → Int32 → mh_I → mh_L → Option (Int32 × mh_I × mh_L)
  | 0, _, _, _ => none
  | n + 1, u8, I, L => if u8 < 0 then (k178 I L) else mh_j (fun (s1 : Int64) => mh_j (fun (s5 : Int32) => (X5_hasBit u5 u8).bind (fun q10 => mh_j (fun (v11 : Int32) (I12 : mh_I) => mh_ix u8 48 (fun k22 => mh_j (fun (L24 : mh_L) => mh_b (u8 + (-1 : Int32)) (fun b30 => (X0_runFrom_l14 u0 u1 u2 u3 u5 u7 k178 n b30 (mh_u I12 (u0 + 1) k22 v11) L24))) (fun J25 => if v11 < 0 then if s5 = 0 then (J25 L) else (X5_bit u8).bind (fun q26 => (J25 (mh_ul L u0 2 ((L u0 2) ||| q26)))) else (X5_bit u8).bind (fun q28 => (J25 (mh_ul L u0 1 ((L u0 1) ||| q28))))))) (fun J13 => if q10 = 0 then (X1_keeps u1 u8 I L).bind (fun q14 => if q14 = 0 then (X5_hasBit u3 u8).bind (fun q15 => if q15 = 0 then if s5 = 0 then (J13 (-1 : Int32) I) else (X0_restOf u0 u1 u2 u8 s1 I L).bind (fun q16 => mh_b q16.1 (fun b17 => (J13 b17 q16.2))) else (J13 u7 I)) else (J13 (-1 : Int32) I)) else (J13 (-1 : Int32) I)))) (fun J6 => mh_j ((J6 (0 : Int32))) (fun J7 => if (lg_cmp s1 (0 : Int64)) = 0 then J7 else if (lg_cmp (s1 &&& (L u0 1)) s1) = 0 then (J6 (1 : Int32)) else J7))) (fun J2 => if (lg_cmp (L u0 1) (0 : Int64)) = 0 then (J2 (0 : Int64)) else (X1_over u1 u8 I).bind (fun q3 => (J2 q3)))
set_option maxHeartbeats 4000000 in
set_option maxRecDepth 100000 in
theorem t_X0_runFrom_l14 {into : Option Nat} {u0 : Nat} (hf0 : hs_X0 (SHX into) u0) {u1 : Nat} (hf1 : hs_X1 (SHX into) u1) {u2 : Nat} (hf2 : hs_X4 (SHX into) u2) {u3 : Int64} {u5 : Int64} {u7 : Int32} {k178 : (mh_I → mh_L → Option (Int32 × mh_I × mh_L))} {res : Int32 × mh_I × mh_L} (n : Nat) (u8 : Int32) (I : mh_I) (L : mh_L) (h : X0_runFrom_l14 u0 u1 u2 u3 u5 u7 k178 n u8 I L = some res) (hk178 : ∀ (I : mh_I) (L : mh_L), k178 I L = some res → w_X0_runFrom (SHX into) (mh_ret (some (.int res.1)) (SHX into) res.2.1 res.2.2) I L 178 [(0, .ref u0)] []) : w_X0_runFrom (SHX into) (mh_ret (some (.int res.1)) (SHX into) res.2.1 res.2.2) I L 14 [(0, .ref u0), (1, .ref u1), (2, .ref u2), (3, .long u3), (5, .long u5), (7, .int u7), (8, .int u8)] [] := by
  induction n generalizing u8 I L with
  | zero => rw [X0_runFrom_l14] at h; cases h
  | succ n ih =>
    rw [X0_runFrom_l14] at h
    refine mw_iload dX0_runFrom_14 6 rfl ?_
    refine mw_if_lt (tgt := 178) dX0_runFrom_16 (by decide) (fun hc31 => ?_) (fun hc31 => ?_)
    · replace h := mh_ifp hc31 h
      refine mw_loc [0] rfl ?_
      exact hk178 _ _ h
    · replace h := mh_ifn hc31 h
      refine mw_aload_n dX0_runFrom_19 0 rfl ?_
      refine mw_getl (fs := (fsX0 u0)) gf_X0_15 dX0_runFrom_20 hf0.1 rfl ?_
      refine mw_lconst (v := 0) dX0_runFrom_23 (by decide) ?_
      refine mw_lcmp dX0_runFrom_24 ?_
      refine mh_jw (fun J2 => ∀ (s1 : Int64), J2 s1 = some res → w_X0_runFrom (SHX into) (mh_ret (some (.int res.1)) (SHX into) res.2.1 res.2.2) I L 38 [(0, .ref u0), (1, .ref u1), (2, .ref u2), (3, .long u3), (5, .long u5), (7, .int u7), (8, .int u8)] [.long s1]) h (fun s1 h => ?_) (fun J2 hJ2 h => ?_)
      · refine mw_lstore dX0_runFrom_38 (by decide) rfl ?_
        refine mw_lload dX0_runFrom_40 0 rfl ?_
        refine mw_lconst (v := 0) dX0_runFrom_42 (by decide) ?_
        refine mw_lcmp dX0_runFrom_43 ?_
        refine mh_jw (fun J6 => ∀ (s5 : Int32), J6 s5 = some res → w_X0_runFrom (SHX into) (mh_ret (some (.int res.1)) (SHX into) res.2.1 res.2.2) I L 65 [(0, .ref u0), (1, .ref u1), (2, .ref u2), (3, .long u3), (5, .long u5), (7, .int u7), (8, .int u8), (9, .long s1)] [.int s5]) h (fun s5 h => ?_) (fun J6 hJ6 h => ?_)
        · refine mw_istore dX0_runFrom_65 (by decide) rfl ?_
          refine mw_iconst (v := -1) dX0_runFrom_67 (by decide) ?_
          refine mw_istore dX0_runFrom_68 (by decide) rfl ?_
          refine mw_lload dX0_runFrom_70 6 rfl ?_
          refine mw_iload dX0_runFrom_72 8 rfl ?_
          obtain ⟨q10, hq10, h⟩ := mh_bind h
          refine mw_sz (dc := 0) cs_X0_28 wd_31 dX0_runFrom_74 [.long u5, .int u8] [.int u8, .long u5] rfl rfl (t_X5_hasBit hq10) ⟨by decide, by decide⟩ (Nat.le_of_ble_eq_true rfl) ⟨rfl, rfl⟩ (fun zq10 => ?_)
          refine mh_jw (fun J13 => ∀ (v11 : Int32) (I12 : mh_I), J13 v11 I12 = some res → w_X0_runFrom (SHX into) (mh_ret (some (.int res.1)) (SHX into) res.2.1 res.2.2) I12 L 122 [(0, .ref u0), (1, .ref u1), (2, .ref u2), (3, .long u3), (5, .long u5), (7, .int u7), (8, .int u8), (11, .int s5), (12, .int v11)] []) h (fun v11 I12 h => ?_) (fun J13 hJ13 h => ?_)
          · refine mw_aload_n dX0_runFrom_122 0 rfl ?_
            refine mw_getr (b := (u0 + 1)) (fs := (fsX0 u0)) gf_X0_9 dX0_runFrom_123 hf0.1 rfl ?_
            refine mw_iload dX0_runFrom_126 6 rfl ?_
            refine mw_iload dX0_runFrom_128 8 rfl ?_
            obtain ⟨k22, hk23, hk23n, hk23l, h⟩ := mh_ix_some h
            refine mw_xiast dX0_runFrom_130 hf0.2 hk23 hk23n ?_
            refine mw_iload dX0_runFrom_131 8 rfl ?_
            refine mh_jw (fun J25 => ∀ (L24 : mh_L), J25 L24 = some res → w_X0_runFrom (SHX into) (mh_ret (some (.int res.1)) (SHX into) res.2.1 res.2.2) (mh_u I12 (u0 + 1) k22 v11) L24 172 [(0, .ref u0), (1, .ref u1), (2, .ref u2), (3, .long u3), (5, .long u5), (7, .int u7), (8, .int u8)] []) h (fun L24 h => ?_) (fun J25 hJ25 h => ?_)
            · obtain ⟨b30, eb30, h⟩ := mh_b_some h
              refine mw_iinc (v := b30) dX0_runFrom_172 6 rfl (by rw [← eb30]; rfl) (by decide) rfl ?_
              refine mw_goto (tgt := 14) dX0_runFrom_175 (by decide) ?_
              refine mw_loc [1, 2, 3, 4, 5, 6, 0] rfl ?_
              exact ih _ _ _ h
            · refine mw_if_lt (tgt := 153) dX0_runFrom_133 (by decide) (fun hc29 => ?_) (fun hc29 => ?_)
              · replace h := mh_ifp hc29 h
                refine mw_iload dX0_runFrom_153 7 rfl ?_
                refine mw_if_eq (tgt := 172) dX0_runFrom_155 (by decide) (fun hc27 => ?_) (fun hc27 => ?_)
                · replace h := mh_ifp hc27 h
                  refine mw_loc [0, 1, 2, 3, 4, 5, 6] rfl ?_
                  exact hJ25 _ h
                · replace h := mh_ifn hc27 h
                  refine mw_aload_n dX0_runFrom_158 0 rfl ?_
                  refine mw_dup dX0_runFrom_159 rfl ?_
                  refine mw_getl (fs := (fsX0 u0)) gf_X0_19 dX0_runFrom_160 hf0.1 rfl ?_
                  refine mw_iload dX0_runFrom_163 6 rfl ?_
                  obtain ⟨q26, hq26, h⟩ := mh_bind h
                  refine mw_sr (dc := 0) cs_X0_40 wd_34 dX0_runFrom_165 [.int u8] [.int u8, .long (L u0 2), .ref u0] rfl rfl (t_X5_bit hq26) ⟨by decide, by decide⟩ (Nat.le_of_ble_eq_true rfl) ⟨rfl, rfl⟩ ?_
                  refine mw_lor dX0_runFrom_168 ?_
                  refine mw_putl (fs := (fsX0 u0)) pf_X0_19 (fun h => by cases h) dX0_runFrom_169 hf0.1 rfl ?_
                  refine mw_loc [0, 1, 2, 3, 4, 5, 6] rfl ?_
                  exact hJ25 _ h
              · replace h := mh_ifn hc29 h
                refine mw_aload_n dX0_runFrom_136 0 rfl ?_
                refine mw_dup dX0_runFrom_137 rfl ?_
                refine mw_getl (fs := (fsX0 u0)) gf_X0_15 dX0_runFrom_138 hf0.1 rfl ?_
                refine mw_iload dX0_runFrom_141 6 rfl ?_
                obtain ⟨q28, hq28, h⟩ := mh_bind h
                refine mw_sr (dc := 0) cs_X0_40 wd_34 dX0_runFrom_143 [.int u8] [.int u8, .long (L u0 1), .ref u0] rfl rfl (t_X5_bit hq28) ⟨by decide, by decide⟩ (Nat.le_of_ble_eq_true rfl) ⟨rfl, rfl⟩ ?_
                refine mw_lor dX0_runFrom_146 ?_
                refine mw_putl (fs := (fsX0 u0)) pf_X0_15 (fun h => by cases h) dX0_runFrom_147 hf0.1 rfl ?_
                refine mw_goto (tgt := 172) dX0_runFrom_150 (by decide) ?_
                refine mw_loc [0, 1, 2, 3, 4, 5, 6] rfl ?_
                exact hJ25 _ h
          · refine mw_if_ne (tgt := 122) dX0_runFrom_77 (by decide) (fun hc21 => ?_) (fun hc21 => ?_)
            · replace h := mh_ifn hc21 h
              refine mw_loc [2, 3, 4, 5, 6, 7, 8, 1, 0] rfl ?_
              exact hJ13 _ _ h
            · replace h := mh_ifp hc21 h
              refine mw_aload_n dX0_runFrom_80 3 rfl ?_
              refine mw_iload dX0_runFrom_81 8 rfl ?_
              obtain ⟨q14, hq14, h⟩ := mh_bind h
              refine mw_vz (dc := 1) (ci := 1) (fs := (fsX1 u1)) (T := TX1) (N := 5) cv_X0_32 wd_73 dX0_runFrom_83 [.int u8] [.int u8, .ref u1] rfl rfl hf1.1 rfl (t_X1_keeps hf1 hq14) ⟨by decide, by decide⟩ (Nat.le_of_ble_eq_true rfl) ⟨rfl, rfl⟩ (fun zq14 => ?_)
              refine mw_if_ne (tgt := 122) dX0_runFrom_86 (by decide) (fun hc20 => ?_) (fun hc20 => ?_)
              · replace h := mh_ifn hc20 h
                refine mw_loc [2, 3, 4, 5, 6, 7, 8, 1, 0] rfl ?_
                exact hJ13 _ _ h
              · replace h := mh_ifp hc20 h
                refine mw_lload_n dX0_runFrom_89 5 rfl ?_
                refine mw_iload dX0_runFrom_90 8 rfl ?_
                obtain ⟨q15, hq15, h⟩ := mh_bind h
                refine mw_sz (dc := 0) cs_X0_28 wd_31 dX0_runFrom_92 [.long u3, .int u8] [.int u8, .long u3] rfl rfl (t_X5_hasBit hq15) ⟨by decide, by decide⟩ (Nat.le_of_ble_eq_true rfl) ⟨rfl, rfl⟩ (fun zq15 => ?_)
                refine mw_if_eq (tgt := 105) dX0_runFrom_95 (by decide) (fun hc19 => ?_) (fun hc19 => ?_)
                · replace h := mh_ifp hc19 h
                  refine mw_iload dX0_runFrom_105 1 rfl ?_
                  refine mw_if_eq (tgt := 122) dX0_runFrom_107 (by decide) (fun hc18 => ?_) (fun hc18 => ?_)
                  · replace h := mh_ifp hc18 h
                    refine mw_loc [2, 3, 4, 5, 6, 7, 8, 1, 0] rfl ?_
                    exact hJ13 _ _ h
                  · replace h := mh_ifn hc18 h
                    refine mw_aload_n dX0_runFrom_110 2 rfl ?_
                    refine mw_aload_n dX0_runFrom_111 3 rfl ?_
                    refine mw_aload_n dX0_runFrom_112 4 rfl ?_
                    refine mw_iload dX0_runFrom_113 8 rfl ?_
                    refine mw_lload dX0_runFrom_115 9 rfl ?_
                    obtain ⟨q16, hq16, h⟩ := mh_bind h
                    refine mw_vr (dc := 3) (ci := 0) (fs := (fsX0 u0)) (T := TX0) (N := 3) cv_X0_36 wd_78 dX0_runFrom_117 [.ref u1, .ref u2, .int u8, .long s1] [.long s1, .int u8, .ref u2, .ref u1, .ref u0] rfl rfl hf0.1 rfl (t_X0_restOf hf0 hf1 hf2 hq16) ⟨by decide, by decide⟩ (Nat.le_of_ble_eq_true rfl) ⟨rfl, rfl⟩ ?_
                    obtain ⟨b17, eb17, h⟩ := mh_b_some h
                    refine mw_nmi eb17 ?_
                    refine mw_istore dX0_runFrom_120 (by decide) rfl ?_
                    refine mw_loc [2, 3, 4, 5, 6, 7, 8, 1, 0] rfl ?_
                    exact hJ13 _ _ h
                · replace h := mh_ifn hc19 h
                  refine mw_iload dX0_runFrom_98 7 rfl ?_
                  refine mw_istore dX0_runFrom_100 (by decide) rfl ?_
                  refine mw_goto (tgt := 122) dX0_runFrom_102 (by decide) ?_
                  refine mw_loc [2, 3, 4, 5, 6, 7, 8, 1, 0] rfl ?_
                  exact hJ13 _ _ h
        · refine mh_jw (fun J7 => J7 = some res → w_X0_runFrom (SHX into) (mh_ret (some (.int res.1)) (SHX into) res.2.1 res.2.2) I L 64 [(0, .ref u0), (1, .ref u1), (2, .ref u2), (3, .long u3), (5, .long u5), (7, .int u7), (8, .int u8), (9, .long s1)] []) h (fun h => ?_) (fun J7 hJ7 h => ?_)
          · refine mw_iconst (v := 0) dX0_runFrom_64 (by decide) ?_
            refine mw_loc [0, 1, 2, 3, 4, 5, 6, 7] rfl ?_
            exact hJ6 _ h
          · refine mw_if_eq (tgt := 64) dX0_runFrom_44 (by decide) (fun hc9 => ?_) (fun hc9 => ?_)
            · replace h := mh_ifp hc9 h
              refine mw_loc [1, 2, 3, 4, 5, 6, 7, 0] rfl ?_
              exact hJ7  h
            · replace h := mh_ifn hc9 h
              refine mw_lload dX0_runFrom_47 0 rfl ?_
              refine mw_aload_n dX0_runFrom_49 1 rfl ?_
              refine mw_getl (fs := (fsX0 u0)) gf_X0_15 dX0_runFrom_50 hf0.1 rfl ?_
              refine mw_land dX0_runFrom_53 ?_
              refine mw_lload dX0_runFrom_54 0 rfl ?_
              refine mw_lcmp dX0_runFrom_56 ?_
              refine mw_if_ne (tgt := 64) dX0_runFrom_57 (by decide) (fun hc8 => ?_) (fun hc8 => ?_)
              · replace h := mh_ifn hc8 h
                refine mw_loc [1, 2, 3, 4, 5, 6, 7, 0] rfl ?_
                exact hJ7  h
              · replace h := mh_ifp hc8 h
                refine mw_iconst (v := 1) dX0_runFrom_60 (by decide) ?_
                refine mw_goto (tgt := 65) dX0_runFrom_61 (by decide) ?_
                refine mw_loc [1, 2, 3, 4, 5, 6, 7, 0] rfl ?_
                exact hJ6 _ h
      · refine mw_if_ne (tgt := 32) dX0_runFrom_25 (by decide) (fun hc4 => ?_) (fun hc4 => ?_)
        · replace h := mh_ifn hc4 h
          refine mw_aload_n dX0_runFrom_32 1 rfl ?_
          refine mw_iload dX0_runFrom_33 6 rfl ?_
          obtain ⟨q3, hq3, h⟩ := mh_bind h
          refine mw_vr (dc := 1) (ci := 1) (fs := (fsX1 u1)) (T := TX1) (N := 5) cv_X0_22 wd_61 dX0_runFrom_35 [.int u8] [.int u8, .ref u1] rfl rfl hf1.1 rfl (t_X1_over hf1 hq3) ⟨by decide, by decide⟩ (Nat.le_of_ble_eq_true rfl) ⟨rfl, rfl⟩ ?_
          refine mw_loc [0, 1, 2, 3, 4, 5, 6] rfl ?_
          exact hJ2 _ h
        · replace h := mh_ifp hc4 h
          refine mw_lconst (v := 0) dX0_runFrom_28 (by decide) ?_
          refine mw_goto (tgt := 38) dX0_runFrom_29 (by decide) ?_
          refine mw_loc [0, 1, 2, 3, 4, 5, 6] rfl ?_
          exact hJ2 _ h
def X0_runFrom (o : Nat) (p1 : Nat) (p2 : Nat) (p3 : Int64) (p5 : Int64) (p7 : Int32) (I : mh_I) (L : mh_L) : Option (Int32 × mh_I × mh_L) := X0_runFrom_l14 o p1 p2 p3 p5 p7 (fun (I32 : mh_I) (L33 : mh_L) => (J13_bitCount_95d88 (L33 o 1)).bind (fun q34 => some (q34, I32, L33))) mh_fuel (47 : Int32) I (mh_ul (mh_ul L o 1 (0 : Int64)) o 2 (0 : Int64))
set_option maxHeartbeats 4000000 in
set_option maxRecDepth 100000 in
theorem t_X0_runFrom {into : Option Nat} {L : mh_L} {I : mh_I} {o : Nat} {p1 : Nat} {p2 : Nat} {p3 : Int64} {p5 : Int64} {p7 : Int32} (ho : hs_X0 (SHX into) o) (hf1 : hs_X1 (SHX into) p1) (hf2 : hs_X4 (SHX into) p2) {res : Int32 × mh_I × mh_L} (h : X0_runFrom o p1 p2 p3 p5 p7 I L = some res) : mh_CT yX0_runFrom cX0_runFrom 13 (some .int) (mh_rm 4) (SHX into) I L [.ref o, .ref p1, .ref p2, .long p3, .long p5, .int p7] (mh_ret (some (.int res.1)) (SHX into) res.2.1 res.2.2) := by
  refine mh_ofW (ini := false) RX0 rfl (by decide) (fun h => by cases h) (Nat.le_of_ble_eq_true rfl) ?_
  show w_X0_runFrom (SHX into) (mh_ret (some (.int res.1)) (SHX into) res.2.1 res.2.2) I L 0 [(0, .ref o), (1, .ref p1), (2, .ref p2), (3, .long p3), (5, .long p5), (7, .int p7)] []
  unfold X0_runFrom at h
  refine mw_aload_n dX0_runFrom_0 0 rfl ?_
  refine mw_lconst (v := 0) dX0_runFrom_1 (by decide) ?_
  refine mw_putl (fs := (fsX0 o)) pf_X0_15 (fun h => by cases h) dX0_runFrom_2 ho.1 rfl ?_
  refine mw_aload_n dX0_runFrom_5 0 rfl ?_
  refine mw_lconst (v := 0) dX0_runFrom_6 (by decide) ?_
  refine mw_putl (fs := (fsX0 o)) pf_X0_19 (fun h => by cases h) dX0_runFrom_7 ho.1 rfl ?_
  refine mw_bipush (v := 47) dX0_runFrom_10 (by decide) ?_
  refine mw_istore dX0_runFrom_12 (by decide) rfl ?_
  refine mw_loc [1, 2, 3, 4, 5, 6, 0] rfl ?_
  refine t_X0_runFrom_l14 ho hf1 hf2 _ _ _ _ h (fun I32 L33 h => ?_)
  refine mw_aload_n dX0_runFrom_178 0 rfl ?_
  refine mw_getl (fs := (fsX0 o)) gf_X0_15 dX0_runFrom_179 ho.1 rfl ?_
  obtain ⟨q34, hq34, h⟩ := mh_bind h
  refine mw_sr (dc := 0) cs_X0_43 wd_121 dX0_runFrom_182 [.long (L33 o 1)] [.long (L33 o 1)] rfl rfl (t_J13_bitCount_95d88 hq34) ⟨by decide, by decide⟩ (Nat.le_of_ble_eq_true rfl) ⟨rfl, rfl⟩ ?_
  obtain rfl := Option.some.inj h
  exact mw_iret dX0_runFrom_185 rfl rfl (Nat.le_of_ble_eq_true rfl) (Nat.le_refl 0) mh_ret_rfl
abbrev w_X1_become (sh : List mh_C) (Φ : mh_P) (I : mh_I) (L : mh_L) (pc : Nat) (lv : List (Nat × Value)) (st : List Value) : Prop := mh_W RX1 cX1_become 4 none false (mh_rm 0) 46 0 0 mh_noX Φ 0 sh I L pc lv st
def X1_become (o : Nat) (p1 : Int32) (p2 : Int32) (p3 : Int32) (I : mh_I) : Option (mh_I) := mh_ix p1 48 (fun k1 => mh_ix p1 48 (fun k3 => some (mh_u (mh_u I (o + 1) k1 p2) (o + 2) k3 p3)))
set_option maxHeartbeats 4000000 in
set_option maxRecDepth 100000 in
theorem t_X1_become {into : Option Nat} {L : mh_L} {I : mh_I} {o : Nat} {p1 : Int32} {p2 : Int32} {p3 : Int32} (ho : hs_X1 (SHX into) o) {res : mh_I} (h : X1_become o p1 p2 p3 I = some res) : mh_CT yX1_become cX1_become 4 none (mh_rm 0) (SHX into) I L [.ref o, .int p1, .int p2, .int p3] (mh_ret none (SHX into) res L) := by
  refine mh_ofW (ini := false) RX1 rfl (by decide) (fun h => by cases h) (Nat.le_of_ble_eq_true rfl) ?_
  show w_X1_become (SHX into) (mh_ret none (SHX into) res L) I L 0 [(0, .ref o), (1, .int p1), (2, .int p2), (3, .int p3)] []
  unfold X1_become at h
  refine mw_aload_n dX1_become_0 0 rfl ?_
  refine mw_getr (b := (o + 1)) (fs := (fsX1 o)) gf_X1_9 dX1_become_1 ho.1 rfl ?_
  refine mw_iload_n dX1_become_4 1 rfl ?_
  refine mw_iload_n dX1_become_5 2 rfl ?_
  obtain ⟨k1, hk2, hk2n, hk2l, h⟩ := mh_ix_some h
  refine mw_xiast dX1_become_6 ho.2.1 hk2 hk2n ?_
  refine mw_aload_n dX1_become_7 0 rfl ?_
  refine mw_getr (b := (o + 2)) (fs := (fsX1 o)) gf_X1_15 dX1_become_8 ho.1 rfl ?_
  refine mw_iload_n dX1_become_11 1 rfl ?_
  refine mw_iload_n dX1_become_12 3 rfl ?_
  obtain ⟨k3, hk4, hk4n, hk4l, h⟩ := mh_ix_some h
  refine mw_xiast dX1_become_13 ho.2.2 hk4 hk4n ?_
  obtain rfl := Option.some.inj h
  exact mw_vret dX1_become_14 rfl (Nat.le_of_ble_eq_true rfl) (Nat.le_refl 0) mh_ret_rfl
abbrev w_X4_clear (sh : List mh_C) (Φ : mh_P) (I : mh_I) (L : mh_L) (pc : Nat) (lv : List (Nat × Value)) (st : List Value) : Prop := mh_W RX4 cX4_clear 1 none false (mh_rm 0) 46 0 0 mh_noX Φ 0 sh I L pc lv st
def X4_clear (o : Nat) (I : mh_I) : Option (mh_I) := some (mh_u I o 1 (0 : Int32))
set_option maxHeartbeats 4000000 in
set_option maxRecDepth 100000 in
theorem t_X4_clear {into : Option Nat} {L : mh_L} {I : mh_I} {o : Nat} (ho : hs_X4 (SHX into) o) {res : mh_I} (h : X4_clear o I = some res) : mh_CT yX4_clear cX4_clear 1 none (mh_rm 0) (SHX into) I L [.ref o] (mh_ret none (SHX into) res L) := by
  refine mh_ofW (ini := false) RX4 rfl (by decide) (fun h => by cases h) (Nat.le_of_ble_eq_true rfl) ?_
  show w_X4_clear (SHX into) (mh_ret none (SHX into) res L) I L 0 [(0, .ref o)] []
  unfold X4_clear at h
  refine mw_aload_n dX4_clear_0 0 rfl ?_
  refine mw_iconst (v := 0) dX4_clear_1 (by decide) ?_
  refine mw_puti (fs := (fsX4 o)) pf_X4_21 (fun h => by cases h) rfl rfl dX4_clear_2 ho.1 rfl ?_
  obtain rfl := Option.some.inj h
  exact mw_vret dX4_clear_5 rfl (Nat.le_of_ble_eq_true rfl) (Nat.le_refl 0) mh_ret_rfl
abbrev w_X5_within (sh : List mh_C) (Φ : mh_P) (I : mh_I) (L : mh_L) (pc : Nat) (lv : List (Nat × Value)) (st : List Value) : Prop := mh_W RX5 cX5_within 3 (some .boolean) false (mh_rm 0) 46 0 0 mh_noX Φ 0 sh I L pc lv st
def X5_within (p0 : Int32) (p1 : Int32) (p2 : Int32) : Option (Int32) := if p0 < p1 then some (0 : Int32) else if p2 < p0 then some (0 : Int32) else some (1 : Int32)
set_option maxHeartbeats 4000000 in
set_option maxRecDepth 100000 in
theorem t_X5_within {into : Option Nat} {L : mh_L} {I : mh_I} {p0 : Int32} {p1 : Int32} {p2 : Int32} {res : Int32} (h : X5_within p0 p1 p2 = some res) : mh_CT yX5_within cX5_within 3 (some .boolean) (mh_rm 0) (SHX into) I L [.int p0, .int p1, .int p2] (mh_retz res (SHX into) I L) := by
  refine mh_ofW (ini := false) RX5 rfl (by decide) (fun h => by cases h) (Nat.le_of_ble_eq_true rfl) ?_
  show w_X5_within (SHX into) (mh_retz res (SHX into) I L) I L 0 [(0, .int p0), (1, .int p1), (2, .int p2)] []
  unfold X5_within at h
  refine mw_iload_n dX5_within_0 0 rfl ?_
  refine mw_iload_n dX5_within_1 1 rfl ?_
  refine mw_icmp_lt (tgt := 14) dX5_within_2 (by decide) (fun hc2 => ?_) (fun hc2 => ?_)
  · replace h := mh_ifp hc2 h
    refine mw_iconst (v := 0) dX5_within_14 (by decide) ?_
    obtain rfl := Option.some.inj h
    exact mw_zret dX5_within_15 rfl (Or.inl rfl) (Nat.le_of_ble_eq_true rfl) (Nat.le_refl 0) (mh_retz_rfl (Or.inl rfl))
  · replace h := mh_ifn hc2 h
    refine mw_iload_n dX5_within_5 0 rfl ?_
    refine mw_iload_n dX5_within_6 2 rfl ?_
    refine mw_icmp_gt (tgt := 14) dX5_within_7 (by decide) (fun hc1 => ?_) (fun hc1 => ?_)
    · replace h := mh_ifp hc1 h
      refine mw_iconst (v := 0) dX5_within_14 (by decide) ?_
      obtain rfl := Option.some.inj h
      exact mw_zret dX5_within_15 rfl (Or.inl rfl) (Nat.le_of_ble_eq_true rfl) (Nat.le_refl 0) (mh_retz_rfl (Or.inl rfl))
    · replace h := mh_ifn hc1 h
      refine mw_iconst (v := 1) dX5_within_10 (by decide) ?_
      refine mw_goto (tgt := 15) dX5_within_11 (by decide) ?_
      obtain rfl := Option.some.inj h
      exact mw_zret dX5_within_15 rfl (Or.inr rfl) (Nat.le_of_ble_eq_true rfl) (Nat.le_refl 0) (mh_retz_rfl (Or.inr rfl))
abbrev w_X4_add (sh : List mh_C) (Φ : mh_P) (I : mh_I) (L : mh_L) (pc : Nat) (lv : List (Nat × Value)) (st : List Value) : Prop := mh_W RX4 cX4_add 2 none false (mh_rm 0) 46 0 0 mh_noX Φ 0 sh I L pc lv st
def X4_add (o : Nat) (p1 : Int32) (I : mh_I) : Option (mh_I) := if (160 : Int32) ≤ (I o 1) then some I else mh_ix (I o 1) 160 (fun k1 => some (mh_u (mh_u I o 1 ((I o 1) + (1 : Int32))) (o + 1) k1 p1))
set_option maxHeartbeats 4000000 in
set_option maxRecDepth 100000 in
theorem t_X4_add {into : Option Nat} {L : mh_L} {I : mh_I} {o : Nat} {p1 : Int32} (ho : hs_X4 (SHX into) o) {res : mh_I} (h : X4_add o p1 I = some res) : mh_CT yX4_add cX4_add 2 none (mh_rm 0) (SHX into) I L [.ref o, .int p1] (mh_ret none (SHX into) res L) := by
  refine mh_ofW (ini := false) RX4 rfl (by decide) (fun h => by cases h) (Nat.le_of_ble_eq_true rfl) ?_
  show w_X4_add (SHX into) (mh_ret none (SHX into) res L) I L 0 [(0, .ref o), (1, .int p1)] []
  unfold X4_add at h
  refine mw_aload_n dX4_add_0 0 rfl ?_
  refine mw_geti (fs := (fsX4 o)) gf_X4_21 dX4_add_1 ho.1 rfl ?_
  refine mw_sipush (v := 160) dX4_add_4 (by decide) ?_
  refine mw_icmp_ge (tgt := 27) dX4_add_7 (by decide) (fun hc3 => ?_) (fun hc3 => ?_)
  · replace h := mh_ifp hc3 h
    obtain rfl := Option.some.inj h
    exact mw_vret dX4_add_27 rfl (Nat.le_of_ble_eq_true rfl) (Nat.le_refl 0) mh_ret_rfl
  · replace h := mh_ifn hc3 h
    refine mw_aload_n dX4_add_10 0 rfl ?_
    refine mw_getr (b := (o + 1)) (fs := (fsX4 o)) gf_X4_9 dX4_add_11 ho.1 rfl ?_
    refine mw_aload_n dX4_add_14 0 rfl ?_
    refine mw_dup dX4_add_15 rfl ?_
    refine mw_geti (fs := (fsX4 o)) gf_X4_21 dX4_add_16 ho.1 rfl ?_
    refine mw_dup_x1 dX4_add_19 rfl rfl ?_
    refine mw_iconst (v := 1) dX4_add_20 (by decide) ?_
    refine mw_iadd dX4_add_21 ?_
    refine mw_puti (fs := (fsX4 o)) pf_X4_21 (fun h => by cases h) rfl rfl dX4_add_22 ho.1 rfl ?_
    refine mw_iload_n dX4_add_25 1 rfl ?_
    obtain ⟨k1, hk2, hk2n, hk2l, h⟩ := mh_ix_some h
    refine mw_xiast dX4_add_26 ho.2.1 hk2 hk2n ?_
    obtain rfl := Option.some.inj h
    exact mw_vret dX4_add_27 rfl (Nat.le_of_ble_eq_true rfl) (Nat.le_refl 0) mh_ret_rfl
abbrev w_X4_endPart (sh : List mh_C) (Φ : mh_P) (I : mh_I) (L : mh_L) (pc : Nat) (lv : List (Nat × Value)) (st : List Value) : Prop := mh_W RX4 cX4_endPart 2 none false (mh_rm 0) 46 0 0 mh_noX Φ 0 sh I L pc lv st
def X4_endPart (o : Nat) (p1 : Int32) (I : mh_I) : Option (mh_I) := mh_ix p1 3 (fun k1 => some (mh_u I (o + 2) k1 (I o 1)))
set_option maxHeartbeats 4000000 in
set_option maxRecDepth 100000 in
theorem t_X4_endPart {into : Option Nat} {L : mh_L} {I : mh_I} {o : Nat} {p1 : Int32} (ho : hs_X4 (SHX into) o) {res : mh_I} (h : X4_endPart o p1 I = some res) : mh_CT yX4_endPart cX4_endPart 2 none (mh_rm 0) (SHX into) I L [.ref o, .int p1] (mh_ret none (SHX into) res L) := by
  refine mh_ofW (ini := false) RX4 rfl (by decide) (fun h => by cases h) (Nat.le_of_ble_eq_true rfl) ?_
  show w_X4_endPart (SHX into) (mh_ret none (SHX into) res L) I L 0 [(0, .ref o), (1, .int p1)] []
  unfold X4_endPart at h
  refine mw_aload_n dX4_endPart_0 0 rfl ?_
  refine mw_getr (b := (o + 2)) (fs := (fsX4 o)) gf_X4_15 dX4_endPart_1 ho.1 rfl ?_
  refine mw_iload_n dX4_endPart_4 1 rfl ?_
  refine mw_aload_n dX4_endPart_5 0 rfl ?_
  refine mw_geti (fs := (fsX4 o)) gf_X4_21 dX4_endPart_6 ho.1 rfl ?_
  obtain ⟨k1, hk2, hk2n, hk2l, h⟩ := mh_ix_some h
  refine mw_xiast dX4_endPart_9 ho.2.2.1 hk2 hk2n ?_
  obtain rfl := Option.some.inj h
  exact mw_vret dX4_endPart_10 rfl (Nat.le_of_ble_eq_true rfl) (Nat.le_refl 0) mh_ret_rfl
abbrev w_X5_isByte (sh : List mh_C) (Φ : mh_P) (I : mh_I) (L : mh_L) (pc : Nat) (lv : List (Nat × Value)) (st : List Value) : Prop := mh_W RX5 cX5_isByte 1 (some .boolean) false (mh_rm 1) 46 0 0 mh_noX Φ 0 sh I L pc lv st
def X5_isByte (p0 : Int32) : Option (Int32) := (X5_within p0 (0 : Int32) (255 : Int32)).bind (fun q1 => some q1)
set_option maxHeartbeats 4000000 in
set_option maxRecDepth 100000 in
theorem t_X5_isByte {into : Option Nat} {L : mh_L} {I : mh_I} {p0 : Int32} {res : Int32} (h : X5_isByte p0 = some res) : mh_CT yX5_isByte cX5_isByte 1 (some .boolean) (mh_rm 1) (SHX into) I L [.int p0] (mh_retz res (SHX into) I L) := by
  refine mh_ofW (ini := false) RX5 rfl (by decide) (fun h => by cases h) (Nat.le_of_ble_eq_true rfl) ?_
  show w_X5_isByte (SHX into) (mh_retz res (SHX into) I L) I L 0 [(0, .int p0)] []
  unfold X5_isByte at h
  refine mw_iload_n dX5_isByte_0 0 rfl ?_
  refine mw_iconst (v := 0) dX5_isByte_1 (by decide) ?_
  refine mw_sipush (v := 255) dX5_isByte_2 (by decide) ?_
  obtain ⟨q1, hq1, h⟩ := mh_bind h
  refine mw_sz (dc := 0) cs_X5_97 wd_28 dX5_isByte_5 [.int p0, .int (0 : Int32), .int (255 : Int32)] [.int (255 : Int32), .int (0 : Int32), .int p0] rfl rfl (t_X5_within hq1) ⟨by decide, by decide⟩ (Nat.le_of_ble_eq_true rfl) ⟨rfl, rfl⟩ (fun zq1 => ?_)
  obtain rfl := Option.some.inj h
  exact mw_zret dX5_isByte_8 rfl zq1 (Nat.le_of_ble_eq_true rfl) (Nat.le_refl 0) (mh_retz_rfl zq1)
abbrev w_X5_isLoop (sh : List mh_C) (Φ : mh_P) (I : mh_I) (L : mh_L) (pc : Nat) (lv : List (Nat × Value)) (st : List Value) : Prop := mh_W RX5 cX5_isLoop 1 (some .boolean) false (mh_rm 1) 46 0 0 mh_noX Φ 0 sh I L pc lv st
def X5_isLoop (p0 : Int32) : Option (Int32) := (X5_within p0 (0 : Int32) (47 : Int32)).bind (fun q1 => some q1)
set_option maxHeartbeats 4000000 in
set_option maxRecDepth 100000 in
theorem t_X5_isLoop {into : Option Nat} {L : mh_L} {I : mh_I} {p0 : Int32} {res : Int32} (h : X5_isLoop p0 = some res) : mh_CT yX5_isLoop cX5_isLoop 1 (some .boolean) (mh_rm 1) (SHX into) I L [.int p0] (mh_retz res (SHX into) I L) := by
  refine mh_ofW (ini := false) RX5 rfl (by decide) (fun h => by cases h) (Nat.le_of_ble_eq_true rfl) ?_
  show w_X5_isLoop (SHX into) (mh_retz res (SHX into) I L) I L 0 [(0, .int p0)] []
  unfold X5_isLoop at h
  refine mw_iload_n dX5_isLoop_0 0 rfl ?_
  refine mw_iconst (v := 0) dX5_isLoop_1 (by decide) ?_
  refine mw_bipush (v := 47) dX5_isLoop_2 (by decide) ?_
  obtain ⟨q1, hq1, h⟩ := mh_bind h
  refine mw_sz (dc := 0) cs_X5_97 wd_28 dX5_isLoop_4 [.int p0, .int (0 : Int32), .int (47 : Int32)] [.int (47 : Int32), .int (0 : Int32), .int p0] rfl rfl (t_X5_within hq1) ⟨by decide, by decide⟩ (Nat.le_of_ble_eq_true rfl) ⟨rfl, rfl⟩ (fun zq1 => ?_)
  obtain rfl := Option.some.inj h
  exact mw_zret dX5_isLoop_7 rfl zq1 (Nat.le_of_ble_eq_true rfl) (Nat.le_refl 0) (mh_retz_rfl zq1)
abbrev w_X5_isKnit (sh : List mh_C) (Φ : mh_P) (I : mh_I) (L : mh_L) (pc : Nat) (lv : List (Nat × Value)) (st : List Value) : Prop := mh_W RX5 cX5_isKnit 2 (some .boolean) false (mh_rm 1) 46 0 0 mh_noX Φ 0 sh I L pc lv st
def X5_isKnit (p0 : Int32) (p1 : Int32) : Option (Int32) := (X5_within p0 (0 : Int32) (5 : Int32)).bind (fun q1 => if q1 = 0 then some (0 : Int32) else (X5_within p1 (0 : Int32) (9 : Int32)).bind (fun q2 => if q2 = 0 then some (0 : Int32) else some (1 : Int32)))
set_option maxHeartbeats 4000000 in
set_option maxRecDepth 100000 in
theorem t_X5_isKnit {into : Option Nat} {L : mh_L} {I : mh_I} {p0 : Int32} {p1 : Int32} {res : Int32} (h : X5_isKnit p0 p1 = some res) : mh_CT yX5_isKnit cX5_isKnit 2 (some .boolean) (mh_rm 1) (SHX into) I L [.int p0, .int p1] (mh_retz res (SHX into) I L) := by
  refine mh_ofW (ini := false) RX5 rfl (by decide) (fun h => by cases h) (Nat.le_of_ble_eq_true rfl) ?_
  show w_X5_isKnit (SHX into) (mh_retz res (SHX into) I L) I L 0 [(0, .int p0), (1, .int p1)] []
  unfold X5_isKnit at h
  refine mw_iload_n dX5_isKnit_0 0 rfl ?_
  refine mw_iconst (v := 0) dX5_isKnit_1 (by decide) ?_
  refine mw_iconst (v := 5) dX5_isKnit_2 (by decide) ?_
  obtain ⟨q1, hq1, h⟩ := mh_bind h
  refine mw_sz (dc := 0) cs_X5_97 wd_28 dX5_isKnit_3 [.int p0, .int (0 : Int32), .int (5 : Int32)] [.int (5 : Int32), .int (0 : Int32), .int p0] rfl rfl (t_X5_within hq1) ⟨by decide, by decide⟩ (Nat.le_of_ble_eq_true rfl) ⟨rfl, rfl⟩ (fun zq1 => ?_)
  refine mw_if_eq (tgt := 23) dX5_isKnit_6 (by decide) (fun hc4 => ?_) (fun hc4 => ?_)
  · replace h := mh_ifp hc4 h
    refine mw_iconst (v := 0) dX5_isKnit_23 (by decide) ?_
    obtain rfl := Option.some.inj h
    exact mw_zret dX5_isKnit_24 rfl (Or.inl rfl) (Nat.le_of_ble_eq_true rfl) (Nat.le_refl 0) (mh_retz_rfl (Or.inl rfl))
  · replace h := mh_ifn hc4 h
    refine mw_iload_n dX5_isKnit_9 1 rfl ?_
    refine mw_iconst (v := 0) dX5_isKnit_10 (by decide) ?_
    refine mw_bipush (v := 9) dX5_isKnit_11 (by decide) ?_
    obtain ⟨q2, hq2, h⟩ := mh_bind h
    refine mw_sz (dc := 0) cs_X5_97 wd_28 dX5_isKnit_13 [.int p1, .int (0 : Int32), .int (9 : Int32)] [.int (9 : Int32), .int (0 : Int32), .int p1] rfl rfl (t_X5_within hq2) ⟨by decide, by decide⟩ (Nat.le_of_ble_eq_true rfl) ⟨rfl, rfl⟩ (fun zq2 => ?_)
    refine mw_if_eq (tgt := 23) dX5_isKnit_16 (by decide) (fun hc3 => ?_) (fun hc3 => ?_)
    · replace h := mh_ifp hc3 h
      refine mw_iconst (v := 0) dX5_isKnit_23 (by decide) ?_
      obtain rfl := Option.some.inj h
      exact mw_zret dX5_isKnit_24 rfl (Or.inl rfl) (Nat.le_of_ble_eq_true rfl) (Nat.le_refl 0) (mh_retz_rfl (Or.inl rfl))
    · replace h := mh_ifn hc3 h
      refine mw_iconst (v := 1) dX5_isKnit_19 (by decide) ?_
      refine mw_goto (tgt := 24) dX5_isKnit_20 (by decide) ?_
      obtain rfl := Option.some.inj h
      exact mw_zret dX5_isKnit_24 rfl (Or.inr rfl) (Nat.le_of_ble_eq_true rfl) (Nat.le_refl 0) (mh_retz_rfl (Or.inr rfl))
abbrev w_X5_isPull (sh : List mh_C) (Φ : mh_P) (I : mh_I) (L : mh_L) (pc : Nat) (lv : List (Nat × Value)) (st : List Value) : Prop := mh_W RX5 cX5_isPull 1 (some .boolean) false (mh_rm 1) 46 0 0 mh_noX Φ 0 sh I L pc lv st
def X5_isPull (p0 : Int32) : Option (Int32) := (X5_within p0 (0 : Int32) (99 : Int32)).bind (fun q1 => some q1)
set_option maxHeartbeats 4000000 in
set_option maxRecDepth 100000 in
theorem t_X5_isPull {into : Option Nat} {L : mh_L} {I : mh_I} {p0 : Int32} {res : Int32} (h : X5_isPull p0 = some res) : mh_CT yX5_isPull cX5_isPull 1 (some .boolean) (mh_rm 1) (SHX into) I L [.int p0] (mh_retz res (SHX into) I L) := by
  refine mh_ofW (ini := false) RX5 rfl (by decide) (fun h => by cases h) (Nat.le_of_ble_eq_true rfl) ?_
  show w_X5_isPull (SHX into) (mh_retz res (SHX into) I L) I L 0 [(0, .int p0)] []
  unfold X5_isPull at h
  refine mw_iload_n dX5_isPull_0 0 rfl ?_
  refine mw_iconst (v := 0) dX5_isPull_1 (by decide) ?_
  refine mw_bipush (v := 99) dX5_isPull_2 (by decide) ?_
  obtain ⟨q1, hq1, h⟩ := mh_bind h
  refine mw_sz (dc := 0) cs_X5_97 wd_28 dX5_isPull_4 [.int p0, .int (0 : Int32), .int (99 : Int32)] [.int (99 : Int32), .int (0 : Int32), .int p0] rfl rfl (t_X5_within hq1) ⟨by decide, by decide⟩ (Nat.le_of_ble_eq_true rfl) ⟨rfl, rfl⟩ (fun zq1 => ?_)
  obtain rfl := Option.some.inj h
  exact mw_zret dX5_isPull_7 rfl zq1 (Nat.le_of_ble_eq_true rfl) (Nat.le_refl 0) (mh_retz_rfl zq1)
