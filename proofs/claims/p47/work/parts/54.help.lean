abbrev w_L_at (sc : mh_Sc) (sh : List mh_C) (Φ : mh_P) (I : mh_I) (L : mh_L) (pc : Nat) (lv : List (Nat × Value)) (st : List Value) : Prop := mh_W RL cL_at 2 (some .int) false (mh_rm 0) sh.length 0 0 (mh_scr sc) Φ 0 sh I L pc lv st
def L_at (sc : mh_Sc) (p1 : Int32) : Option (Int32) := if (nI sc.1) ≤ p1 then some (0 : Int32) else mh_ix p1 sc.1 (fun k1 => some (sc.2 k1))
set_option maxHeartbeats 4000000 in
set_option maxRecDepth 100000 in
theorem t_L_at {sc : mh_Sc} {sh : List mh_C} {L : mh_L} {I : mh_I} {p1 : Int32} {res : Int32} (h : L_at sc p1 = some res) : mh_CTs sc yL_at cL_at 2 (some .int) (mh_rm 0) sh I L [.ref 1040, .int p1] (mh_ret (some (.int res)) sh I L) := by
  refine mh_ofWs (ini := false) RL rfl (by decide) (fun h => by cases h) (Nat.le_of_ble_eq_true rfl) ?_
  show w_L_at sc sh (mh_ret (some (.int res)) sh I L) I L 0 [(0, .ref 1040), (1, .int p1)] []
  have hcs : sh.length - sh.length ≤ (mh_rm 0).cells ∧ 0 ≤ (mh_rm 0).slots := ⟨by rw [Nat.sub_self]; exact Nat.zero_le _, Nat.zero_le _⟩
  unfold L_at at h
  refine mw_iload_n dL_at_0 1 rfl ?_
  refine mw_aload_n dL_at_1 0 rfl ?_
  refine mw_slen dL_at_2 ?_
  refine mw_icmp_ge (tgt := 12) dL_at_3 (by decide) (fun hc3 => ?_) (fun hc3 => ?_)
  · replace h := mh_ifp hc3 h
    refine mw_iconst (v := 0) dL_at_12 (by decide) ?_
    obtain rfl := Option.some.inj h
    exact mw_iret dL_at_13 rfl rfl (by rw [Nat.sub_self]; exact Nat.le_refl 0) (Nat.le_refl 0) mh_ret_rfl
  · replace h := mh_ifn hc3 h
    refine mw_aload_n dL_at_6 0 rfl ?_
    refine mw_iload_n dL_at_7 1 rfl ?_
    obtain ⟨k1, hk2, hk2n, hk2l, h⟩ := mh_ix_some h
    refine mw_sld dL_at_8 hk2 hk2n ?_
    refine mw_goto (tgt := 13) dL_at_9 (by decide) ?_
    obtain rfl := Option.some.inj h
    exact mw_iret dL_at_13 rfl rfl (by rw [Nat.sub_self]; exact Nat.le_refl 0) (Nat.le_refl 0) mh_ret_rfl
abbrev w_L_plain (sc : mh_Sc) (sh : List mh_C) (Φ : mh_P) (I : mh_I) (L : mh_L) (pc : Nat) (lv : List (Nat × Value)) (st : List Value) : Prop := mh_W RL cL_plain 1 (some .boolean) false (mh_rm 1) sh.length 0 0 (mh_scr sc) Φ 0 sh I L pc lv st
def L_plain (sc : mh_Sc) : Option (Int32) := (L_at sc (0 : Int32)).bind (fun q1 => if ((q1 >>> ((1 : Int32) &&& 31)) &&& (3 : Int32)) = (3 : Int32) then some (0 : Int32) else some (1 : Int32))
set_option maxHeartbeats 4000000 in
set_option maxRecDepth 100000 in
theorem t_L_plain {sc : mh_Sc} {sh : List mh_C} {L : mh_L} {I : mh_I} {res : Int32} (h : L_plain sc = some res) : mh_CTs sc yL_plain cL_plain 1 (some .boolean) (mh_rm 1) sh I L [.ref 1040] (mh_retz res sh I L) := by
  refine mh_ofWs (ini := false) RL rfl (by decide) (fun h => by cases h) (Nat.le_of_ble_eq_true rfl) ?_
  show w_L_plain sc sh (mh_retz res sh I L) I L 0 [(0, .ref 1040)] []
  have hcs : sh.length - sh.length ≤ (mh_rm 1).cells ∧ 0 ≤ (mh_rm 1).slots := ⟨by rw [Nat.sub_self]; exact Nat.zero_le _, Nat.zero_le _⟩
  unfold L_plain at h
  refine mw_aload_n dL_plain_0 0 rfl ?_
  refine mw_iconst (v := 0) dL_plain_1 (by decide) ?_
  obtain ⟨q1, hq1, h⟩ := mh_bind h
  refine mws_r (dc := 0) cs_L_58 wd_169 dL_plain_2 [.ref 1040, .int (0 : Int32)] [.int (0 : Int32), .ref 1040] rfl rfl (t_L_at hq1) ⟨Nat.le_of_ble_eq_true rfl, Nat.le_of_ble_eq_true rfl⟩ (Nat.le_of_ble_eq_true rfl) hcs rfl ?_
  refine mw_iconst (v := 1) dL_plain_5 (by decide) ?_
  refine mw_ishr dL_plain_6 ?_
  refine mw_iconst (v := 3) dL_plain_7 (by decide) ?_
  refine mw_iand dL_plain_8 ?_
  refine mw_iconst (v := 3) dL_plain_9 (by decide) ?_
  refine mw_icmp_eq (tgt := 17) dL_plain_10 (by decide) (fun hc2 => ?_) (fun hc2 => ?_)
  · replace h := mh_ifp hc2 h
    refine mw_iconst (v := 0) dL_plain_17 (by decide) ?_
    obtain rfl := Option.some.inj h
    exact mw_zret dL_plain_18 rfl (Or.inl rfl) (by rw [Nat.sub_self]; exact Nat.le_refl 0) (Nat.le_refl 0) (mh_retz_rfl (Or.inl rfl))
  · replace h := mh_ifn hc2 h
    refine mw_iconst (v := 1) dL_plain_13 (by decide) ?_
    refine mw_goto (tgt := 18) dL_plain_14 (by decide) ?_
    obtain rfl := Option.some.inj h
    exact mw_zret dL_plain_18 rfl (Or.inr rfl) (by rw [Nat.sub_self]; exact Nat.le_refl 0) (Nat.le_refl 0) (mh_retz_rfl (Or.inr rfl))
abbrev w_L_kind (sc : mh_Sc) (sh : List mh_C) (Φ : mh_P) (I : mh_I) (L : mh_L) (pc : Nat) (lv : List (Nat × Value)) (st : List Value) : Prop := mh_W RL cL_kind 3 (some .int) false (mh_rm 1) sh.length 0 0 (mh_scr sc) Φ 0 sh I L pc lv st
def L_kind (sc : mh_Sc) (p1 : Int32) : Option (Int32) := (L_at sc ((1 : Int32) + (p1 / (12 : Int32)))).bind (fun q1 => mh_b ((q1 >>> (((2 : Int32) * (mh_rem p1 (12 : Int32))) &&& 31)) &&& (3 : Int32)) (fun b2 => if b2 = 0 then some (1 : Int32) else if b2 = (3 : Int32) then (L_at sc ((5 : Int32) + (mh_rem p1 (4 : Int32)))).bind (fun q3 => some (mh_rem ((q3 >>> ((p1 / (4 : Int32)) &&& 31)) &&& (7 : Int32)) (6 : Int32))) else some (0 : Int32)))
set_option maxHeartbeats 4000000 in
set_option maxRecDepth 100000 in
theorem t_L_kind {sc : mh_Sc} {sh : List mh_C} {L : mh_L} {I : mh_I} {p1 : Int32} {res : Int32} (h : L_kind sc p1 = some res) : mh_CTs sc yL_kind cL_kind 3 (some .int) (mh_rm 1) sh I L [.ref 1040, .int p1] (mh_ret (some (.int res)) sh I L) := by
  refine mh_ofWs (ini := false) RL rfl (by decide) (fun h => by cases h) (Nat.le_of_ble_eq_true rfl) ?_
  show w_L_kind sc sh (mh_ret (some (.int res)) sh I L) I L 0 [(0, .ref 1040), (1, .int p1)] []
  have hcs : sh.length - sh.length ≤ (mh_rm 1).cells ∧ 0 ≤ (mh_rm 1).slots := ⟨by rw [Nat.sub_self]; exact Nat.zero_le _, Nat.zero_le _⟩
  unfold L_kind at h
  refine mw_aload_n dL_kind_0 0 rfl ?_
  refine mw_iconst (v := 1) dL_kind_1 (by decide) ?_
  refine mw_iload_n dL_kind_2 1 rfl ?_
  refine mw_bipush (v := 12) dL_kind_3 (by decide) ?_
  refine mw_idiv dL_kind_5 (by decide) ?_
  refine mw_iadd dL_kind_6 ?_
  obtain ⟨q1, hq1, h⟩ := mh_bind h
  refine mws_r (dc := 0) cs_L_58 wd_169 dL_kind_7 [.ref 1040, .int ((1 : Int32) + (p1 / (12 : Int32)))] [.int ((1 : Int32) + (p1 / (12 : Int32))), .ref 1040] rfl rfl (t_L_at hq1) ⟨Nat.le_of_ble_eq_true rfl, Nat.le_of_ble_eq_true rfl⟩ (Nat.le_of_ble_eq_true rfl) hcs rfl ?_
  refine mw_iconst (v := 2) dL_kind_10 (by decide) ?_
  refine mw_iload_n dL_kind_11 1 rfl ?_
  refine mw_bipush (v := 12) dL_kind_12 (by decide) ?_
  refine mw_irem dL_kind_14 (by decide) ?_
  refine mw_imul dL_kind_15 ?_
  refine mw_ishr dL_kind_16 ?_
  refine mw_iconst (v := 3) dL_kind_17 (by decide) ?_
  refine mw_iand dL_kind_18 ?_
  obtain ⟨b2, eb2, h⟩ := mh_b_some h
  refine mw_nmi eb2 ?_
  refine mw_istore_n dL_kind_19 (by decide) rfl ?_
  refine mw_iload_n dL_kind_20 0 rfl ?_
  refine mw_if_ne (tgt := 28) dL_kind_21 (by decide) (fun hc5 => ?_) (fun hc5 => ?_)
  · replace h := mh_ifn hc5 h
    refine mw_iload_n dL_kind_28 0 rfl ?_
    refine mw_iconst (v := 3) dL_kind_29 (by decide) ?_
    refine mw_icmp_ne (tgt := 55) dL_kind_30 (by decide) (fun hc4 => ?_) (fun hc4 => ?_)
    · replace h := mh_ifn hc4 h
      refine mw_iconst (v := 0) dL_kind_55 (by decide) ?_
      obtain rfl := Option.some.inj h
      exact mw_iret dL_kind_56 rfl rfl (by rw [Nat.sub_self]; exact Nat.le_refl 0) (Nat.le_refl 0) mh_ret_rfl
    · replace h := mh_ifp hc4 h
      refine mw_aload_n dL_kind_33 1 rfl ?_
      refine mw_iconst (v := 5) dL_kind_34 (by decide) ?_
      refine mw_iload_n dL_kind_35 2 rfl ?_
      refine mw_iconst (v := 4) dL_kind_36 (by decide) ?_
      refine mw_irem dL_kind_37 (by decide) ?_
      refine mw_iadd dL_kind_38 ?_
      obtain ⟨q3, hq3, h⟩ := mh_bind h
      refine mws_r (dc := 0) cs_L_58 wd_169 dL_kind_39 [.ref 1040, .int ((5 : Int32) + (mh_rem p1 (4 : Int32)))] [.int ((5 : Int32) + (mh_rem p1 (4 : Int32))), .ref 1040] rfl rfl (t_L_at hq3) ⟨Nat.le_of_ble_eq_true rfl, Nat.le_of_ble_eq_true rfl⟩ (Nat.le_of_ble_eq_true rfl) hcs rfl ?_
      refine mw_iload_n dL_kind_42 2 rfl ?_
      refine mw_iconst (v := 4) dL_kind_43 (by decide) ?_
      refine mw_idiv dL_kind_44 (by decide) ?_
      refine mw_ishr dL_kind_45 ?_
      refine mw_bipush (v := 7) dL_kind_46 (by decide) ?_
      refine mw_iand dL_kind_48 ?_
      refine mw_bipush (v := 6) dL_kind_49 (by decide) ?_
      refine mw_irem dL_kind_51 (by decide) ?_
      refine mw_goto (tgt := 56) dL_kind_52 (by decide) ?_
      obtain rfl := Option.some.inj h
      exact mw_iret dL_kind_56 rfl rfl (by rw [Nat.sub_self]; exact Nat.le_refl 0) (Nat.le_refl 0) mh_ret_rfl
  · replace h := mh_ifp hc5 h
    refine mw_iconst (v := 1) dL_kind_24 (by decide) ?_
    refine mw_goto (tgt := 56) dL_kind_25 (by decide) ?_
    obtain rfl := Option.some.inj h
    exact mw_iret dL_kind_56 rfl rfl (by rw [Nat.sub_self]; exact Nat.le_refl 0) (Nat.le_refl 0) mh_ret_rfl
abbrev w_L_more (sc : mh_Sc) (sh : List mh_C) (Φ : mh_P) (I : mh_I) (L : mh_L) (pc : Nat) (lv : List (Nat × Value)) (st : List Value) : Prop := mh_W RL cL_more 2 (some .int) false (mh_rm 1) sh.length 0 0 (mh_scr sc) Φ 0 sh I L pc lv st
def L_more (sc : mh_Sc) (p1 : Int32) : Option (Int32) := (L_at sc ((5 : Int32) + (mh_rem (p1 + (1 : Int32)) (4 : Int32)))).bind (fun q1 => some (mh_rem ((q1 >>> ((p1 / (3 : Int32)) &&& 31)) &&& (15 : Int32)) (10 : Int32)))
set_option maxHeartbeats 4000000 in
set_option maxRecDepth 100000 in
theorem t_L_more {sc : mh_Sc} {sh : List mh_C} {L : mh_L} {I : mh_I} {p1 : Int32} {res : Int32} (h : L_more sc p1 = some res) : mh_CTs sc yL_more cL_more 2 (some .int) (mh_rm 1) sh I L [.ref 1040, .int p1] (mh_ret (some (.int res)) sh I L) := by
  refine mh_ofWs (ini := false) RL rfl (by decide) (fun h => by cases h) (Nat.le_of_ble_eq_true rfl) ?_
  show w_L_more sc sh (mh_ret (some (.int res)) sh I L) I L 0 [(0, .ref 1040), (1, .int p1)] []
  have hcs : sh.length - sh.length ≤ (mh_rm 1).cells ∧ 0 ≤ (mh_rm 1).slots := ⟨by rw [Nat.sub_self]; exact Nat.zero_le _, Nat.zero_le _⟩
  unfold L_more at h
  refine mw_aload_n dL_more_0 0 rfl ?_
  refine mw_iconst (v := 5) dL_more_1 (by decide) ?_
  refine mw_iload_n dL_more_2 1 rfl ?_
  refine mw_iconst (v := 1) dL_more_3 (by decide) ?_
  refine mw_iadd dL_more_4 ?_
  refine mw_iconst (v := 4) dL_more_5 (by decide) ?_
  refine mw_irem dL_more_6 (by decide) ?_
  refine mw_iadd dL_more_7 ?_
  obtain ⟨q1, hq1, h⟩ := mh_bind h
  refine mws_r (dc := 0) cs_L_58 wd_169 dL_more_8 [.ref 1040, .int ((5 : Int32) + (mh_rem (p1 + (1 : Int32)) (4 : Int32)))] [.int ((5 : Int32) + (mh_rem (p1 + (1 : Int32)) (4 : Int32))), .ref 1040] rfl rfl (t_L_at hq1) ⟨Nat.le_of_ble_eq_true rfl, Nat.le_of_ble_eq_true rfl⟩ (Nat.le_of_ble_eq_true rfl) hcs rfl ?_
  refine mw_iload_n dL_more_11 1 rfl ?_
  refine mw_iconst (v := 3) dL_more_12 (by decide) ?_
  refine mw_idiv dL_more_13 (by decide) ?_
  refine mw_ishr dL_more_14 ?_
  refine mw_bipush (v := 15) dL_more_15 (by decide) ?_
  refine mw_iand dL_more_17 ?_
  refine mw_bipush (v := 10) dL_more_18 (by decide) ?_
  refine mw_irem dL_more_20 (by decide) ?_
  obtain rfl := Option.some.inj h
  exact mw_iret dL_more_21 rfl rfl (by rw [Nat.sub_self]; exact Nat.le_refl 0) (Nat.le_refl 0) mh_ret_rfl
abbrev w_L_pinned (sc : mh_Sc) (sh : List mh_C) (Φ : mh_P) (I : mh_I) (L : mh_L) (pc : Nat) (lv : List (Nat × Value)) (st : List Value) : Prop := mh_W RL cL_pinned 2 (some .boolean) false (mh_rm 1) sh.length 0 0 (mh_scr sc) Φ 0 sh I L pc lv st
def L_pinned (sc : mh_Sc) (p1 : Int32) : Option (Int32) := (L_at sc (0 : Int32)).bind (fun q1 => if ((q1 >>> ((6 : Int32) &&& 31)) &&& (63 : Int32)) = p1 then some (1 : Int32) else (L_at sc (0 : Int32)).bind (fun q2 => if ((q2 >>> ((12 : Int32) &&& 31)) &&& (63 : Int32)) = p1 then some (1 : Int32) else some (0 : Int32)))
set_option maxHeartbeats 4000000 in
set_option maxRecDepth 100000 in
theorem t_L_pinned {sc : mh_Sc} {sh : List mh_C} {L : mh_L} {I : mh_I} {p1 : Int32} {res : Int32} (h : L_pinned sc p1 = some res) : mh_CTs sc yL_pinned cL_pinned 2 (some .boolean) (mh_rm 1) sh I L [.ref 1040, .int p1] (mh_retz res sh I L) := by
  refine mh_ofWs (ini := false) RL rfl (by decide) (fun h => by cases h) (Nat.le_of_ble_eq_true rfl) ?_
  show w_L_pinned sc sh (mh_retz res sh I L) I L 0 [(0, .ref 1040), (1, .int p1)] []
  have hcs : sh.length - sh.length ≤ (mh_rm 1).cells ∧ 0 ≤ (mh_rm 1).slots := ⟨by rw [Nat.sub_self]; exact Nat.zero_le _, Nat.zero_le _⟩
  unfold L_pinned at h
  refine mw_aload_n dL_pinned_0 0 rfl ?_
  refine mw_iconst (v := 0) dL_pinned_1 (by decide) ?_
  obtain ⟨q1, hq1, h⟩ := mh_bind h
  refine mws_r (dc := 0) cs_L_58 wd_169 dL_pinned_2 [.ref 1040, .int (0 : Int32)] [.int (0 : Int32), .ref 1040] rfl rfl (t_L_at hq1) ⟨Nat.le_of_ble_eq_true rfl, Nat.le_of_ble_eq_true rfl⟩ (Nat.le_of_ble_eq_true rfl) hcs rfl ?_
  refine mw_bipush (v := 6) dL_pinned_5 (by decide) ?_
  refine mw_ishr dL_pinned_7 ?_
  refine mw_bipush (v := 63) dL_pinned_8 (by decide) ?_
  refine mw_iand dL_pinned_10 ?_
  refine mw_iload_n dL_pinned_11 1 rfl ?_
  refine mw_icmp_eq (tgt := 30) dL_pinned_12 (by decide) (fun hc4 => ?_) (fun hc4 => ?_)
  · replace h := mh_ifp hc4 h
    refine mw_iconst (v := 1) dL_pinned_30 (by decide) ?_
    refine mw_goto (tgt := 35) dL_pinned_31 (by decide) ?_
    obtain rfl := Option.some.inj h
    exact mw_zret dL_pinned_35 rfl (Or.inr rfl) (by rw [Nat.sub_self]; exact Nat.le_refl 0) (Nat.le_refl 0) (mh_retz_rfl (Or.inr rfl))
  · replace h := mh_ifn hc4 h
    refine mw_aload_n dL_pinned_15 0 rfl ?_
    refine mw_iconst (v := 0) dL_pinned_16 (by decide) ?_
    obtain ⟨q2, hq2, h⟩ := mh_bind h
    refine mws_r (dc := 0) cs_L_58 wd_169 dL_pinned_17 [.ref 1040, .int (0 : Int32)] [.int (0 : Int32), .ref 1040] rfl rfl (t_L_at hq2) ⟨Nat.le_of_ble_eq_true rfl, Nat.le_of_ble_eq_true rfl⟩ (Nat.le_of_ble_eq_true rfl) hcs rfl ?_
    refine mw_bipush (v := 12) dL_pinned_20 (by decide) ?_
    refine mw_ishr dL_pinned_22 ?_
    refine mw_bipush (v := 63) dL_pinned_23 (by decide) ?_
    refine mw_iand dL_pinned_25 ?_
    refine mw_iload_n dL_pinned_26 1 rfl ?_
    refine mw_icmp_ne (tgt := 34) dL_pinned_27 (by decide) (fun hc3 => ?_) (fun hc3 => ?_)
    · replace h := mh_ifn hc3 h
      refine mw_iconst (v := 0) dL_pinned_34 (by decide) ?_
      obtain rfl := Option.some.inj h
      exact mw_zret dL_pinned_35 rfl (Or.inl rfl) (by rw [Nat.sub_self]; exact Nat.le_refl 0) (Nat.le_refl 0) (mh_retz_rfl (Or.inl rfl))
    · replace h := mh_ifp hc3 h
      refine mw_iconst (v := 1) dL_pinned_30 (by decide) ?_
      refine mw_goto (tgt := 35) dL_pinned_31 (by decide) ?_
      obtain rfl := Option.some.inj h
      exact mw_zret dL_pinned_35 rfl (Or.inr rfl) (by rw [Nat.sub_self]; exact Nat.le_refl 0) (Nat.le_refl 0) (mh_retz_rfl (Or.inr rfl))
abbrev w_L_face (sc : mh_Sc) (sh : List mh_C) (Φ : mh_P) (I : mh_I) (L : mh_L) (pc : Nat) (lv : List (Nat × Value)) (st : List Value) : Prop := mh_W RL cL_face 2 (some .int) false (mh_rm 2) sh.length 0 0 (mh_scr sc) Φ 0 sh I L pc lv st
def L_face (sc : mh_Sc) (p1 : Int32) : Option (Int32) := (L_kind sc p1).bind (fun q1 => if q1 = (1 : Int32) then some (1 : Int32) else some (0 : Int32))
set_option maxHeartbeats 4000000 in
set_option maxRecDepth 100000 in
theorem t_L_face {sc : mh_Sc} {sh : List mh_C} {L : mh_L} {I : mh_I} {p1 : Int32} {res : Int32} (h : L_face sc p1 = some res) : mh_CTs sc yL_face cL_face 2 (some .int) (mh_rm 2) sh I L [.ref 1040, .int p1] (mh_ret (some (.int res)) sh I L) := by
  refine mh_ofWs (ini := false) RL rfl (by decide) (fun h => by cases h) (Nat.le_of_ble_eq_true rfl) ?_
  show w_L_face sc sh (mh_ret (some (.int res)) sh I L) I L 0 [(0, .ref 1040), (1, .int p1)] []
  have hcs : sh.length - sh.length ≤ (mh_rm 2).cells ∧ 0 ≤ (mh_rm 2).slots := ⟨by rw [Nat.sub_self]; exact Nat.zero_le _, Nat.zero_le _⟩
  unfold L_face at h
  refine mw_aload_n dL_face_0 0 rfl ?_
  refine mw_iload_n dL_face_1 1 rfl ?_
  obtain ⟨q1, hq1, h⟩ := mh_bind h
  refine mws_r (dc := 1) cs_L_24 wd_441 dL_face_2 [.ref 1040, .int p1] [.int p1, .ref 1040] rfl rfl (t_L_kind hq1) ⟨Nat.le_of_ble_eq_true rfl, Nat.le_of_ble_eq_true rfl⟩ (Nat.le_of_ble_eq_true rfl) hcs rfl ?_
  refine mw_iconst (v := 1) dL_face_5 (by decide) ?_
  refine mw_icmp_ne (tgt := 13) dL_face_6 (by decide) (fun hc2 => ?_) (fun hc2 => ?_)
  · replace h := mh_ifn hc2 h
    refine mw_iconst (v := 0) dL_face_13 (by decide) ?_
    obtain rfl := Option.some.inj h
    exact mw_iret dL_face_14 rfl rfl (by rw [Nat.sub_self]; exact Nat.le_refl 0) (Nat.le_refl 0) mh_ret_rfl
  · replace h := mh_ifp hc2 h
    refine mw_iconst (v := 1) dL_face_9 (by decide) ?_
    refine mw_goto (tgt := 14) dL_face_10 (by decide) ?_
    obtain rfl := Option.some.inj h
    exact mw_iret dL_face_14 rfl rfl (by rw [Nat.sub_self]; exact Nat.le_refl 0) (Nat.le_refl 0) mh_ret_rfl
abbrev w_L_keeps (sc : mh_Sc) (sh : List mh_C) (Φ : mh_P) (I : mh_I) (L : mh_L) (pc : Nat) (lv : List (Nat × Value)) (st : List Value) : Prop := mh_W RL cL_keeps 2 (some .boolean) false (mh_rm 2) sh.length 0 0 (mh_scr sc) Φ 0 sh I L pc lv st
def L_keeps (sc : mh_Sc) (p1 : Int32) : Option (Int32) := (L_kind sc p1).bind (fun q1 => if q1 = (5 : Int32) then some (1 : Int32) else (L_pinned sc p1).bind (fun q2 => if q2 = 0 then some (0 : Int32) else some (1 : Int32)))
set_option maxHeartbeats 4000000 in
set_option maxRecDepth 100000 in
theorem t_L_keeps {sc : mh_Sc} {sh : List mh_C} {L : mh_L} {I : mh_I} {p1 : Int32} {res : Int32} (h : L_keeps sc p1 = some res) : mh_CTs sc yL_keeps cL_keeps 2 (some .boolean) (mh_rm 2) sh I L [.ref 1040, .int p1] (mh_retz res sh I L) := by
  refine mh_ofWs (ini := false) RL rfl (by decide) (fun h => by cases h) (Nat.le_of_ble_eq_true rfl) ?_
  show w_L_keeps sc sh (mh_retz res sh I L) I L 0 [(0, .ref 1040), (1, .int p1)] []
  have hcs : sh.length - sh.length ≤ (mh_rm 2).cells ∧ 0 ≤ (mh_rm 2).slots := ⟨by rw [Nat.sub_self]; exact Nat.zero_le _, Nat.zero_le _⟩
  unfold L_keeps at h
  refine mw_aload_n dL_keeps_0 0 rfl ?_
  refine mw_iload_n dL_keeps_1 1 rfl ?_
  obtain ⟨q1, hq1, h⟩ := mh_bind h
  refine mws_r (dc := 1) cs_L_24 wd_441 dL_keeps_2 [.ref 1040, .int p1] [.int p1, .ref 1040] rfl rfl (t_L_kind hq1) ⟨Nat.le_of_ble_eq_true rfl, Nat.le_of_ble_eq_true rfl⟩ (Nat.le_of_ble_eq_true rfl) hcs rfl ?_
  refine mw_iconst (v := 5) dL_keeps_5 (by decide) ?_
  refine mw_icmp_eq (tgt := 17) dL_keeps_6 (by decide) (fun hc4 => ?_) (fun hc4 => ?_)
  · replace h := mh_ifp hc4 h
    refine mw_iconst (v := 1) dL_keeps_17 (by decide) ?_
    refine mw_goto (tgt := 22) dL_keeps_18 (by decide) ?_
    obtain rfl := Option.some.inj h
    exact mw_zret dL_keeps_22 rfl (Or.inr rfl) (by rw [Nat.sub_self]; exact Nat.le_refl 0) (Nat.le_refl 0) (mh_retz_rfl (Or.inr rfl))
  · replace h := mh_ifn hc4 h
    refine mw_aload_n dL_keeps_9 0 rfl ?_
    refine mw_iload_n dL_keeps_10 1 rfl ?_
    obtain ⟨q2, hq2, h⟩ := mh_bind h
    refine mws_z (dc := 1) cs_L_37 wd_458 dL_keeps_11 [.ref 1040, .int p1] [.int p1, .ref 1040] rfl rfl (t_L_pinned hq2) ⟨Nat.le_of_ble_eq_true rfl, Nat.le_of_ble_eq_true rfl⟩ (Nat.le_of_ble_eq_true rfl) hcs rfl (fun zq2 => ?_)
    refine mw_if_eq (tgt := 21) dL_keeps_14 (by decide) (fun hc3 => ?_) (fun hc3 => ?_)
    · replace h := mh_ifp hc3 h
      refine mw_iconst (v := 0) dL_keeps_21 (by decide) ?_
      obtain rfl := Option.some.inj h
      exact mw_zret dL_keeps_22 rfl (Or.inl rfl) (by rw [Nat.sub_self]; exact Nat.le_refl 0) (Nat.le_refl 0) (mh_retz_rfl (Or.inl rfl))
    · replace h := mh_ifn hc3 h
      refine mw_iconst (v := 1) dL_keeps_17 (by decide) ?_
      refine mw_goto (tgt := 22) dL_keeps_18 (by decide) ?_
      obtain rfl := Option.some.inj h
      exact mw_zret dL_keeps_22 rfl (Or.inr rfl) (by rw [Nat.sub_self]; exact Nat.le_refl 0) (Nat.le_refl 0) (mh_retz_rfl (Or.inr rfl))
abbrev w_L_through (sc : mh_Sc) (sh : List mh_C) (Φ : mh_P) (I : mh_I) (L : mh_L) (pc : Nat) (lv : List (Nat × Value)) (st : List Value) : Prop := mh_W RL cL_through 4 (some .int) false (mh_rm 2) sh.length 0 0 (mh_scr sc) Φ 0 sh I L pc lv st
def L_through (sc : mh_Sc) (p1 : Int32) : Option (Int32) := mh_b ((1 : Int32) <<< ((mh_rem p1 (6 : Int32)) &&& 31)) (fun b1 => mh_j (fun (s2 : Int32) => (L_kind sc p1).bind (fun q5 => if q5 = 2 then some s2 else if q5 = 3 then some (b1 ||| s2) else if q5 = 4 then some (0 : Int32) else some b1)) (fun J3 => if (mh_rem p1 (2 : Int32)) = 0 then (J3 (b1 <<< ((1 : Int32) &&& 31))) else (J3 (b1 >>> ((1 : Int32) &&& 31)))))
set_option maxHeartbeats 4000000 in
set_option maxRecDepth 100000 in
theorem t_L_through {sc : mh_Sc} {sh : List mh_C} {L : mh_L} {I : mh_I} {p1 : Int32} {res : Int32} (h : L_through sc p1 = some res) : mh_CTs sc yL_through cL_through 4 (some .int) (mh_rm 2) sh I L [.ref 1040, .int p1] (mh_ret (some (.int res)) sh I L) := by
  refine mh_ofWs (ini := false) RL rfl (by decide) (fun h => by cases h) (Nat.le_of_ble_eq_true rfl) ?_
  show w_L_through sc sh (mh_ret (some (.int res)) sh I L) I L 0 [(0, .ref 1040), (1, .int p1)] []
  have hcs : sh.length - sh.length ≤ (mh_rm 2).cells ∧ 0 ≤ (mh_rm 2).slots := ⟨by rw [Nat.sub_self]; exact Nat.zero_le _, Nat.zero_le _⟩
  unfold L_through at h
  refine mw_iconst (v := 1) dL_through_0 (by decide) ?_
  refine mw_iload_n dL_through_1 1 rfl ?_
  refine mw_bipush (v := 6) dL_through_2 (by decide) ?_
  refine mw_irem dL_through_4 (by decide) ?_
  refine mw_ishl dL_through_5 ?_
  obtain ⟨b1, eb1, h⟩ := mh_b_some h
  refine mw_nmi eb1 ?_
  refine mw_istore_n dL_through_6 (by decide) rfl ?_
  refine mw_iload_n dL_through_7 2 rfl ?_
  refine mw_iconst (v := 2) dL_through_8 (by decide) ?_
  refine mw_irem dL_through_9 (by decide) ?_
  refine mh_jw (fun J3 => ∀ (s2 : Int32), J3 s2 = some res → w_L_through sc sh (mh_ret (some (.int res)) sh I L) I L 22 [(0, .ref 1040), (1, .int p1), (2, .int b1)] [.int s2]) h (fun s2 h => ?_) (fun J3 hJ3 h => ?_)
  · refine mw_istore_n dL_through_22 (by decide) rfl ?_
    refine mw_aload_n dL_through_23 1 rfl ?_
    refine mw_iload_n dL_through_24 2 rfl ?_
    obtain ⟨q5, hq5, h⟩ := mh_bind h
    refine mws_r (dc := 1) cs_L_24 wd_441 dL_through_25 [.ref 1040, .int p1] [.int p1, .ref 1040] rfl rfl (t_L_kind hq5) ⟨Nat.le_of_ble_eq_true rfl, Nat.le_of_ble_eq_true rfl⟩ (Nat.le_of_ble_eq_true rfl) hcs rfl ?_
    by_cases hc6 : q5 = 2
    · replace h := mh_ifp hc6 h
      refine mw_tableIn (off := 28) (tgt := 56) dL_through_28 (by rw [hc6]; decide) (by rw [hc6]; decide) (by rw [hc6]; rfl) (by decide) ?_
      refine mw_iload_n dL_through_56 0 rfl ?_
      obtain rfl := Option.some.inj h
      exact mw_iret dL_through_57 rfl rfl (by rw [Nat.sub_self]; exact Nat.le_refl 0) (Nat.le_refl 0) mh_ret_rfl
    · replace h := mh_ifn hc6 h
      by_cases hc7 : q5 = 3
      · replace h := mh_ifp hc7 h
        refine mw_tableIn (off := 30) (tgt := 58) dL_through_28 (by rw [hc7]; decide) (by rw [hc7]; decide) (by rw [hc7]; rfl) (by decide) ?_
        refine mw_iload_n dL_through_58 3 rfl ?_
        refine mw_iload_n dL_through_59 0 rfl ?_
        refine mw_ior dL_through_60 ?_
        obtain rfl := Option.some.inj h
        exact mw_iret dL_through_61 rfl rfl (by rw [Nat.sub_self]; exact Nat.le_refl 0) (Nat.le_refl 0) mh_ret_rfl
      · replace h := mh_ifn hc7 h
        by_cases hc8 : q5 = 4
        · replace h := mh_ifp hc8 h
          refine mw_tableIn (off := 34) (tgt := 62) dL_through_28 (by rw [hc8]; decide) (by rw [hc8]; decide) (by rw [hc8]; rfl) (by decide) ?_
          refine mw_iconst (v := 0) dL_through_62 (by decide) ?_
          obtain rfl := Option.some.inj h
          exact mw_iret dL_through_63 rfl rfl (by rw [Nat.sub_self]; exact Nat.le_refl 0) (Nat.le_refl 0) mh_ret_rfl
        · replace h := mh_ifn hc8 h
          refine mw_tableOut (tgt := 64) dL_through_28 (by have e0 := mh_ne (n := 2) hc6 (by decide); have e1 := mh_ne (n := 3) hc7 (by decide); have e2 := mh_ne (n := 4) hc8 (by decide); omega) (by decide) ?_
          refine mw_iload_n dL_through_64 3 rfl ?_
          obtain rfl := Option.some.inj h
          exact mw_iret dL_through_65 rfl rfl (by rw [Nat.sub_self]; exact Nat.le_refl 0) (Nat.le_refl 0) mh_ret_rfl
  · refine mw_if_ne (tgt := 19) dL_through_10 (by decide) (fun hc4 => ?_) (fun hc4 => ?_)
    · replace h := mh_ifn hc4 h
      refine mw_iload_n dL_through_19 0 rfl ?_
      refine mw_iconst (v := 1) dL_through_20 (by decide) ?_
      refine mw_ishr dL_through_21 ?_
      refine mw_loc [1, 2, 0] rfl ?_
      exact hJ3 _ h
    · replace h := mh_ifp hc4 h
      refine mw_iload_n dL_through_13 0 rfl ?_
      refine mw_iconst (v := 1) dL_through_14 (by decide) ?_
      refine mw_ishl dL_through_15 ?_
      refine mw_goto (tgt := 22) dL_through_16 (by decide) ?_
      refine mw_loc [1, 2, 0] rfl ?_
      exact hJ3 _ h
abbrev w_L_held (sc : mh_Sc) (sh : List mh_C) (Φ : mh_P) (I : mh_I) (L : mh_L) (pc : Nat) (lv : List (Nat × Value)) (st : List Value) : Prop := mh_W RL cL_held 2 (some .int) false (mh_rm 1) sh.length 0 0 (mh_scr sc) Φ 0 sh I L pc lv st
def L_held (sc : mh_Sc) (p0 : Int32) (p1 : Int32) : Option (Int32) := some (mh_max (0 : Int32) (mh_min p1 p0))
set_option maxHeartbeats 4000000 in
set_option maxRecDepth 100000 in
theorem t_L_held {sc : mh_Sc} {sh : List mh_C} {L : mh_L} {I : mh_I} {p0 : Int32} {p1 : Int32} {res : Int32} (h : L_held sc p0 p1 = some res) : mh_CTs sc yL_held cL_held 2 (some .int) (mh_rm 1) sh I L [.int p0, .int p1] (mh_ret (some (.int res)) sh I L) := by
  refine mh_ofWs (ini := false) RL rfl (by decide) (fun h => by cases h) (Nat.le_of_ble_eq_true rfl) ?_
  show w_L_held sc sh (mh_ret (some (.int res)) sh I L) I L 0 [(0, .int p0), (1, .int p1)] []
  have hcs : sh.length - sh.length ≤ (mh_rm 1).cells ∧ 0 ≤ (mh_rm 1).slots := ⟨by rw [Nat.sub_self]; exact Nat.zero_le _, Nat.zero_le _⟩
  unfold L_held at h
  refine mw_iconst (v := 0) dL_held_0 (by decide) ?_
  refine mw_iload_n dL_held_1 1 rfl ?_
  refine mw_iload_n dL_held_2 0 rfl ?_
  refine mw_mmin wd_703 ⟨wd_88, wd_14, wd_89⟩ dL_held_3 (by decide) (Nat.le_of_ble_eq_true rfl) (by rw [Nat.sub_self]; exact Nat.le_refl 0) ?_
  refine mw_mmax wd_704 ⟨wd_80, wd_14, wd_81⟩ dL_held_6 (by decide) (Nat.le_of_ble_eq_true rfl) (by rw [Nat.sub_self]; exact Nat.le_refl 0) ?_
  obtain rfl := Option.some.inj h
  exact mw_iret dL_held_9 rfl rfl (by rw [Nat.sub_self]; exact Nat.le_refl 0) (Nat.le_refl 0) mh_ret_rfl
abbrev w_L_asks (sc : mh_Sc) (sh : List mh_C) (Φ : mh_P) (I : mh_I) (L : mh_L) (pc : Nat) (lv : List (Nat × Value)) (st : List Value) : Prop := mh_W RL cL_asks 6 (some .int) false (mh_rm 3) sh.length 0 0 (mh_scr sc) Φ 0 sh I L pc lv st
def L_asks (sc : mh_Sc) (p1 : Int32) (p2 : Int32) (p3 : Int32) (p4 : Int32) : Option (Int32) := (L_plain sc).bind (fun q1 => mh_j (fun (s2 : Int32) => (L_held sc s2 (99 : Int32)).bind (fun q17 => some q17)) (fun J3 => if q1 = 0 then if p1 = 0 then (L_at sc (0 : Int32)).bind (fun q7 => (L_more sc p2).bind (fun q8 => (J3 (((p3 * (q7 &&& (1 : Int32))) + (p2 / (6 : Int32))) - q8)))) else if p1 = (1 : Int32) then (J3 (p3 + p4)) else (L_face sc p2).bind (fun q4 => (L_at sc (0 : Int32)).bind (fun q5 => (J3 (((mh_rem p2 (6 : Int32)) * (p2 / (6 : Int32))) - (q4 * ((q5 >>> ((3 : Int32) &&& 31)) &&& (7 : Int32))))))) else if p1 = 0 then (L_more sc p2).bind (fun q13 => (L_face sc p2).bind (fun q14 => (J3 (((10 : Int32) + q13) - (q14 * (3 : Int32)))))) else if p1 = (1 : Int32) then (L_more sc p2).bind (fun q11 => (J3 ((2 : Int32) + q11))) else (L_face sc p2).bind (fun q10 => (J3 ((1 : Int32) + q10)))))
set_option maxHeartbeats 4000000 in
set_option maxRecDepth 100000 in
theorem t_L_asks {sc : mh_Sc} {sh : List mh_C} {L : mh_L} {I : mh_I} {p1 : Int32} {p2 : Int32} {p3 : Int32} {p4 : Int32} {res : Int32} (h : L_asks sc p1 p2 p3 p4 = some res) : mh_CTs sc yL_asks cL_asks 6 (some .int) (mh_rm 3) sh I L [.ref 1040, .int p1, .int p2, .int p3, .int p4] (mh_ret (some (.int res)) sh I L) := by
  refine mh_ofWs (ini := false) RL rfl (by decide) (fun h => by cases h) (Nat.le_of_ble_eq_true rfl) ?_
  show w_L_asks sc sh (mh_ret (some (.int res)) sh I L) I L 0 [(0, .ref 1040), (1, .int p1), (2, .int p2), (3, .int p3), (4, .int p4)] []
  have hcs : sh.length - sh.length ≤ (mh_rm 3).cells ∧ 0 ≤ (mh_rm 3).slots := ⟨by rw [Nat.sub_self]; exact Nat.zero_le _, Nat.zero_le _⟩
  unfold L_asks at h
  refine mw_aload_n dL_asks_0 0 rfl ?_
  obtain ⟨q1, hq1, h⟩ := mh_bind h
  refine mws_z (dc := 1) cs_L_45 wd_461 dL_asks_1 [.ref 1040] [.ref 1040] rfl rfl (t_L_plain hq1) ⟨Nat.le_of_ble_eq_true rfl, Nat.le_of_ble_eq_true rfl⟩ (Nat.le_of_ble_eq_true rfl) hcs rfl (fun zq1 => ?_)
  refine mh_jw (fun J3 => ∀ (s2 : Int32), J3 s2 = some res → w_L_asks sc sh (mh_ret (some (.int res)) sh I L) I L 120 [] [.int s2]) h (fun s2 h => ?_) (fun J3 hJ3 h => ?_)
  · refine mw_istore dL_asks_120 (by decide) rfl ?_
    refine mw_iload dL_asks_122 0 rfl ?_
    refine mw_bipush (v := 99) dL_asks_124 (by decide) ?_
    obtain ⟨q17, hq17, h⟩ := mh_bind h
    refine mws_r (dc := 1) cs_L_93 wd_702 dL_asks_126 [.int s2, .int (99 : Int32)] [.int (99 : Int32), .int s2] rfl rfl (t_L_held hq17) ⟨Nat.le_of_ble_eq_true rfl, Nat.le_of_ble_eq_true rfl⟩ (Nat.le_of_ble_eq_true rfl) hcs rfl ?_
    obtain rfl := Option.some.inj h
    exact mw_iret dL_asks_129 rfl rfl (by rw [Nat.sub_self]; exact Nat.le_refl 0) (Nat.le_refl 0) mh_ret_rfl
  · refine mw_if_eq (tgt := 55) dL_asks_4 (by decide) (fun hc16 => ?_) (fun hc16 => ?_)
    · replace h := mh_ifp hc16 h
      refine mw_iload_n dL_asks_55 1 rfl ?_
      refine mw_if_ne (tgt := 82) dL_asks_56 (by decide) (fun hc9 => ?_) (fun hc9 => ?_)
      · replace h := mh_ifn hc9 h
        refine mw_iload_n dL_asks_82 1 rfl ?_
        refine mw_iconst (v := 1) dL_asks_83 (by decide) ?_
        refine mw_icmp_ne (tgt := 94) dL_asks_84 (by decide) (fun hc6 => ?_) (fun hc6 => ?_)
        · replace h := mh_ifn hc6 h
          refine mw_iload_n dL_asks_94 2 rfl ?_
          refine mw_bipush (v := 6) dL_asks_95 (by decide) ?_
          refine mw_irem dL_asks_97 (by decide) ?_
          refine mw_iload_n dL_asks_98 2 rfl ?_
          refine mw_bipush (v := 6) dL_asks_99 (by decide) ?_
          refine mw_idiv dL_asks_101 (by decide) ?_
          refine mw_imul dL_asks_102 ?_
          refine mw_aload_n dL_asks_103 0 rfl ?_
          refine mw_iload_n dL_asks_104 2 rfl ?_
          obtain ⟨q4, hq4, h⟩ := mh_bind h
          refine mws_r (dc := 2) cs_L_90 wd_699 dL_asks_105 [.ref 1040, .int p2] [.int p2, .ref 1040, .int ((mh_rem p2 (6 : Int32)) * (p2 / (6 : Int32)))] rfl rfl (t_L_face hq4) ⟨Nat.le_of_ble_eq_true rfl, Nat.le_of_ble_eq_true rfl⟩ (Nat.le_of_ble_eq_true rfl) hcs rfl ?_
          refine mw_aload_n dL_asks_108 0 rfl ?_
          refine mw_iconst (v := 0) dL_asks_109 (by decide) ?_
          obtain ⟨q5, hq5, h⟩ := mh_bind h
          refine mws_r (dc := 0) cs_L_58 wd_169 dL_asks_110 [.ref 1040, .int (0 : Int32)] [.int (0 : Int32), .ref 1040, .int q4, .int ((mh_rem p2 (6 : Int32)) * (p2 / (6 : Int32)))] rfl rfl (t_L_at hq5) ⟨Nat.le_of_ble_eq_true rfl, Nat.le_of_ble_eq_true rfl⟩ (Nat.le_of_ble_eq_true rfl) hcs rfl ?_
          refine mw_iconst (v := 3) dL_asks_113 (by decide) ?_
          refine mw_ishr dL_asks_114 ?_
          refine mw_bipush (v := 7) dL_asks_115 (by decide) ?_
          refine mw_iand dL_asks_117 ?_
          refine mw_imul dL_asks_118 ?_
          refine mw_isub dL_asks_119 ?_
          refine mw_loc [] rfl ?_
          exact hJ3 _ h
        · replace h := mh_ifp hc6 h
          refine mw_iload_n dL_asks_87 3 rfl ?_
          refine mw_iload dL_asks_88 4 rfl ?_
          refine mw_iadd dL_asks_90 ?_
          refine mw_goto (tgt := 120) dL_asks_91 (by decide) ?_
          refine mw_loc [] rfl ?_
          exact hJ3 _ h
      · replace h := mh_ifp hc9 h
        refine mw_iload_n dL_asks_59 3 rfl ?_
        refine mw_aload_n dL_asks_60 0 rfl ?_
        refine mw_iconst (v := 0) dL_asks_61 (by decide) ?_
        obtain ⟨q7, hq7, h⟩ := mh_bind h
        refine mws_r (dc := 0) cs_L_58 wd_169 dL_asks_62 [.ref 1040, .int (0 : Int32)] [.int (0 : Int32), .ref 1040, .int p3] rfl rfl (t_L_at hq7) ⟨Nat.le_of_ble_eq_true rfl, Nat.le_of_ble_eq_true rfl⟩ (Nat.le_of_ble_eq_true rfl) hcs rfl ?_
        refine mw_iconst (v := 1) dL_asks_65 (by decide) ?_
        refine mw_iand dL_asks_66 ?_
        refine mw_imul dL_asks_67 ?_
        refine mw_iload_n dL_asks_68 2 rfl ?_
        refine mw_bipush (v := 6) dL_asks_69 (by decide) ?_
        refine mw_idiv dL_asks_71 (by decide) ?_
        refine mw_iadd dL_asks_72 ?_
        refine mw_aload_n dL_asks_73 0 rfl ?_
        refine mw_iload_n dL_asks_74 2 rfl ?_
        obtain ⟨q8, hq8, h⟩ := mh_bind h
        refine mws_r (dc := 1) cs_L_30 wd_444 dL_asks_75 [.ref 1040, .int p2] [.int p2, .ref 1040, .int ((p3 * (q7 &&& (1 : Int32))) + (p2 / (6 : Int32)))] rfl rfl (t_L_more hq8) ⟨Nat.le_of_ble_eq_true rfl, Nat.le_of_ble_eq_true rfl⟩ (Nat.le_of_ble_eq_true rfl) hcs rfl ?_
        refine mw_isub dL_asks_78 ?_
        refine mw_goto (tgt := 120) dL_asks_79 (by decide) ?_
        refine mw_loc [] rfl ?_
        exact hJ3 _ h
    · replace h := mh_ifn hc16 h
      refine mw_iload_n dL_asks_7 1 rfl ?_
      refine mw_if_ne (tgt := 30) dL_asks_8 (by decide) (fun hc15 => ?_) (fun hc15 => ?_)
      · replace h := mh_ifn hc15 h
        refine mw_iload_n dL_asks_30 1 rfl ?_
        refine mw_iconst (v := 1) dL_asks_31 (by decide) ?_
        refine mw_icmp_ne (tgt := 45) dL_asks_32 (by decide) (fun hc12 => ?_) (fun hc12 => ?_)
        · replace h := mh_ifn hc12 h
          refine mw_iconst (v := 1) dL_asks_45 (by decide) ?_
          refine mw_aload_n dL_asks_46 0 rfl ?_
          refine mw_iload_n dL_asks_47 2 rfl ?_
          obtain ⟨q10, hq10, h⟩ := mh_bind h
          refine mws_r (dc := 2) cs_L_90 wd_699 dL_asks_48 [.ref 1040, .int p2] [.int p2, .ref 1040, .int (1 : Int32)] rfl rfl (t_L_face hq10) ⟨Nat.le_of_ble_eq_true rfl, Nat.le_of_ble_eq_true rfl⟩ (Nat.le_of_ble_eq_true rfl) hcs rfl ?_
          refine mw_iadd dL_asks_51 ?_
          refine mw_goto (tgt := 120) dL_asks_52 (by decide) ?_
          refine mw_loc [] rfl ?_
          exact hJ3 _ h
        · replace h := mh_ifp hc12 h
          refine mw_iconst (v := 2) dL_asks_35 (by decide) ?_
          refine mw_aload_n dL_asks_36 0 rfl ?_
          refine mw_iload_n dL_asks_37 2 rfl ?_
          obtain ⟨q11, hq11, h⟩ := mh_bind h
          refine mws_r (dc := 1) cs_L_30 wd_444 dL_asks_38 [.ref 1040, .int p2] [.int p2, .ref 1040, .int (2 : Int32)] rfl rfl (t_L_more hq11) ⟨Nat.le_of_ble_eq_true rfl, Nat.le_of_ble_eq_true rfl⟩ (Nat.le_of_ble_eq_true rfl) hcs rfl ?_
          refine mw_iadd dL_asks_41 ?_
          refine mw_goto (tgt := 120) dL_asks_42 (by decide) ?_
          refine mw_loc [] rfl ?_
          exact hJ3 _ h
      · replace h := mh_ifp hc15 h
        refine mw_bipush (v := 10) dL_asks_11 (by decide) ?_
        refine mw_aload_n dL_asks_13 0 rfl ?_
        refine mw_iload_n dL_asks_14 2 rfl ?_
        obtain ⟨q13, hq13, h⟩ := mh_bind h
        refine mws_r (dc := 1) cs_L_30 wd_444 dL_asks_15 [.ref 1040, .int p2] [.int p2, .ref 1040, .int (10 : Int32)] rfl rfl (t_L_more hq13) ⟨Nat.le_of_ble_eq_true rfl, Nat.le_of_ble_eq_true rfl⟩ (Nat.le_of_ble_eq_true rfl) hcs rfl ?_
        refine mw_iadd dL_asks_18 ?_
        refine mw_aload_n dL_asks_19 0 rfl ?_
        refine mw_iload_n dL_asks_20 2 rfl ?_
        obtain ⟨q14, hq14, h⟩ := mh_bind h
        refine mws_r (dc := 2) cs_L_90 wd_699 dL_asks_21 [.ref 1040, .int p2] [.int p2, .ref 1040, .int ((10 : Int32) + q13)] rfl rfl (t_L_face hq14) ⟨Nat.le_of_ble_eq_true rfl, Nat.le_of_ble_eq_true rfl⟩ (Nat.le_of_ble_eq_true rfl) hcs rfl ?_
        refine mw_iconst (v := 3) dL_asks_24 (by decide) ?_
        refine mw_imul dL_asks_25 ?_
        refine mw_isub dL_asks_26 ?_
        refine mw_goto (tgt := 120) dL_asks_27 (by decide) ?_
        refine mw_loc [] rfl ?_
        exact hJ3 _ h
abbrev w_L_rubs (sc : mh_Sc) (sh : List mh_C) (Φ : mh_P) (I : mh_I) (L : mh_L) (pc : Nat) (lv : List (Nat × Value)) (st : List Value) : Prop := mh_W RL cL_rubs 5 (some .int) false (mh_rm 4) sh.length 0 0 (mh_scr sc) Φ 0 sh I L pc lv st
def L_rubs (sc : mh_Sc) (p1 : Int32) (p2 : Int32) : Option (Int32) := (L_asks sc (0 : Int32) p1 p2 (0 : Int32)).bind (fun q1 => (L_kind sc p1).bind (fun q2 => if q2 = (3 : Int32) then some ((2 : Int32) * q1) else mh_j ((L_more sc p1).bind (fun q6 => some (q1 + q6))) (fun J3 => if q2 = (1 : Int32) then J3 else if q2 = (5 : Int32) then J3 else some q1)))
set_option maxHeartbeats 4000000 in
set_option maxRecDepth 100000 in
theorem t_L_rubs {sc : mh_Sc} {sh : List mh_C} {L : mh_L} {I : mh_I} {p1 : Int32} {p2 : Int32} {res : Int32} (h : L_rubs sc p1 p2 = some res) : mh_CTs sc yL_rubs cL_rubs 5 (some .int) (mh_rm 4) sh I L [.ref 1040, .int p1, .int p2] (mh_ret (some (.int res)) sh I L) := by
  refine mh_ofWs (ini := false) RL rfl (by decide) (fun h => by cases h) (Nat.le_of_ble_eq_true rfl) ?_
  show w_L_rubs sc sh (mh_ret (some (.int res)) sh I L) I L 0 [(0, .ref 1040), (1, .int p1), (2, .int p2)] []
  have hcs : sh.length - sh.length ≤ (mh_rm 4).cells ∧ 0 ≤ (mh_rm 4).slots := ⟨by rw [Nat.sub_self]; exact Nat.zero_le _, Nat.zero_le _⟩
  unfold L_rubs at h
  refine mw_aload_n dL_rubs_0 0 rfl ?_
  refine mw_iconst (v := 0) dL_rubs_1 (by decide) ?_
  refine mw_iload_n dL_rubs_2 1 rfl ?_
  refine mw_iload_n dL_rubs_3 2 rfl ?_
  refine mw_iconst (v := 0) dL_rubs_4 (by decide) ?_
  obtain ⟨q1, hq1, h⟩ := mh_bind h
  refine mws_r (dc := 3) cs_L_96 wd_696 dL_rubs_5 [.ref 1040, .int (0 : Int32), .int p1, .int p2, .int (0 : Int32)] [.int (0 : Int32), .int p2, .int p1, .int (0 : Int32), .ref 1040] rfl rfl (t_L_asks hq1) ⟨Nat.le_of_ble_eq_true rfl, Nat.le_of_ble_eq_true rfl⟩ (Nat.le_of_ble_eq_true rfl) hcs rfl ?_
  refine mw_istore_n dL_rubs_8 (by decide) rfl ?_
  refine mw_aload_n dL_rubs_9 1 rfl ?_
  refine mw_iload_n dL_rubs_10 2 rfl ?_
  obtain ⟨q2, hq2, h⟩ := mh_bind h
  refine mws_r (dc := 1) cs_L_24 wd_441 dL_rubs_11 [.ref 1040, .int p1] [.int p1, .ref 1040] rfl rfl (t_L_kind hq2) ⟨Nat.le_of_ble_eq_true rfl, Nat.le_of_ble_eq_true rfl⟩ (Nat.le_of_ble_eq_true rfl) hcs rfl ?_
  refine mw_istore dL_rubs_14 (by decide) rfl ?_
  refine mw_iload dL_rubs_16 0 rfl ?_
  refine mw_iconst (v := 3) dL_rubs_18 (by decide) ?_
  refine mw_icmp_ne (tgt := 28) dL_rubs_19 (by decide) (fun hc7 => ?_) (fun hc7 => ?_)
  · replace h := mh_ifn hc7 h
    refine mw_iload dL_rubs_28 0 rfl ?_
    refine mw_iconst (v := 1) dL_rubs_30 (by decide) ?_
    refine mh_jw (fun J3 => J3 = some res → w_L_rubs sc sh (mh_ret (some (.int res)) sh I L) I L 40 [(0, .ref 1040), (1, .int p1), (3, .int q1)] []) h (fun h => ?_) (fun J3 hJ3 h => ?_)
    · refine mw_iload_n dL_rubs_40 2 rfl ?_
      refine mw_aload_n dL_rubs_41 0 rfl ?_
      refine mw_iload_n dL_rubs_42 1 rfl ?_
      obtain ⟨q6, hq6, h⟩ := mh_bind h
      refine mws_r (dc := 1) cs_L_30 wd_444 dL_rubs_43 [.ref 1040, .int p1] [.int p1, .ref 1040, .int q1] rfl rfl (t_L_more hq6) ⟨Nat.le_of_ble_eq_true rfl, Nat.le_of_ble_eq_true rfl⟩ (Nat.le_of_ble_eq_true rfl) hcs rfl ?_
      refine mw_iadd dL_rubs_46 ?_
      refine mw_goto (tgt := 51) dL_rubs_47 (by decide) ?_
      obtain rfl := Option.some.inj h
      exact mw_iret dL_rubs_51 rfl rfl (by rw [Nat.sub_self]; exact Nat.le_refl 0) (Nat.le_refl 0) mh_ret_rfl
    · refine mw_icmp_eq (tgt := 40) dL_rubs_31 (by decide) (fun hc5 => ?_) (fun hc5 => ?_)
      · replace h := mh_ifp hc5 h
        refine mw_loc [2, 3, 1] rfl ?_
        exact hJ3  h
      · replace h := mh_ifn hc5 h
        refine mw_iload dL_rubs_34 0 rfl ?_
        refine mw_iconst (v := 5) dL_rubs_36 (by decide) ?_
        refine mw_icmp_ne (tgt := 50) dL_rubs_37 (by decide) (fun hc4 => ?_) (fun hc4 => ?_)
        · replace h := mh_ifn hc4 h
          refine mw_iload_n dL_rubs_50 1 rfl ?_
          obtain rfl := Option.some.inj h
          exact mw_iret dL_rubs_51 rfl rfl (by rw [Nat.sub_self]; exact Nat.le_refl 0) (Nat.le_refl 0) mh_ret_rfl
        · replace h := mh_ifp hc4 h
          refine mw_loc [2, 3, 1] rfl ?_
          exact hJ3  h
  · replace h := mh_ifp hc7 h
    refine mw_iconst (v := 2) dL_rubs_22 (by decide) ?_
    refine mw_iload_n dL_rubs_23 1 rfl ?_
    refine mw_imul dL_rubs_24 ?_
    refine mw_goto (tgt := 51) dL_rubs_25 (by decide) ?_
    obtain rfl := Option.some.inj h
    exact mw_iret dL_rubs_51 rfl rfl (by rw [Nat.sub_self]; exact Nat.le_refl 0) (Nat.le_refl 0) mh_ret_rfl
abbrev w_L_come (sc : mh_Sc) (sh : List mh_C) (Φ : mh_P) (I : mh_I) (L : mh_L) (pc : Nat) (lv : List (Nat × Value)) (st : List Value) : Prop := mh_W RL cL_come 6 (some .long) false (mh_rm 3) sh.length 0 0 (mh_scr sc) Φ 0 sh I L pc lv st
def L_come_l16 (sc : mh_Sc) (u1 : Nat) (u2 : Int32) (L : mh_L) : Nat → Int64 → Int32 → Option (Int64)
  | 0, _, _ => none
  | n + 1, u3, u5 => if (48 : Int32) ≤ u5 then some u3 else if (((u2 / (6 : Int32)) * (6 : Int32)) + (12 : Int32)) ≤ u5 then some u3 else (L_through sc u5).bind (fun q2 => mh_j (fun (v3 : Int64) => mh_b (u5 + (1 : Int32)) (fun b12 => (L_come_l16 sc u1 u2 L n v3 b12))) (fun J4 => if ((q2 >>> ((mh_rem u2 (6 : Int32)) &&& 31)) &&& (1 : Int32)) = 0 then (J4 u3) else mh_ix u5 50 (fun k5 => if 0 ≤ (lg_cmp (L u1 k5) (0 : Int64)) then mh_ix u5 50 (fun k7 => mh_b (mh_maxl u3 (L u1 k7)) (fun b9 => (J4 b9))) else some (-1 : Int64))))
set_option maxHeartbeats 4000000 in
set_option maxRecDepth 100000 in
theorem t_L_come_l16 {sc : mh_Sc} {sh : List mh_C} {u1 : Nat} (hf1 : sh[u1]? = some (.inr (1, 50, mh_n))) {u2 : Int32} {I : mh_I} {L : mh_L} {res : Int64} (n : Nat) (u3 : Int64) (u5 : Int32) (h : L_come_l16 sc u1 u2 L n u3 u5 = some res)  : w_L_come sc sh (mh_ret (some (.long res)) sh I L) I L 16 [(0, .ref 1040), (1, .ref u1), (2, .int u2), (3, .long u3), (5, .int u5)] [] := by
  have hcs : sh.length - sh.length ≤ (mh_rm 3).cells ∧ 0 ≤ (mh_rm 3).slots := ⟨by rw [Nat.sub_self]; exact Nat.zero_le _, Nat.zero_le _⟩
  induction n generalizing u3 u5 with
  | zero => rw [L_come_l16] at h; cases h
  | succ n ih =>
    rw [L_come_l16] at h
    refine mw_iload dL_come_16 4 rfl ?_
    refine mw_bipush (v := 48) dL_come_18 (by decide) ?_
    refine mw_icmp_ge (tgt := 85) dL_come_20 (by decide) (fun hc14 => ?_) (fun hc14 => ?_)
    · replace h := mh_ifp hc14 h
      refine mw_lload_n dL_come_85 3 rfl ?_
      obtain rfl := Option.some.inj h
      exact mw_lret dL_come_86 rfl (by rw [Nat.sub_self]; exact Nat.le_refl 0) (Nat.le_refl 0) mh_ret_rfl
    · replace h := mh_ifn hc14 h
      refine mw_iload dL_come_23 4 rfl ?_
      refine mw_iload_n dL_come_25 2 rfl ?_
      refine mw_bipush (v := 6) dL_come_26 (by decide) ?_
      refine mw_idiv dL_come_28 (by decide) ?_
      refine mw_bipush (v := 6) dL_come_29 (by decide) ?_
      refine mw_imul dL_come_31 ?_
      refine mw_bipush (v := 12) dL_come_32 (by decide) ?_
      refine mw_iadd dL_come_34 ?_
      refine mw_icmp_ge (tgt := 85) dL_come_35 (by decide) (fun hc13 => ?_) (fun hc13 => ?_)
      · replace h := mh_ifp hc13 h
        refine mw_lload_n dL_come_85 3 rfl ?_
        obtain rfl := Option.some.inj h
        exact mw_lret dL_come_86 rfl (by rw [Nat.sub_self]; exact Nat.le_refl 0) (Nat.le_refl 0) mh_ret_rfl
      · replace h := mh_ifn hc13 h
        refine mw_aload_n dL_come_38 0 rfl ?_
        refine mw_iload dL_come_39 4 rfl ?_
        obtain ⟨q2, hq2, h⟩ := mh_bind h
        refine mws_r (dc := 2) cs_L_113 wd_717 dL_come_41 [.ref 1040, .int u5] [.int u5, .ref 1040] rfl rfl (t_L_through hq2) ⟨Nat.le_of_ble_eq_true rfl, Nat.le_of_ble_eq_true rfl⟩ (Nat.le_of_ble_eq_true rfl) hcs rfl ?_
        refine mw_iload_n dL_come_44 2 rfl ?_
        refine mw_bipush (v := 6) dL_come_45 (by decide) ?_
        refine mw_irem dL_come_47 (by decide) ?_
        refine mw_ishr dL_come_48 ?_
        refine mw_iconst (v := 1) dL_come_49 (by decide) ?_
        refine mw_iand dL_come_50 ?_
        refine mh_jw (fun J4 => ∀ (v3 : Int64), J4 v3 = some res → w_L_come sc sh (mh_ret (some (.long res)) sh I L) I L 79 [(0, .ref 1040), (1, .ref u1), (2, .int u2), (3, .long v3), (5, .int u5)] []) h (fun v3 h => ?_) (fun J4 hJ4 h => ?_)
        · obtain ⟨b12, eb12, h⟩ := mh_b_some h
          refine mw_iinc (v := b12) dL_come_79 4 rfl (by rw [← eb12]; rfl) (by decide) rfl ?_
          refine mw_goto (tgt := 16) dL_come_82 (by decide) ?_
          refine mw_loc [1, 2, 3, 4, 0] rfl ?_
          exact ih _ _ h
        · refine mw_if_ne (tgt := 57) dL_come_51 (by decide) (fun hc11 => ?_) (fun hc11 => ?_)
          · replace h := mh_ifn hc11 h
            refine mw_aload_n dL_come_57 1 rfl ?_
            refine mw_iload dL_come_58 4 rfl ?_
            obtain ⟨k5, hk6, hk6n, hk6l, h⟩ := mh_ix_some h
            refine mw_xlald dL_come_60 hf1 hk6 hk6n ?_
            refine mw_lconst (v := 0) dL_come_61 (by decide) ?_
            refine mw_lcmp dL_come_62 ?_
            refine mw_if_ge (tgt := 70) dL_come_63 (by decide) (fun hc10 => ?_) (fun hc10 => ?_)
            · replace h := mh_ifp hc10 h
              refine mw_lload_n dL_come_70 3 rfl ?_
              refine mw_aload_n dL_come_71 1 rfl ?_
              refine mw_iload dL_come_72 4 rfl ?_
              obtain ⟨k7, hk8, hk8n, hk8l, h⟩ := mh_ix_some h
              refine mw_xlald dL_come_74 hf1 hk8 hk8n ?_
              refine mw_mmaxl wd_718 ⟨wd_719, wd_14, wd_720⟩ dL_come_75 (by decide) (Nat.le_of_ble_eq_true rfl) hcs ?_
              obtain ⟨b9, eb9, h⟩ := mh_b_some h
              refine mw_nml eb9 ?_
              refine mw_lstore_n dL_come_78 (by decide) rfl ?_
              refine mw_loc [1, 2, 3, 0, 4] rfl ?_
              exact hJ4 _ h
            · replace h := mh_ifn hc10 h
              refine mw_ldc2 dL_come_66 wd_708 ?_
              obtain rfl := Option.some.inj h
              exact mw_lret dL_come_69 rfl (by rw [Nat.sub_self]; exact Nat.le_refl 0) (Nat.le_refl 0) mh_ret_rfl
          · replace h := mh_ifp hc11 h
            refine mw_goto (tgt := 79) dL_come_54 (by decide) ?_
            refine mw_loc [0, 1, 2, 3, 4] rfl ?_
            exact hJ4 _ h
def L_come (sc : mh_Sc) (p1 : Nat) (p2 : Int32) (L : mh_L) : Option (Int64) := mh_b (((p2 / (6 : Int32)) * (6 : Int32)) + (6 : Int32)) (fun b1 => L_come_l16 sc p1 p2 L mh_fuel (-1 : Int64) b1)
set_option maxHeartbeats 4000000 in
set_option maxRecDepth 100000 in
theorem t_L_come {sc : mh_Sc} {sh : List mh_C} {L : mh_L} {I : mh_I} {p1 : Nat} {p2 : Int32} (hf1 : sh[p1]? = some (.inr (1, 50, mh_n))) {res : Int64} (h : L_come sc p1 p2 L = some res) : mh_CTs sc yL_come cL_come 6 (some .long) (mh_rm 3) sh I L [.ref 1040, .ref p1, .int p2] (mh_ret (some (.long res)) sh I L) := by
  refine mh_ofWs (ini := false) RL rfl (by decide) (fun h => by cases h) (Nat.le_of_ble_eq_true rfl) ?_
  show w_L_come sc sh (mh_ret (some (.long res)) sh I L) I L 0 [(0, .ref 1040), (1, .ref p1), (2, .int p2)] []
  have hcs : sh.length - sh.length ≤ (mh_rm 3).cells ∧ 0 ≤ (mh_rm 3).slots := ⟨by rw [Nat.sub_self]; exact Nat.zero_le _, Nat.zero_le _⟩
  unfold L_come at h
  refine mw_ldc2 dL_come_0 wd_708 ?_
  refine mw_lstore_n dL_come_3 (by decide) rfl ?_
  refine mw_iload_n dL_come_4 3 rfl ?_
  refine mw_bipush (v := 6) dL_come_5 (by decide) ?_
  refine mw_idiv dL_come_7 (by decide) ?_
  refine mw_bipush (v := 6) dL_come_8 (by decide) ?_
  refine mw_imul dL_come_10 ?_
  refine mw_bipush (v := 6) dL_come_11 (by decide) ?_
  refine mw_iadd dL_come_13 ?_
  obtain ⟨b1, eb1, h⟩ := mh_b_some h
  refine mw_nmi eb1 ?_
  refine mw_istore dL_come_14 (by decide) rfl ?_
  refine mw_loc [2, 3, 4, 1, 0] rfl ?_
  exact t_L_come_l16 hf1 _ _ _ h 
abbrev w_L_run (sc : mh_Sc) (sh : List mh_C) (Φ : mh_P) (I : mh_I) (L : mh_L) (pc : Nat) (lv : List (Nat × Value)) (st : List Value) : Prop := mh_W RL cL_run 11 none false (mh_rm 5) sh.length 0 0 (mh_scr sc) Φ 0 sh I L pc lv st
def L_run_l9 (sc : mh_Sc) (u1 : Nat) (k27 : (mh_L → Option (mh_L))) : Nat → Int32 → mh_L → Option (mh_L)
  | 0, _, _ => none
  | n + 1, u7, L => if u7 < 0 then (k27 L) else mh_ix u7 50 (fun k1 => mh_b (u7 + (-1 : Int32)) (fun b3 => (L_run_l9 sc u1 k27 n b3 (mh_ul L u1 k1 (-1 : Int64)))))
set_option maxHeartbeats 4000000 in
set_option maxRecDepth 100000 in
theorem t_L_run_l9 {sc : mh_Sc} {sh : List mh_C} {u1 : Nat} (hf1 : sh[u1]? = some (.inr (1, 50, mh_n))) {u2 : Int64} {u4 : Int32} {u5 : Int64} {k27 : (mh_L → Option (mh_L))} {I : mh_I} {res : mh_L} (n : Nat) (u7 : Int32) (L : mh_L) (h : L_run_l9 sc u1 k27 n u7 L = some res) (hk27 : ∀ (L : mh_L), k27 L = some res → w_L_run sc sh (mh_ret none sh I res) I L 27 [(0, .ref 1040), (1, .ref u1), (2, .long u2), (4, .int u4), (5, .long u5)] []) : w_L_run sc sh (mh_ret none sh I res) I L 9 [(0, .ref 1040), (1, .ref u1), (2, .long u2), (4, .int u4), (5, .long u5), (7, .int u7)] [] := by
  have hcs : sh.length - sh.length ≤ (mh_rm 5).cells ∧ 0 ≤ (mh_rm 5).slots := ⟨by rw [Nat.sub_self]; exact Nat.zero_le _, Nat.zero_le _⟩
  induction n generalizing u7 L with
  | zero => rw [L_run_l9] at h; cases h
  | succ n ih =>
    rw [L_run_l9] at h
    refine mw_iload dL_run_9 5 rfl ?_
    refine mw_if_lt (tgt := 27) dL_run_11 (by decide) (fun hc4 => ?_) (fun hc4 => ?_)
    · replace h := mh_ifp hc4 h
      refine mw_loc [0, 1, 2, 3, 4] rfl ?_
      exact hk27 _ h
    · replace h := mh_ifn hc4 h
      refine mw_aload_n dL_run_14 1 rfl ?_
      refine mw_iload dL_run_15 5 rfl ?_
      refine mw_ldc2 dL_run_17 wd_708 ?_
      obtain ⟨k1, hk2, hk2n, hk2l, h⟩ := mh_ix_some h
      refine mw_xlast dL_run_20 hf1 hk2 hk2n ?_
      obtain ⟨b3, eb3, h⟩ := mh_b_some h
      refine mw_iinc (v := b3) dL_run_21 5 rfl (by rw [← eb3]; rfl) (by decide) rfl ?_
      refine mw_goto (tgt := 9) dL_run_24 (by decide) ?_
      refine mw_loc [1, 2, 3, 4, 5, 0] rfl ?_
      exact ih _ _ h
def L_run_l43 (sc : mh_Sc) (u1 : Nat) (u2 : Int64) (u4 : Int32) (u5 : Int64) (u7 : Int32) (k177 : (mh_L → Option (mh_L))) : Nat → Int32 → mh_L → Option (mh_L)
  | 0, _, _ => none
  | n + 1, u8, L => if (((6 : Int32) * u7) + (6 : Int32)) ≤ u8 then (k177 L) else (L_keeps sc u8).bind (fun q7 => mh_j (fun (L8 : mh_L) => mh_b (u8 + (1 : Int32)) (fun b29 => (L_run_l43 sc u1 u2 u4 u5 u7 k177 n b29 L8))) (fun J9 => if q7 = 0 then if (lg_cmp ((u5 >>> (u8.toInt64 &&& 63)) &&& (1 : Int64)) (1 : Int64)) = 0 then (J9 L) else (L_come sc u1 u8 L).bind (fun q10 => mh_j (fun (L11 : mh_L) => mh_ix u8 50 (fun k22 => mh_j (fun (s24 : Int64) => (J9 (mh_ul L11 u1 48 ((L11 u1 48) + s24)))) (fun J25 => if (lg_cmp (L11 u1 k22) (0 : Int64)) < 0 then (J25 (0 : Int64)) else (J25 (1 : Int64))))) (fun J12 => if (lg_cmp ((u2 >>> (u8.toInt64 &&& 63)) &&& (1 : Int64)) (1 : Int64)) = 0 then mh_ix u8 50 (fun k19 => (J12 (mh_ul L u1 k19 (u4.toInt64)))) else if (lg_cmp q10 (0 : Int64)) < 0 then (J12 L) else (L_rubs sc u8 (q10.toInt32)).bind (fun q13 => if (lg_cmp q10 (q13.toInt64)) ≤ 0 then (J12 L) else (L_rubs sc u8 (q10.toInt32)).bind (fun q14 => mh_ix u8 50 (fun k15 => (J12 (mh_ul L u1 k15 (q10 - (q14.toInt64))))))))) else (J9 L)))
set_option maxHeartbeats 4000000 in
set_option maxRecDepth 100000 in
theorem t_L_run_l43 {sc : mh_Sc} {sh : List mh_C} {u1 : Nat} (hf1 : sh[u1]? = some (.inr (1, 50, mh_n))) {u2 : Int64} {u4 : Int32} {u5 : Int64} {u7 : Int32} {k177 : (mh_L → Option (mh_L))} {I : mh_I} {res : mh_L} (n : Nat) (u8 : Int32) (L : mh_L) (h : L_run_l43 sc u1 u2 u4 u5 u7 k177 n u8 L = some res) (hk177 : ∀ (L : mh_L), k177 L = some res → w_L_run sc sh (mh_ret none sh I res) I L 177 [(0, .ref 1040), (1, .ref u1), (2, .long u2), (4, .int u4), (5, .long u5), (7, .int u7)] []) : w_L_run sc sh (mh_ret none sh I res) I L 43 [(0, .ref 1040), (1, .ref u1), (2, .long u2), (4, .int u4), (5, .long u5), (7, .int u7), (8, .int u8)] [] := by
  have hcs : sh.length - sh.length ≤ (mh_rm 5).cells ∧ 0 ≤ (mh_rm 5).slots := ⟨by rw [Nat.sub_self]; exact Nat.zero_le _, Nat.zero_le _⟩
  induction n generalizing u8 L with
  | zero => rw [L_run_l43] at h; cases h
  | succ n ih =>
    rw [L_run_l43] at h
    refine mw_iload dL_run_43 6 rfl ?_
    refine mw_bipush (v := 6) dL_run_45 (by decide) ?_
    refine mw_iload dL_run_47 5 rfl ?_
    refine mw_imul dL_run_49 ?_
    refine mw_bipush (v := 6) dL_run_50 (by decide) ?_
    refine mw_iadd dL_run_52 ?_
    refine mw_icmp_ge (tgt := 177) dL_run_53 (by decide) (fun hc30 => ?_) (fun hc30 => ?_)
    · replace h := mh_ifp hc30 h
      refine mw_loc [0, 1, 2, 3, 4, 5] rfl ?_
      exact hk177 _ h
    · replace h := mh_ifn hc30 h
      refine mw_aload_n dL_run_56 0 rfl ?_
      refine mw_iload dL_run_57 6 rfl ?_
      obtain ⟨q7, hq7, h⟩ := mh_bind h
      refine mws_z (dc := 2) cs_L_102 wd_711 dL_run_59 [.ref 1040, .int u8] [.int u8, .ref 1040] rfl rfl (t_L_keeps hq7) ⟨Nat.le_of_ble_eq_true rfl, Nat.le_of_ble_eq_true rfl⟩ (Nat.le_of_ble_eq_true rfl) hcs rfl (fun zq7 => ?_)
      refine mh_jw (fun J9 => ∀ (L8 : mh_L), J9 L8 = some res → w_L_run sc sh (mh_ret none sh I res) I L8 171 [(0, .ref 1040), (1, .ref u1), (2, .long u2), (4, .int u4), (5, .long u5), (7, .int u7), (8, .int u8)] []) h (fun L8 h => ?_) (fun J9 hJ9 h => ?_)
      · obtain ⟨b29, eb29, h⟩ := mh_b_some h
        refine mw_iinc (v := b29) dL_run_171 6 rfl (by rw [← eb29]; rfl) (by decide) rfl ?_
        refine mw_goto (tgt := 43) dL_run_174 (by decide) ?_
        refine mw_loc [1, 2, 3, 4, 5, 6, 0] rfl ?_
        exact ih _ _ h
      · refine mw_if_ne (tgt := 171) dL_run_62 (by decide) (fun hc28 => ?_) (fun hc28 => ?_)
        · replace h := mh_ifn hc28 h
          refine mw_loc [0, 1, 2, 3, 4, 5, 6] rfl ?_
          exact hJ9 _ h
        · replace h := mh_ifp hc28 h
          refine mw_lload dL_run_65 4 rfl ?_
          refine mw_iload dL_run_67 6 rfl ?_
          refine mw_lshr dL_run_69 ?_
          refine mw_lconst (v := 1) dL_run_70 (by decide) ?_
          refine mw_land dL_run_71 ?_
          refine mw_lconst (v := 1) dL_run_72 (by decide) ?_
          refine mw_lcmp dL_run_73 ?_
          refine mw_if_ne (tgt := 80) dL_run_74 (by decide) (fun hc27 => ?_) (fun hc27 => ?_)
          · replace h := mh_ifn hc27 h
            refine mw_aload_n dL_run_80 0 rfl ?_
            refine mw_aload_n dL_run_81 1 rfl ?_
            refine mw_iload dL_run_82 6 rfl ?_
            obtain ⟨q10, hq10, h⟩ := mh_bind h
            refine mws_r (dc := 3) cs_L_105 wd_714 dL_run_84 [.ref 1040, .ref u1, .int u8] [.int u8, .ref u1, .ref 1040] rfl rfl (t_L_come hf1 hq10) ⟨Nat.le_of_ble_eq_true rfl, Nat.le_of_ble_eq_true rfl⟩ (Nat.le_of_ble_eq_true rfl) hcs rfl ?_
            refine mw_lstore dL_run_87 (by decide) rfl ?_
            refine mw_lload_n dL_run_89 3 rfl ?_
            refine mw_iload dL_run_90 7 rfl ?_
            refine mw_lshr dL_run_92 ?_
            refine mw_lconst (v := 1) dL_run_93 (by decide) ?_
            refine mw_land dL_run_94 ?_
            refine mw_lconst (v := 1) dL_run_95 (by decide) ?_
            refine mw_lcmp dL_run_96 ?_
            refine mh_jw (fun J12 => ∀ (L11 : mh_L), J12 L11 = some res → w_L_run sc sh (mh_ret none sh I res) I L11 150 [(0, .ref 1040), (1, .ref u1), (2, .long u2), (4, .int u4), (5, .long u5), (7, .int u7), (8, .int u8)] []) h (fun L11 h => ?_) (fun J12 hJ12 h => ?_)
            · refine mw_aload_n dL_run_150 1 rfl ?_
              refine mw_bipush (v := 48) dL_run_151 (by decide) ?_
              refine mw_dup2 dL_run_153 rfl rfl ?_
              refine mw_xlald (kx := 48) dL_run_154 hf1 (by decide) (by decide) ?_
              refine mw_aload_n dL_run_155 1 rfl ?_
              refine mw_iload dL_run_156 6 rfl ?_
              obtain ⟨k22, hk23, hk23n, hk23l, h⟩ := mh_ix_some h
              refine mw_xlald dL_run_158 hf1 hk23 hk23n ?_
              refine mw_lconst (v := 0) dL_run_159 (by decide) ?_
              refine mw_lcmp dL_run_160 ?_
              refine mh_jw (fun J25 => ∀ (s24 : Int64), J25 s24 = some res → w_L_run sc sh (mh_ret none sh I res) I L11 169 [(0, .ref 1040), (1, .ref u1), (2, .long u2), (4, .int u4), (5, .long u5), (7, .int u7), (8, .int u8)] [.long s24, .long (L11 u1 48), .int (48 : Int32), .ref u1]) h (fun s24 h => ?_) (fun J25 hJ25 h => ?_)
              · refine mw_ladd dL_run_169 ?_
                refine mw_xlast (kx := 48) dL_run_170 hf1 (by decide) (by decide) ?_
                refine mw_loc [0, 1, 2, 3, 4, 5, 6] rfl ?_
                exact hJ9 _ h
              · refine mw_if_lt (tgt := 168) dL_run_161 (by decide) (fun hc26 => ?_) (fun hc26 => ?_)
                · replace h := mh_ifp hc26 h
                  refine mw_lconst (v := 0) dL_run_168 (by decide) ?_
                  refine mw_loc [0, 1, 2, 3, 4, 5, 6] rfl ?_
                  exact hJ25 _ h
                · replace h := mh_ifn hc26 h
                  refine mw_lconst (v := 1) dL_run_164 (by decide) ?_
                  refine mw_goto (tgt := 169) dL_run_165 (by decide) ?_
                  refine mw_loc [0, 1, 2, 3, 4, 5, 6] rfl ?_
                  exact hJ25 _ h
            · refine mw_if_ne (tgt := 110) dL_run_97 (by decide) (fun hc21 => ?_) (fun hc21 => ?_)
              · replace h := mh_ifn hc21 h
                refine mw_lload dL_run_110 0 rfl ?_
                refine mw_lconst (v := 0) dL_run_112 (by decide) ?_
                refine mw_lcmp dL_run_113 ?_
                refine mw_if_lt (tgt := 150) dL_run_114 (by decide) (fun hc18 => ?_) (fun hc18 => ?_)
                · replace h := mh_ifp hc18 h
                  refine mw_loc [1, 2, 3, 4, 5, 6, 7] rfl ?_
                  exact hJ12 _ h
                · replace h := mh_ifn hc18 h
                  refine mw_lload dL_run_117 0 rfl ?_
                  refine mw_aload_n dL_run_119 1 rfl ?_
                  refine mw_iload dL_run_120 7 rfl ?_
                  refine mw_lload dL_run_122 0 rfl ?_
                  refine mw_l2i dL_run_124 ?_
                  obtain ⟨q13, hq13, h⟩ := mh_bind h
                  refine mws_r (dc := 4) cs_L_109 wd_723 dL_run_125 [.ref 1040, .int u8, .int (q10.toInt32)] [.int (q10.toInt32), .int u8, .ref 1040, .long q10] rfl rfl (t_L_rubs hq13) ⟨Nat.le_of_ble_eq_true rfl, Nat.le_of_ble_eq_true rfl⟩ (Nat.le_of_ble_eq_true rfl) hcs rfl ?_
                  refine mw_i2l dL_run_128 ?_
                  refine mw_lcmp dL_run_129 ?_
                  refine mw_if_le (tgt := 150) dL_run_130 (by decide) (fun hc17 => ?_) (fun hc17 => ?_)
                  · replace h := mh_ifp hc17 h
                    refine mw_loc [1, 2, 3, 4, 5, 6, 7] rfl ?_
                    exact hJ12 _ h
                  · replace h := mh_ifn hc17 h
                    refine mw_aload_n dL_run_133 2 rfl ?_
                    refine mw_iload dL_run_134 7 rfl ?_
                    refine mw_lload dL_run_136 0 rfl ?_
                    refine mw_aload_n dL_run_138 1 rfl ?_
                    refine mw_iload dL_run_139 7 rfl ?_
                    refine mw_lload dL_run_141 0 rfl ?_
                    refine mw_l2i dL_run_143 ?_
                    obtain ⟨q14, hq14, h⟩ := mh_bind h
                    refine mws_r (dc := 4) cs_L_109 wd_723 dL_run_144 [.ref 1040, .int u8, .int (q10.toInt32)] [.int (q10.toInt32), .int u8, .ref 1040, .long q10, .int u8, .ref u1] rfl rfl (t_L_rubs hq14) ⟨Nat.le_of_ble_eq_true rfl, Nat.le_of_ble_eq_true rfl⟩ (Nat.le_of_ble_eq_true rfl) hcs rfl ?_
                    refine mw_i2l dL_run_147 ?_
                    refine mw_lsub dL_run_148 ?_
                    obtain ⟨k15, hk16, hk16n, hk16l, h⟩ := mh_ix_some h
                    refine mw_xlast dL_run_149 hf1 hk16 hk16n ?_
                    refine mw_loc [1, 2, 3, 4, 5, 6, 7] rfl ?_
                    exact hJ12 _ h
              · replace h := mh_ifp hc21 h
                refine mw_aload_n dL_run_100 2 rfl ?_
                refine mw_iload dL_run_101 7 rfl ?_
                refine mw_iload dL_run_103 4 rfl ?_
                refine mw_i2l dL_run_105 ?_
                obtain ⟨k19, hk20, hk20n, hk20l, h⟩ := mh_ix_some h
                refine mw_xlast dL_run_106 hf1 hk20 hk20n ?_
                refine mw_goto (tgt := 150) dL_run_107 (by decide) ?_
                refine mw_loc [1, 2, 3, 4, 5, 6, 7] rfl ?_
                exact hJ12 _ h
          · replace h := mh_ifp hc27 h
            refine mw_goto (tgt := 171) dL_run_77 (by decide) ?_
            refine mw_loc [0, 1, 2, 3, 4, 5, 6] rfl ?_
            exact hJ9 _ h
def L_run_l31 (sc : mh_Sc) (u1 : Nat) (u2 : Int64) (u4 : Int32) (u5 : Int64) : Nat → Int32 → mh_L → Option (mh_L)
  | 0, _, _ => none
  | n + 1, u7, L => if u7 < 0 then some L else mh_b ((6 : Int32) * u7) (fun b6 => L_run_l43 sc u1 u2 u4 u5 u7 (fun (L31 : mh_L) => mh_b (u7 + (-1 : Int32)) (fun b32 => (L_run_l31 sc u1 u2 u4 u5 n b32 L31))) mh_fuel b6 L)
set_option maxHeartbeats 4000000 in
set_option maxRecDepth 100000 in
theorem t_L_run_l31 {sc : mh_Sc} {sh : List mh_C} {u1 : Nat} (hf1 : sh[u1]? = some (.inr (1, 50, mh_n))) {u2 : Int64} {u4 : Int32} {u5 : Int64} {I : mh_I} {res : mh_L} (n : Nat) (u7 : Int32) (L : mh_L) (h : L_run_l31 sc u1 u2 u4 u5 n u7 L = some res)  : w_L_run sc sh (mh_ret none sh I res) I L 31 [(0, .ref 1040), (1, .ref u1), (2, .long u2), (4, .int u4), (5, .long u5), (7, .int u7)] [] := by
  have hcs : sh.length - sh.length ≤ (mh_rm 5).cells ∧ 0 ≤ (mh_rm 5).slots := ⟨by rw [Nat.sub_self]; exact Nat.zero_le _, Nat.zero_le _⟩
  induction n generalizing u7 L with
  | zero => rw [L_run_l31] at h; cases h
  | succ n ih =>
    rw [L_run_l31] at h
    refine mw_iload dL_run_31 5 rfl ?_
    refine mw_if_lt (tgt := 183) dL_run_33 (by decide) (fun hc33 => ?_) (fun hc33 => ?_)
    · replace h := mh_ifp hc33 h
      obtain rfl := Option.some.inj h
      exact mw_vret dL_run_183 rfl (by rw [Nat.sub_self]; exact Nat.le_refl 0) (Nat.le_refl 0) mh_ret_rfl
    · replace h := mh_ifn hc33 h
      refine mw_bipush (v := 6) dL_run_36 (by decide) ?_
      refine mw_iload dL_run_38 5 rfl ?_
      refine mw_imul dL_run_40 ?_
      obtain ⟨b6, eb6, h⟩ := mh_b_some h
      refine mw_nmi eb6 ?_
      refine mw_istore dL_run_41 (by decide) rfl ?_
      refine mw_loc [1, 2, 3, 4, 5, 6, 0] rfl ?_
      refine t_L_run_l43 hf1 _ _ _ h (fun L31 h => ?_)
      obtain ⟨b32, eb32, h⟩ := mh_b_some h
      refine mw_iinc (v := b32) dL_run_177 5 rfl (by rw [← eb32]; rfl) (by decide) rfl ?_
      refine mw_goto (tgt := 31) dL_run_180 (by decide) ?_
      refine mw_loc [1, 2, 3, 4, 5, 0] rfl ?_
      exact ih _ _ h
def L_run (sc : mh_Sc) (p1 : Nat) (p2 : Int64) (p4 : Int32) (p5 : Int64) (L : mh_L) : Option (mh_L) := L_run_l9 sc p1 (fun (L5 : mh_L) => L_run_l31 sc p1 p2 p4 p5 mh_fuel (7 : Int32) L5) mh_fuel (47 : Int32) (mh_ul L p1 48 (0 : Int64))
set_option maxHeartbeats 4000000 in
set_option maxRecDepth 100000 in
theorem t_L_run {sc : mh_Sc} {sh : List mh_C} {L : mh_L} {I : mh_I} {p1 : Nat} {p2 : Int64} {p4 : Int32} {p5 : Int64} (hf1 : sh[p1]? = some (.inr (1, 50, mh_n))) {res : mh_L} (h : L_run sc p1 p2 p4 p5 L = some res) : mh_CTs sc yL_run cL_run 11 none (mh_rm 5) sh I L [.ref 1040, .ref p1, .long p2, .int p4, .long p5] (mh_ret none sh I res) := by
  refine mh_ofWs (ini := false) RL rfl (by decide) (fun h => by cases h) (Nat.le_of_ble_eq_true rfl) ?_
  show w_L_run sc sh (mh_ret none sh I res) I L 0 [(0, .ref 1040), (1, .ref p1), (2, .long p2), (4, .int p4), (5, .long p5)] []
  have hcs : sh.length - sh.length ≤ (mh_rm 5).cells ∧ 0 ≤ (mh_rm 5).slots := ⟨by rw [Nat.sub_self]; exact Nat.zero_le _, Nat.zero_le _⟩
  unfold L_run at h
  refine mw_aload_n dL_run_0 1 rfl ?_
  refine mw_bipush (v := 48) dL_run_1 (by decide) ?_
  refine mw_lconst (v := 0) dL_run_3 (by decide) ?_
  refine mw_xlast (kx := 48) dL_run_4 hf1 (by decide) (by decide) ?_
  refine mw_bipush (v := 47) dL_run_5 (by decide) ?_
  refine mw_istore dL_run_7 (by decide) rfl ?_
  refine mw_loc [1, 2, 3, 4, 5, 0] rfl ?_
  refine t_L_run_l9 hf1 _ _ _ h (fun L5 h => ?_)
  refine mw_bipush (v := 7) dL_run_27 (by decide) ?_
  refine mw_istore dL_run_29 (by decide) rfl ?_
  refine mw_loc [1, 2, 3, 4, 5, 0] rfl ?_
  exact t_L_run_l31 hf1 _ _ _ h 
