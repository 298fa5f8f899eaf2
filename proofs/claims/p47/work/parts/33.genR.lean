abbrev w_X3_opened (dn : Nat) (sh : List mh_C) (Φ : mh_P) (I : mh_I) (L : mh_L) (pc : Nat) (lv : List (Nat × Value)) (st : List Value) : Prop := mh_W RX3 cX3_opened 3 (some .boolean) false (mh_rm (dn + 1)) 46 0 0 mh_noX Φ 0 sh I L pc lv st
def X3_opened (g : Nat → Int32 → Int32 → mh_I → Option (Int32 × mh_I)) (tx : Nat) (p1 : Int32) (I : mh_I) : Option (Int32 × mh_I) := mh_j (fun (s1 : Int32) => (X3_advance I).bind (fun q4 => if s1 = 0 then (g 0 (0 : Int32) p1 q4).bind (fun q5 => if q5.1 = 0 then some ((0 : Int32), q5.2) else if (q5.2 7 4) = (41 : Int32) then (X3_advance q5.2).bind (fun q6 => some ((1 : Int32), q6)) else some ((0 : Int32), q5.2)) else (g 2 p1 0 q4).bind (fun q9 => if q9.1 = 0 then some ((0 : Int32), q9.2) else (X4_add tx (-3 : Int32) q9.2).bind (fun q10 => some ((1 : Int32), q10))))) (fun J2 => if (I 7 4) = (45 : Int32) then (J2 (1 : Int32)) else (J2 (0 : Int32)))
set_option maxHeartbeats 4000000 in
set_option maxRecDepth 100000 in
theorem t_X3_opened {tx : Nat} {I : mh_I} {p1 : Int32} {L : mh_L} {g : Nat → Int32 → Int32 → mh_I → Option (Int32 × mh_I)} {dn : Nat} (hdn : 20 ≤ dn) (hg0 : ∀ (a b : Int32) (I : mh_I) (q : Int32 × mh_I), g 0 a b I = some q → mh_CT yX3_chain cX3_chain 6 (some .boolean) (mh_rm dn) (SHX (some tx)) I L [.ref 7, .int a, .int b] (mh_retz q.1 (SHX (some tx)) q.2 L)) (hg1 : ∀ (a : Int32) (I : mh_I) (q : Int32 × mh_I), g 1 a 0 I = some q → mh_CT yX3_negation cX3_negation 2 (some .boolean) (mh_rm dn) (SHX (some tx)) I L [.ref 7, .int a] (mh_retz q.1 (SHX (some tx)) q.2 L)) (hg2 : ∀ (a : Int32) (I : mh_I) (q : Int32 × mh_I), g 2 a 0 I = some q → mh_CT yX3_one cX3_one 2 (some .boolean) (mh_rm dn) (SHX (some tx)) I L [.ref 7, .int a] (mh_retz q.1 (SHX (some tx)) q.2 L)) (hg3 : ∀ (a : Int32) (I : mh_I) (q : Int32 × mh_I), g 3 a 0 I = some q → mh_CT yX3_opened cX3_opened 3 (some .boolean) (mh_rm dn) (SHX (some tx)) I L [.ref 7, .int a] (mh_retz q.1 (SHX (some tx)) q.2 L)) (hI : hs_X4 (SHX (some tx)) tx) {res : Int32 × mh_I} (h : X3_opened g tx p1 I = some res) : mh_CT yX3_opened cX3_opened 3 (some .boolean) (mh_rm (dn + 1)) (SHX (some tx)) I L [.ref 7, .int p1] (mh_retz res.1 (SHX (some tx)) res.2 L) := by
  refine mh_ofW (ini := false) RX3 rfl (by decide) (fun h => by cases h) (Nat.le_of_ble_eq_true rfl) ?_
  show w_X3_opened dn (SHX (some tx)) (mh_retz res.1 (SHX (some tx)) res.2 L) I L 0 [(0, .ref 7), (1, .int p1)] []
  unfold X3_opened at h
  refine mw_aload_n dX3_opened_0 0 rfl ?_
  refine mw_geti (fs := (fsX3 7 (some tx))) gf_X3_34 dX3_opened_1 rfl rfl ?_
  refine mw_bipush (v := 45) dX3_opened_4 (by decide) ?_
  refine mh_jw (fun J2 => ∀ (s1 : Int32), J2 s1 = some res → w_X3_opened dn (SHX (some tx)) (mh_retz res.1 (SHX (some tx)) res.2 L) I L 14 [(0, .ref 7), (1, .int p1)] [.int s1]) h (fun s1 h => ?_) (fun J2 hJ2 h => ?_)
  · refine mw_istore_n dX3_opened_14 (by decide) rfl ?_
    refine mw_aload_n dX3_opened_15 1 rfl ?_
    obtain ⟨q4, hq4, h⟩ := mh_bind h
    refine mw_vv (dc := 7) (ci := 3) (fs := (fsX3 7 (some tx))) (T := TX3) (N := 7) cv_X3_31 wd_362 dX3_opened_16 [] [.ref 7] rfl rfl rfl rfl (t_X3_advance hq4) ⟨by omega, by decide⟩ (Nat.le_of_ble_eq_true rfl) ⟨rfl, rfl⟩ ?_
    refine mw_iload_n dX3_opened_19 0 rfl ?_
    refine mw_if_eq (tgt := 44) dX3_opened_20 (by decide) (fun hc12 => ?_) (fun hc12 => ?_)
    · replace h := mh_ifp hc12 h
      refine mw_aload_n dX3_opened_44 1 rfl ?_
      refine mw_iconst (v := 0) dX3_opened_45 (by decide) ?_
      refine mw_iload_n dX3_opened_46 2 rfl ?_
      obtain ⟨q5, hq5, h⟩ := mh_bind h
      refine mw_vz (ci := 3) (fs := (fsX3 7 (some tx))) (T := TX3) (N := 7) cv_X3_40 wd_387 dX3_opened_47 [.int (0 : Int32), .int p1] [.int p1, .int (0 : Int32), .ref 7] rfl rfl rfl rfl (hg0 _ _ _ _ hq5) ⟨by omega, by decide⟩ (Nat.le_of_ble_eq_true rfl) ⟨rfl, rfl⟩ (fun zq5 => ?_)
      refine mw_if_eq (tgt := 62) dX3_opened_50 (by decide) (fun hc8 => ?_) (fun hc8 => ?_)
      · replace h := mh_ifp hc8 h
        refine mw_iconst (v := 0) dX3_opened_62 (by decide) ?_
        obtain rfl := Option.some.inj h
        exact mw_zret dX3_opened_63 rfl (Or.inl rfl) (Nat.le_of_ble_eq_true rfl) (Nat.le_refl 0) (mh_retz_rfl (Or.inl rfl))
      · replace h := mh_ifn hc8 h
        refine mw_aload_n dX3_opened_53 1 rfl ?_
        refine mw_geti (fs := (fsX3 7 (some tx))) gf_X3_34 dX3_opened_54 rfl rfl ?_
        refine mw_bipush (v := 41) dX3_opened_57 (by decide) ?_
        refine mw_icmp_eq (tgt := 64) dX3_opened_59 (by decide) (fun hc7 => ?_) (fun hc7 => ?_)
        · replace h := mh_ifp hc7 h
          refine mw_aload_n dX3_opened_64 1 rfl ?_
          obtain ⟨q6, hq6, h⟩ := mh_bind h
          refine mw_vv (dc := 7) (ci := 3) (fs := (fsX3 7 (some tx))) (T := TX3) (N := 7) cv_X3_31 wd_362 dX3_opened_65 [] [.ref 7] rfl rfl rfl rfl (t_X3_advance hq6) ⟨by omega, by decide⟩ (Nat.le_of_ble_eq_true rfl) ⟨rfl, rfl⟩ ?_
          refine mw_iconst (v := 1) dX3_opened_68 (by decide) ?_
          obtain rfl := Option.some.inj h
          exact mw_zret dX3_opened_69 rfl (Or.inr rfl) (Nat.le_of_ble_eq_true rfl) (Nat.le_refl 0) (mh_retz_rfl (Or.inr rfl))
        · replace h := mh_ifn hc7 h
          refine mw_iconst (v := 0) dX3_opened_62 (by decide) ?_
          obtain rfl := Option.some.inj h
          exact mw_zret dX3_opened_63 rfl (Or.inl rfl) (Nat.le_of_ble_eq_true rfl) (Nat.le_refl 0) (mh_retz_rfl (Or.inl rfl))
    · replace h := mh_ifn hc12 h
      refine mw_aload_n dX3_opened_23 1 rfl ?_
      refine mw_iload_n dX3_opened_24 2 rfl ?_
      obtain ⟨q9, hq9, h⟩ := mh_bind h
      refine mw_vz (ci := 3) (fs := (fsX3 7 (some tx))) (T := TX3) (N := 7) cv_X3_48 wd_391 dX3_opened_25 [.int p1] [.int p1, .ref 7] rfl rfl rfl rfl (hg2 _ _ _ hq9) ⟨by omega, by decide⟩ (Nat.le_of_ble_eq_true rfl) ⟨rfl, rfl⟩ (fun zq9 => ?_)
      refine mw_if_ne (tgt := 33) dX3_opened_28 (by decide) (fun hc11 => ?_) (fun hc11 => ?_)
      · replace h := mh_ifn hc11 h
        refine mw_aload_n dX3_opened_33 1 rfl ?_
        refine mw_getr (b := tx) (fs := (fsX3 7 (some tx))) gf_X3_19 dX3_opened_34 rfl rfl ?_
        refine mw_bipush (v := -3) dX3_opened_37 (by decide) ?_
        obtain ⟨q10, hq10, h⟩ := mh_bind h
        refine mw_vv (dc := 0) (ci := 4) (fs := (fsX4 tx)) (T := TX4) (N := 5) cv_X3_58 wd_395 dX3_opened_39 [.int (-3 : Int32)] [.int (-3 : Int32), .ref tx] rfl rfl hI.1 rfl (t_X4_add hI hq10) ⟨by omega, by decide⟩ (Nat.le_of_ble_eq_true rfl) ⟨rfl, rfl⟩ ?_
        refine mw_iconst (v := 1) dX3_opened_42 (by decide) ?_
        obtain rfl := Option.some.inj h
        exact mw_zret dX3_opened_43 rfl (Or.inr rfl) (Nat.le_of_ble_eq_true rfl) (Nat.le_refl 0) (mh_retz_rfl (Or.inr rfl))
      · replace h := mh_ifp hc11 h
        refine mw_iconst (v := 0) dX3_opened_31 (by decide) ?_
        obtain rfl := Option.some.inj h
        exact mw_zret dX3_opened_32 rfl (Or.inl rfl) (Nat.le_of_ble_eq_true rfl) (Nat.le_refl 0) (mh_retz_rfl (Or.inl rfl))
  · refine mw_icmp_ne (tgt := 13) dX3_opened_6 (by decide) (fun hc3 => ?_) (fun hc3 => ?_)
    · replace h := mh_ifn hc3 h
      refine mw_iconst (v := 0) dX3_opened_13 (by decide) ?_
      refine mw_loc [0, 1] rfl ?_
      exact hJ2 _ h
    · replace h := mh_ifp hc3 h
      refine mw_iconst (v := 1) dX3_opened_9 (by decide) ?_
      refine mw_goto (tgt := 14) dX3_opened_10 (by decide) ?_
      refine mw_loc [0, 1] rfl ?_
      exact hJ2 _ h
abbrev w_X3_one (dn : Nat) (sh : List mh_C) (Φ : mh_P) (I : mh_I) (L : mh_L) (pc : Nat) (lv : List (Nat × Value)) (st : List Value) : Prop := mh_W RX3 cX3_one 2 (some .boolean) false (mh_rm (dn + 1)) 46 0 0 mh_noX Φ 0 sh I L pc lv st
def X3_one (g : Nat → Int32 → Int32 → mh_I → Option (Int32 × mh_I)) (tx : Nat) (p1 : Int32) (I : mh_I) : Option (Int32 × mh_I) := mh_j (fun (I1 : mh_I) => (X3_advance I1).bind (fun q14 => some ((1 : Int32), q14))) (fun J2 => if (I 7 4) = (2 : Int32) then (X4_add tx (I 7 5) I).bind (fun q12 => (J2 q12)) else (X5_within (I 7 4) (306 : Int32) (311 : Int32)).bind (fun q3 => if q3 = 0 then mh_j (if (5 : Int32) ≤ p1 then some ((0 : Int32), I) else (g 3 (p1 + (1 : Int32)) 0 I).bind (fun q7 => if q7.1 = 0 then some ((0 : Int32), q7.2) else some ((1 : Int32), q7.2))) (fun J4 => if (I 7 4) = (45 : Int32) then J4 else if (I 7 4) = (40 : Int32) then J4 else some ((0 : Int32), I)) else (X4_add tx (-(I 7 4)) I).bind (fun q10 => (J2 q10))))
set_option maxHeartbeats 4000000 in
set_option maxRecDepth 100000 in
theorem t_X3_one {tx : Nat} {I : mh_I} {p1 : Int32} {L : mh_L} {g : Nat → Int32 → Int32 → mh_I → Option (Int32 × mh_I)} {dn : Nat} (hdn : 20 ≤ dn) (hg0 : ∀ (a b : Int32) (I : mh_I) (q : Int32 × mh_I), g 0 a b I = some q → mh_CT yX3_chain cX3_chain 6 (some .boolean) (mh_rm dn) (SHX (some tx)) I L [.ref 7, .int a, .int b] (mh_retz q.1 (SHX (some tx)) q.2 L)) (hg1 : ∀ (a : Int32) (I : mh_I) (q : Int32 × mh_I), g 1 a 0 I = some q → mh_CT yX3_negation cX3_negation 2 (some .boolean) (mh_rm dn) (SHX (some tx)) I L [.ref 7, .int a] (mh_retz q.1 (SHX (some tx)) q.2 L)) (hg2 : ∀ (a : Int32) (I : mh_I) (q : Int32 × mh_I), g 2 a 0 I = some q → mh_CT yX3_one cX3_one 2 (some .boolean) (mh_rm dn) (SHX (some tx)) I L [.ref 7, .int a] (mh_retz q.1 (SHX (some tx)) q.2 L)) (hg3 : ∀ (a : Int32) (I : mh_I) (q : Int32 × mh_I), g 3 a 0 I = some q → mh_CT yX3_opened cX3_opened 3 (some .boolean) (mh_rm dn) (SHX (some tx)) I L [.ref 7, .int a] (mh_retz q.1 (SHX (some tx)) q.2 L)) (hI : hs_X4 (SHX (some tx)) tx) {res : Int32 × mh_I} (h : X3_one g tx p1 I = some res) : mh_CT yX3_one cX3_one 2 (some .boolean) (mh_rm (dn + 1)) (SHX (some tx)) I L [.ref 7, .int p1] (mh_retz res.1 (SHX (some tx)) res.2 L) := by
  refine mh_ofW (ini := false) RX3 rfl (by decide) (fun h => by cases h) (Nat.le_of_ble_eq_true rfl) ?_
  show w_X3_one dn (SHX (some tx)) (mh_retz res.1 (SHX (some tx)) res.2 L) I L 0 [(0, .ref 7), (1, .int p1)] []
  unfold X3_one at h
  refine mw_aload_n dX3_one_0 0 rfl ?_
  refine mw_geti (fs := (fsX3 7 (some tx))) gf_X3_34 dX3_one_1 rfl rfl ?_
  refine mw_iconst (v := 2) dX3_one_4 (by decide) ?_
  refine mh_jw (fun J2 => ∀ (I1 : mh_I), J2 I1 = some res → w_X3_one dn (SHX (some tx)) (mh_retz res.1 (SHX (some tx)) res.2 L) I1 L 92 [(0, .ref 7)] []) h (fun I1 h => ?_) (fun J2 hJ2 h => ?_)
  · refine mw_aload_n dX3_one_92 0 rfl ?_
    obtain ⟨q14, hq14, h⟩ := mh_bind h
    refine mw_vv (dc := 7) (ci := 3) (fs := (fsX3 7 (some tx))) (T := TX3) (N := 7) cv_X3_31 wd_362 dX3_one_93 [] [.ref 7] rfl rfl rfl rfl (t_X3_advance hq14) ⟨by omega, by decide⟩ (Nat.le_of_ble_eq_true rfl) ⟨rfl, rfl⟩ ?_
    refine mw_iconst (v := 1) dX3_one_96 (by decide) ?_
    obtain rfl := Option.some.inj h
    exact mw_zret dX3_one_97 rfl (Or.inr rfl) (Nat.le_of_ble_eq_true rfl) (Nat.le_refl 0) (mh_retz_rfl (Or.inr rfl))
  · refine mw_icmp_ne (tgt := 22) dX3_one_5 (by decide) (fun hc13 => ?_) (fun hc13 => ?_)
    · replace h := mh_ifn hc13 h
      refine mw_aload_n dX3_one_22 0 rfl ?_
      refine mw_geti (fs := (fsX3 7 (some tx))) gf_X3_34 dX3_one_23 rfl rfl ?_
      refine mw_sipush (v := 306) dX3_one_26 (by decide) ?_
      refine mw_sipush (v := 311) dX3_one_29 (by decide) ?_
      obtain ⟨q3, hq3, h⟩ := mh_bind h
      refine mw_sz (dc := 0) cs_X3_64 wd_28 dX3_one_32 [.int (I 7 4), .int (306 : Int32), .int (311 : Int32)] [.int (311 : Int32), .int (306 : Int32), .int (I 7 4)] rfl rfl (t_X5_within hq3) ⟨by omega, by decide⟩ (Nat.le_of_ble_eq_true rfl) ⟨rfl, rfl⟩ (fun zq3 => ?_)
      refine mw_if_eq (tgt := 53) dX3_one_35 (by decide) (fun hc11 => ?_) (fun hc11 => ?_)
      · replace h := mh_ifp hc11 h
        refine mw_aload_n dX3_one_53 0 rfl ?_
        refine mw_geti (fs := (fsX3 7 (some tx))) gf_X3_34 dX3_one_54 rfl rfl ?_
        refine mw_bipush (v := 45) dX3_one_57 (by decide) ?_
        refine mh_jw (fun J4 => J4 = some res → w_X3_one dn (SHX (some tx)) (mh_retz res.1 (SHX (some tx)) res.2 L) I L 71 [(0, .ref 7), (1, .int p1)] []) h (fun h => ?_) (fun J4 hJ4 h => ?_)
        · refine mw_iload_n dX3_one_71 1 rfl ?_
          refine mw_iconst (v := 5) dX3_one_72 (by decide) ?_
          refine mw_icmp_ge (tgt := 90) dX3_one_73 (by decide) (fun hc9 => ?_) (fun hc9 => ?_)
          · replace h := mh_ifp hc9 h
            refine mw_iconst (v := 0) dX3_one_90 (by decide) ?_
            obtain rfl := Option.some.inj h
            exact mw_zret dX3_one_91 rfl (Or.inl rfl) (Nat.le_of_ble_eq_true rfl) (Nat.le_refl 0) (mh_retz_rfl (Or.inl rfl))
          · replace h := mh_ifn hc9 h
            refine mw_aload_n dX3_one_76 0 rfl ?_
            refine mw_iload_n dX3_one_77 1 rfl ?_
            refine mw_iconst (v := 1) dX3_one_78 (by decide) ?_
            refine mw_iadd dX3_one_79 ?_
            obtain ⟨q7, hq7, h⟩ := mh_bind h
            refine mw_vz (ci := 3) (fs := (fsX3 7 (some tx))) (T := TX3) (N := 7) cv_X3_68 wd_399 dX3_one_80 [.int (p1 + (1 : Int32))] [.int (p1 + (1 : Int32)), .ref 7] rfl rfl rfl rfl (hg3 _ _ _ hq7) ⟨by omega, by decide⟩ (Nat.le_of_ble_eq_true rfl) ⟨rfl, rfl⟩ (fun zq7 => ?_)
            refine mw_if_eq (tgt := 90) dX3_one_83 (by decide) (fun hc8 => ?_) (fun hc8 => ?_)
            · replace h := mh_ifp hc8 h
              refine mw_iconst (v := 0) dX3_one_90 (by decide) ?_
              obtain rfl := Option.some.inj h
              exact mw_zret dX3_one_91 rfl (Or.inl rfl) (Nat.le_of_ble_eq_true rfl) (Nat.le_refl 0) (mh_retz_rfl (Or.inl rfl))
            · replace h := mh_ifn hc8 h
              refine mw_iconst (v := 1) dX3_one_86 (by decide) ?_
              refine mw_goto (tgt := 91) dX3_one_87 (by decide) ?_
              obtain rfl := Option.some.inj h
              exact mw_zret dX3_one_91 rfl (Or.inr rfl) (Nat.le_of_ble_eq_true rfl) (Nat.le_refl 0) (mh_retz_rfl (Or.inr rfl))
        · refine mw_icmp_eq (tgt := 71) dX3_one_59 (by decide) (fun hc6 => ?_) (fun hc6 => ?_)
          · replace h := mh_ifp hc6 h
            refine mw_loc [0, 1] rfl ?_
            exact hJ4  h
          · replace h := mh_ifn hc6 h
            refine mw_aload_n dX3_one_62 0 rfl ?_
            refine mw_geti (fs := (fsX3 7 (some tx))) gf_X3_34 dX3_one_63 rfl rfl ?_
            refine mw_bipush (v := 40) dX3_one_66 (by decide) ?_
            refine mw_icmp_ne (tgt := 90) dX3_one_68 (by decide) (fun hc5 => ?_) (fun hc5 => ?_)
            · replace h := mh_ifn hc5 h
              refine mw_iconst (v := 0) dX3_one_90 (by decide) ?_
              obtain rfl := Option.some.inj h
              exact mw_zret dX3_one_91 rfl (Or.inl rfl) (Nat.le_of_ble_eq_true rfl) (Nat.le_refl 0) (mh_retz_rfl (Or.inl rfl))
            · replace h := mh_ifp hc5 h
              refine mw_loc [0, 1] rfl ?_
              exact hJ4  h
      · replace h := mh_ifn hc11 h
        refine mw_aload_n dX3_one_38 0 rfl ?_
        refine mw_getr (b := tx) (fs := (fsX3 7 (some tx))) gf_X3_19 dX3_one_39 rfl rfl ?_
        refine mw_aload_n dX3_one_42 0 rfl ?_
        refine mw_geti (fs := (fsX3 7 (some tx))) gf_X3_34 dX3_one_43 rfl rfl ?_
        refine mw_ineg dX3_one_46 ?_
        obtain ⟨q10, hq10, h⟩ := mh_bind h
        refine mw_vv (dc := 0) (ci := 4) (fs := (fsX4 tx)) (T := TX4) (N := 5) cv_X3_58 wd_395 dX3_one_47 [.int (-(I 7 4))] [.int (-(I 7 4)), .ref tx] rfl rfl hI.1 rfl (t_X4_add hI hq10) ⟨by omega, by decide⟩ (Nat.le_of_ble_eq_true rfl) ⟨rfl, rfl⟩ ?_
        refine mw_goto (tgt := 92) dX3_one_50 (by decide) ?_
        refine mw_loc [0] rfl ?_
        exact hJ2 _ h
    · replace h := mh_ifp hc13 h
      refine mw_aload_n dX3_one_8 0 rfl ?_
      refine mw_getr (b := tx) (fs := (fsX3 7 (some tx))) gf_X3_19 dX3_one_9 rfl rfl ?_
      refine mw_aload_n dX3_one_12 0 rfl ?_
      refine mw_geti (fs := (fsX3 7 (some tx))) gf_X3_61 dX3_one_13 rfl rfl ?_
      obtain ⟨q12, hq12, h⟩ := mh_bind h
      refine mw_vv (dc := 0) (ci := 4) (fs := (fsX4 tx)) (T := TX4) (N := 5) cv_X3_58 wd_395 dX3_one_16 [.int (I 7 5)] [.int (I 7 5), .ref tx] rfl rfl hI.1 rfl (t_X4_add hI hq12) ⟨by omega, by decide⟩ (Nat.le_of_ble_eq_true rfl) ⟨rfl, rfl⟩ ?_
      refine mw_goto (tgt := 92) dX3_one_19 (by decide) ?_
      refine mw_loc [0] rfl ?_
      exact hJ2 _ h
abbrev w_X3_negation (dn : Nat) (sh : List mh_C) (Φ : mh_P) (I : mh_I) (L : mh_L) (pc : Nat) (lv : List (Nat × Value)) (st : List Value) : Prop := mh_W RX3 cX3_negation 2 (some .boolean) false (mh_rm (dn + 1)) 46 0 0 mh_noX Φ 0 sh I L pc lv st
def X3_negation (g : Nat → Int32 → Int32 → mh_I → Option (Int32 × mh_I)) (tx : Nat) (p1 : Int32) (I : mh_I) : Option (Int32 × mh_I) := if p1 < (5 : Int32) then (X3_advance I).bind (fun q1 => (g 0 (2 : Int32) (p1 + (1 : Int32)) q1).bind (fun q2 => if q2.1 = 0 then some ((0 : Int32), q2.2) else (X4_add tx (-305 : Int32) q2.2).bind (fun q3 => some ((1 : Int32), q3)))) else some ((0 : Int32), I)
set_option maxHeartbeats 4000000 in
set_option maxRecDepth 100000 in
theorem t_X3_negation {tx : Nat} {I : mh_I} {p1 : Int32} {L : mh_L} {g : Nat → Int32 → Int32 → mh_I → Option (Int32 × mh_I)} {dn : Nat} (hdn : 20 ≤ dn) (hg0 : ∀ (a b : Int32) (I : mh_I) (q : Int32 × mh_I), g 0 a b I = some q → mh_CT yX3_chain cX3_chain 6 (some .boolean) (mh_rm dn) (SHX (some tx)) I L [.ref 7, .int a, .int b] (mh_retz q.1 (SHX (some tx)) q.2 L)) (hg1 : ∀ (a : Int32) (I : mh_I) (q : Int32 × mh_I), g 1 a 0 I = some q → mh_CT yX3_negation cX3_negation 2 (some .boolean) (mh_rm dn) (SHX (some tx)) I L [.ref 7, .int a] (mh_retz q.1 (SHX (some tx)) q.2 L)) (hg2 : ∀ (a : Int32) (I : mh_I) (q : Int32 × mh_I), g 2 a 0 I = some q → mh_CT yX3_one cX3_one 2 (some .boolean) (mh_rm dn) (SHX (some tx)) I L [.ref 7, .int a] (mh_retz q.1 (SHX (some tx)) q.2 L)) (hg3 : ∀ (a : Int32) (I : mh_I) (q : Int32 × mh_I), g 3 a 0 I = some q → mh_CT yX3_opened cX3_opened 3 (some .boolean) (mh_rm dn) (SHX (some tx)) I L [.ref 7, .int a] (mh_retz q.1 (SHX (some tx)) q.2 L)) (hI : hs_X4 (SHX (some tx)) tx) {res : Int32 × mh_I} (h : X3_negation g tx p1 I = some res) : mh_CT yX3_negation cX3_negation 2 (some .boolean) (mh_rm (dn + 1)) (SHX (some tx)) I L [.ref 7, .int p1] (mh_retz res.1 (SHX (some tx)) res.2 L) := by
  refine mh_ofW (ini := false) RX3 rfl (by decide) (fun h => by cases h) (Nat.le_of_ble_eq_true rfl) ?_
  show w_X3_negation dn (SHX (some tx)) (mh_retz res.1 (SHX (some tx)) res.2 L) I L 0 [(0, .ref 7), (1, .int p1)] []
  unfold X3_negation at h
  refine mw_iload_n dX3_negation_0 1 rfl ?_
  refine mw_iconst (v := 5) dX3_negation_1 (by decide) ?_
  refine mw_icmp_lt (tgt := 7) dX3_negation_2 (by decide) (fun hc5 => ?_) (fun hc5 => ?_)
  · replace h := mh_ifp hc5 h
    refine mw_aload_n dX3_negation_7 0 rfl ?_
    obtain ⟨q1, hq1, h⟩ := mh_bind h
    refine mw_vv (dc := 7) (ci := 3) (fs := (fsX3 7 (some tx))) (T := TX3) (N := 7) cv_X3_31 wd_362 dX3_negation_8 [] [.ref 7] rfl rfl rfl rfl (t_X3_advance hq1) ⟨by omega, by decide⟩ (Nat.le_of_ble_eq_true rfl) ⟨rfl, rfl⟩ ?_
    refine mw_aload_n dX3_negation_11 0 rfl ?_
    refine mw_iconst (v := 2) dX3_negation_12 (by decide) ?_
    refine mw_iload_n dX3_negation_13 1 rfl ?_
    refine mw_iconst (v := 1) dX3_negation_14 (by decide) ?_
    refine mw_iadd dX3_negation_15 ?_
    obtain ⟨q2, hq2, h⟩ := mh_bind h
    refine mw_vz (ci := 3) (fs := (fsX3 7 (some tx))) (T := TX3) (N := 7) cv_X3_40 wd_387 dX3_negation_16 [.int (2 : Int32), .int (p1 + (1 : Int32))] [.int (p1 + (1 : Int32)), .int (2 : Int32), .ref 7] rfl rfl rfl rfl (hg0 _ _ _ _ hq2) ⟨by omega, by decide⟩ (Nat.le_of_ble_eq_true rfl) ⟨rfl, rfl⟩ (fun zq2 => ?_)
    refine mw_if_ne (tgt := 24) dX3_negation_19 (by decide) (fun hc4 => ?_) (fun hc4 => ?_)
    · replace h := mh_ifn hc4 h
      refine mw_aload_n dX3_negation_24 0 rfl ?_
      refine mw_getr (b := tx) (fs := (fsX3 7 (some tx))) gf_X3_19 dX3_negation_25 rfl rfl ?_
      refine mw_sipush (v := -305) dX3_negation_28 (by decide) ?_
      obtain ⟨q3, hq3, h⟩ := mh_bind h
      refine mw_vv (dc := 0) (ci := 4) (fs := (fsX4 tx)) (T := TX4) (N := 5) cv_X3_58 wd_395 dX3_negation_31 [.int (-305 : Int32)] [.int (-305 : Int32), .ref tx] rfl rfl hI.1 rfl (t_X4_add hI hq3) ⟨by omega, by decide⟩ (Nat.le_of_ble_eq_true rfl) ⟨rfl, rfl⟩ ?_
      refine mw_iconst (v := 1) dX3_negation_34 (by decide) ?_
      obtain rfl := Option.some.inj h
      exact mw_zret dX3_negation_35 rfl (Or.inr rfl) (Nat.le_of_ble_eq_true rfl) (Nat.le_refl 0) (mh_retz_rfl (Or.inr rfl))
    · replace h := mh_ifp hc4 h
      refine mw_iconst (v := 0) dX3_negation_22 (by decide) ?_
      obtain rfl := Option.some.inj h
      exact mw_zret dX3_negation_23 rfl (Or.inl rfl) (Nat.le_of_ble_eq_true rfl) (Nat.le_refl 0) (mh_retz_rfl (Or.inl rfl))
  · replace h := mh_ifn hc5 h
    refine mw_iconst (v := 0) dX3_negation_5 (by decide) ?_
    obtain rfl := Option.some.inj h
    exact mw_zret dX3_negation_6 rfl (Or.inl rfl) (Nat.le_of_ble_eq_true rfl) (Nat.le_refl 0) (mh_retz_rfl (Or.inl rfl))
abbrev w_X3_chain (dn : Nat) (sh : List mh_C) (Φ : mh_P) (I : mh_I) (L : mh_L) (pc : Nat) (lv : List (Nat × Value)) (st : List Value) : Prop := mh_W RX3 cX3_chain 6 (some .boolean) false (mh_rm (dn + 1)) 46 0 0 mh_noX Φ 0 sh I L pc lv st
def X3_chain_l61 (g : Nat → Int32 → Int32 → mh_I → Option (Int32 × mh_I)) (tx : Nat) (u1 : Int32) (u2 : Int32) (u3 : Int32) : Nat → Int32 → mh_I → Option (Int32 × mh_I)
  | 0, _, _ => none
  | n + 1, u4, I => if u3 ≤ u4 then some ((1 : Int32), I) else (X3_joins u1 (I 7 4)).bind (fun q9 => if q9 = 0 then some ((1 : Int32), I) else mh_b (I 7 4) (fun b10 => (X3_advance I).bind (fun q11 => (g 0 (u1 + (1 : Int32)) u2 q11).bind (fun q12 => if q12.1 = 0 then some ((0 : Int32), q12.2) else (X4_add tx (-b10) q12.2).bind (fun q13 => mh_b (u4 + (1 : Int32)) (fun b14 => (X3_chain_l61 g tx u1 u2 u3 n b14 q13)))))))
set_option maxHeartbeats 4000000 in
set_option maxRecDepth 100000 in
theorem t_X3_chain_l61 {tx : Nat} (hI : hs_X4 (SHX (some tx)) tx) {L : mh_L} {g : Nat → Int32 → Int32 → mh_I → Option (Int32 × mh_I)} {dn : Nat} (hdn : 20 ≤ dn) (hg0 : ∀ (a b : Int32) (I : mh_I) (q : Int32 × mh_I), g 0 a b I = some q → mh_CT yX3_chain cX3_chain 6 (some .boolean) (mh_rm dn) (SHX (some tx)) I L [.ref 7, .int a, .int b] (mh_retz q.1 (SHX (some tx)) q.2 L)) (hg1 : ∀ (a : Int32) (I : mh_I) (q : Int32 × mh_I), g 1 a 0 I = some q → mh_CT yX3_negation cX3_negation 2 (some .boolean) (mh_rm dn) (SHX (some tx)) I L [.ref 7, .int a] (mh_retz q.1 (SHX (some tx)) q.2 L)) (hg2 : ∀ (a : Int32) (I : mh_I) (q : Int32 × mh_I), g 2 a 0 I = some q → mh_CT yX3_one cX3_one 2 (some .boolean) (mh_rm dn) (SHX (some tx)) I L [.ref 7, .int a] (mh_retz q.1 (SHX (some tx)) q.2 L)) (hg3 : ∀ (a : Int32) (I : mh_I) (q : Int32 × mh_I), g 3 a 0 I = some q → mh_CT yX3_opened cX3_opened 3 (some .boolean) (mh_rm dn) (SHX (some tx)) I L [.ref 7, .int a] (mh_retz q.1 (SHX (some tx)) q.2 L)) {u1 : Int32} {u2 : Int32} {u3 : Int32} {res : Int32 × mh_I} (n : Nat) (u4 : Int32) (I : mh_I) (h : X3_chain_l61 g tx u1 u2 u3 n u4 I = some res)  : w_X3_chain dn (SHX (some tx)) (mh_retz res.1 (SHX (some tx)) res.2 L) I L 61 [(0, .ref 7), (1, .int u1), (2, .int u2), (3, .int u3), (4, .int u4)] [] := by
  induction n generalizing u4 I with
  | zero => rw [X3_chain_l61] at h; cases h
  | succ n ih =>
    rw [X3_chain_l61] at h
    refine mw_iload dX3_chain_61 4 rfl ?_
    refine mw_iload_n dX3_chain_63 3 rfl ?_
    refine mw_icmp_ge (tgt := 117) dX3_chain_64 (by decide) (fun hc17 => ?_) (fun hc17 => ?_)
    · replace h := mh_ifp hc17 h
      refine mw_iconst (v := 1) dX3_chain_117 (by decide) ?_
      obtain rfl := Option.some.inj h
      exact mw_zret dX3_chain_118 rfl (Or.inr rfl) (Nat.le_of_ble_eq_true rfl) (Nat.le_refl 0) (mh_retz_rfl (Or.inr rfl))
    · replace h := mh_ifn hc17 h
      refine mw_iload_n dX3_chain_67 1 rfl ?_
      refine mw_aload_n dX3_chain_68 0 rfl ?_
      refine mw_geti (fs := (fsX3 7 (some tx))) gf_X3_34 dX3_chain_69 rfl rfl ?_
      obtain ⟨q9, hq9, h⟩ := mh_bind h
      refine mw_sz (dc := 0) cs_X3_55 wd_406 dX3_chain_72 [.int u1, .int (I 7 4)] [.int (I 7 4), .int u1] rfl rfl (t_X3_joins hq9) ⟨by omega, by decide⟩ (Nat.le_of_ble_eq_true rfl) ⟨rfl, rfl⟩ (fun zq9 => ?_)
      refine mw_if_eq (tgt := 117) dX3_chain_75 (by decide) (fun hc16 => ?_) (fun hc16 => ?_)
      · replace h := mh_ifp hc16 h
        refine mw_iconst (v := 1) dX3_chain_117 (by decide) ?_
        obtain rfl := Option.some.inj h
        exact mw_zret dX3_chain_118 rfl (Or.inr rfl) (Nat.le_of_ble_eq_true rfl) (Nat.le_refl 0) (mh_retz_rfl (Or.inr rfl))
      · replace h := mh_ifn hc16 h
        refine mw_aload_n dX3_chain_78 0 rfl ?_
        refine mw_geti (fs := (fsX3 7 (some tx))) gf_X3_34 dX3_chain_79 rfl rfl ?_
        obtain ⟨b10, eb10, h⟩ := mh_b_some h
        refine mw_nmi eb10 ?_
        refine mw_istore dX3_chain_82 (by decide) rfl ?_
        refine mw_aload_n dX3_chain_84 1 rfl ?_
        obtain ⟨q11, hq11, h⟩ := mh_bind h
        refine mw_vv (dc := 7) (ci := 3) (fs := (fsX3 7 (some tx))) (T := TX3) (N := 7) cv_X3_31 wd_362 dX3_chain_85 [] [.ref 7] rfl rfl rfl rfl (t_X3_advance hq11) ⟨by omega, by decide⟩ (Nat.le_of_ble_eq_true rfl) ⟨rfl, rfl⟩ ?_
        refine mw_aload_n dX3_chain_88 1 rfl ?_
        refine mw_iload_n dX3_chain_89 2 rfl ?_
        refine mw_iconst (v := 1) dX3_chain_90 (by decide) ?_
        refine mw_iadd dX3_chain_91 ?_
        refine mw_iload_n dX3_chain_92 3 rfl ?_
        obtain ⟨q12, hq12, h⟩ := mh_bind h
        refine mw_vz (ci := 3) (fs := (fsX3 7 (some tx))) (T := TX3) (N := 7) cv_X3_40 wd_387 dX3_chain_93 [.int (u1 + (1 : Int32)), .int u2] [.int u2, .int (u1 + (1 : Int32)), .ref 7] rfl rfl rfl rfl (hg0 _ _ _ _ hq12) ⟨by omega, by decide⟩ (Nat.le_of_ble_eq_true rfl) ⟨rfl, rfl⟩ (fun zq12 => ?_)
        refine mw_if_ne (tgt := 101) dX3_chain_96 (by decide) (fun hc15 => ?_) (fun hc15 => ?_)
        · replace h := mh_ifn hc15 h
          refine mw_aload_n dX3_chain_101 1 rfl ?_
          refine mw_getr (b := tx) (fs := (fsX3 7 (some tx))) gf_X3_19 dX3_chain_102 rfl rfl ?_
          refine mw_iload dX3_chain_105 0 rfl ?_
          refine mw_ineg dX3_chain_107 ?_
          obtain ⟨q13, hq13, h⟩ := mh_bind h
          refine mw_vv (dc := 0) (ci := 4) (fs := (fsX4 tx)) (T := TX4) (N := 5) cv_X3_58 wd_395 dX3_chain_108 [.int (-b10)] [.int (-b10), .ref tx] rfl rfl hI.1 rfl (t_X4_add hI hq13) ⟨by omega, by decide⟩ (Nat.le_of_ble_eq_true rfl) ⟨rfl, rfl⟩ ?_
          obtain ⟨b14, eb14, h⟩ := mh_b_some h
          refine mw_iinc (v := b14) dX3_chain_111 5 rfl (by rw [← eb14]; rfl) (by decide) rfl ?_
          refine mw_goto (tgt := 61) dX3_chain_114 (by decide) ?_
          refine mw_loc [2, 3, 4, 5, 0] rfl ?_
          exact ih _ _ h
        · replace h := mh_ifp hc15 h
          refine mw_iconst (v := 0) dX3_chain_99 (by decide) ?_
          obtain rfl := Option.some.inj h
          exact mw_zret dX3_chain_100 rfl (Or.inl rfl) (Nat.le_of_ble_eq_true rfl) (Nat.le_refl 0) (mh_retz_rfl (Or.inl rfl))
def X3_chain (g : Nat → Int32 → Int32 → mh_I → Option (Int32 × mh_I)) (tx : Nat) (p1 : Int32) (p2 : Int32) (I : mh_I) : Option (Int32 × mh_I) := if p1 < (5 : Int32) then mh_j ((g 0 (p1 + (1 : Int32)) p2 I).bind (fun q5 => if q5.1 = 0 then some ((0 : Int32), q5.2) else mh_j (fun (s6 : Int32) => X3_chain_l61 g tx p1 p2 s6 mh_fuel (0 : Int32) q5.2) (fun J7 => if p1 = (2 : Int32) then (J7 (1 : Int32)) else (J7 (160 : Int32))))) (fun J1 => if p1 = (2 : Int32) then if (I 7 4) = (305 : Int32) then (g 1 p2 0 I).bind (fun q2 => some (q2.1, q2.2)) else J1 else J1) else (g 2 p2 0 I).bind (fun q19 => some (q19.1, q19.2))
set_option maxHeartbeats 4000000 in
set_option maxRecDepth 100000 in
theorem t_X3_chain {tx : Nat} {I : mh_I} {p1 : Int32} {p2 : Int32} {L : mh_L} {g : Nat → Int32 → Int32 → mh_I → Option (Int32 × mh_I)} {dn : Nat} (hdn : 20 ≤ dn) (hg0 : ∀ (a b : Int32) (I : mh_I) (q : Int32 × mh_I), g 0 a b I = some q → mh_CT yX3_chain cX3_chain 6 (some .boolean) (mh_rm dn) (SHX (some tx)) I L [.ref 7, .int a, .int b] (mh_retz q.1 (SHX (some tx)) q.2 L)) (hg1 : ∀ (a : Int32) (I : mh_I) (q : Int32 × mh_I), g 1 a 0 I = some q → mh_CT yX3_negation cX3_negation 2 (some .boolean) (mh_rm dn) (SHX (some tx)) I L [.ref 7, .int a] (mh_retz q.1 (SHX (some tx)) q.2 L)) (hg2 : ∀ (a : Int32) (I : mh_I) (q : Int32 × mh_I), g 2 a 0 I = some q → mh_CT yX3_one cX3_one 2 (some .boolean) (mh_rm dn) (SHX (some tx)) I L [.ref 7, .int a] (mh_retz q.1 (SHX (some tx)) q.2 L)) (hg3 : ∀ (a : Int32) (I : mh_I) (q : Int32 × mh_I), g 3 a 0 I = some q → mh_CT yX3_opened cX3_opened 3 (some .boolean) (mh_rm dn) (SHX (some tx)) I L [.ref 7, .int a] (mh_retz q.1 (SHX (some tx)) q.2 L)) (hI : hs_X4 (SHX (some tx)) tx) {res : Int32 × mh_I} (h : X3_chain g tx p1 p2 I = some res) : mh_CT yX3_chain cX3_chain 6 (some .boolean) (mh_rm (dn + 1)) (SHX (some tx)) I L [.ref 7, .int p1, .int p2] (mh_retz res.1 (SHX (some tx)) res.2 L) := by
  refine mh_ofW (ini := false) RX3 rfl (by decide) (fun h => by cases h) (Nat.le_of_ble_eq_true rfl) ?_
  show w_X3_chain dn (SHX (some tx)) (mh_retz res.1 (SHX (some tx)) res.2 L) I L 0 [(0, .ref 7), (1, .int p1), (2, .int p2)] []
  unfold X3_chain at h
  refine mw_iload_n dX3_chain_0 1 rfl ?_
  refine mw_iconst (v := 5) dX3_chain_1 (by decide) ?_
  refine mw_icmp_lt (tgt := 11) dX3_chain_2 (by decide) (fun hc20 => ?_) (fun hc20 => ?_)
  · replace h := mh_ifp hc20 h
    refine mw_iload_n dX3_chain_11 1 rfl ?_
    refine mw_iconst (v := 2) dX3_chain_12 (by decide) ?_
    refine mh_jw (fun J1 => J1 = some res → w_X3_chain dn (SHX (some tx)) (mh_retz res.1 (SHX (some tx)) res.2 L) I L 32 [(0, .ref 7), (1, .int p1), (2, .int p2)] []) h (fun h => ?_) (fun J1 hJ1 h => ?_)
    · refine mw_aload_n dX3_chain_32 0 rfl ?_
      refine mw_iload_n dX3_chain_33 1 rfl ?_
      refine mw_iconst (v := 1) dX3_chain_34 (by decide) ?_
      refine mw_iadd dX3_chain_35 ?_
      refine mw_iload_n dX3_chain_36 2 rfl ?_
      obtain ⟨q5, hq5, h⟩ := mh_bind h
      refine mw_vz (ci := 3) (fs := (fsX3 7 (some tx))) (T := TX3) (N := 7) cv_X3_40 wd_387 dX3_chain_37 [.int (p1 + (1 : Int32)), .int p2] [.int p2, .int (p1 + (1 : Int32)), .ref 7] rfl rfl rfl rfl (hg0 _ _ _ _ hq5) ⟨by omega, by decide⟩ (Nat.le_of_ble_eq_true rfl) ⟨rfl, rfl⟩ (fun zq5 => ?_)
      refine mw_if_ne (tgt := 45) dX3_chain_40 (by decide) (fun hc18 => ?_) (fun hc18 => ?_)
      · replace h := mh_ifn hc18 h
        refine mw_iload_n dX3_chain_45 1 rfl ?_
        refine mw_iconst (v := 2) dX3_chain_46 (by decide) ?_
        refine mh_jw (fun J7 => ∀ (s6 : Int32), J7 s6 = some res → w_X3_chain dn (SHX (some tx)) (mh_retz res.1 (SHX (some tx)) res.2 L) q5.2 L 57 [(0, .ref 7), (1, .int p1), (2, .int p2)] [.int s6]) h (fun s6 h => ?_) (fun J7 hJ7 h => ?_)
        · refine mw_istore_n dX3_chain_57 (by decide) rfl ?_
          refine mw_iconst (v := 0) dX3_chain_58 (by decide) ?_
          refine mw_istore dX3_chain_59 (by decide) rfl ?_
          refine mw_loc [2, 3, 4, 1, 0] rfl ?_
          exact t_X3_chain_l61 hI hdn hg0 hg1 hg2 hg3 _ _ _ h 
        · refine mw_icmp_ne (tgt := 54) dX3_chain_47 (by decide) (fun hc8 => ?_) (fun hc8 => ?_)
          · replace h := mh_ifn hc8 h
            refine mw_sipush (v := 160) dX3_chain_54 (by decide) ?_
            refine mw_loc [0, 1, 2] rfl ?_
            exact hJ7 _ h
          · replace h := mh_ifp hc8 h
            refine mw_iconst (v := 1) dX3_chain_50 (by decide) ?_
            refine mw_goto (tgt := 57) dX3_chain_51 (by decide) ?_
            refine mw_loc [0, 1, 2] rfl ?_
            exact hJ7 _ h
      · replace h := mh_ifp hc18 h
        refine mw_iconst (v := 0) dX3_chain_43 (by decide) ?_
        obtain rfl := Option.some.inj h
        exact mw_zret dX3_chain_44 rfl (Or.inl rfl) (Nat.le_of_ble_eq_true rfl) (Nat.le_refl 0) (mh_retz_rfl (Or.inl rfl))
    · refine mw_icmp_ne (tgt := 32) dX3_chain_13 (by decide) (fun hc4 => ?_) (fun hc4 => ?_)
      · replace h := mh_ifn hc4 h
        refine mw_loc [0, 1, 2] rfl ?_
        exact hJ1  h
      · replace h := mh_ifp hc4 h
        refine mw_aload_n dX3_chain_16 0 rfl ?_
        refine mw_geti (fs := (fsX3 7 (some tx))) gf_X3_34 dX3_chain_17 rfl rfl ?_
        refine mw_sipush (v := 305) dX3_chain_20 (by decide) ?_
        refine mw_icmp_ne (tgt := 32) dX3_chain_23 (by decide) (fun hc3 => ?_) (fun hc3 => ?_)
        · replace h := mh_ifn hc3 h
          refine mw_loc [0, 1, 2] rfl ?_
          exact hJ1  h
        · replace h := mh_ifp hc3 h
          refine mw_aload_n dX3_chain_26 0 rfl ?_
          refine mw_iload_n dX3_chain_27 2 rfl ?_
          obtain ⟨q2, hq2, h⟩ := mh_bind h
          refine mw_vz (ci := 3) (fs := (fsX3 7 (some tx))) (T := TX3) (N := 7) cv_X3_52 wd_403 dX3_chain_28 [.int p2] [.int p2, .ref 7] rfl rfl rfl rfl (hg1 _ _ _ hq2) ⟨by omega, by decide⟩ (Nat.le_of_ble_eq_true rfl) ⟨rfl, rfl⟩ (fun zq2 => ?_)
          obtain rfl := Option.some.inj h
          exact mw_zret dX3_chain_31 rfl zq2 (Nat.le_of_ble_eq_true rfl) (Nat.le_refl 0) (mh_retz_rfl zq2)
  · replace h := mh_ifn hc20 h
    refine mw_aload_n dX3_chain_5 0 rfl ?_
    refine mw_iload_n dX3_chain_6 2 rfl ?_
    obtain ⟨q19, hq19, h⟩ := mh_bind h
    refine mw_vz (ci := 3) (fs := (fsX3 7 (some tx))) (T := TX3) (N := 7) cv_X3_48 wd_391 dX3_chain_7 [.int p2] [.int p2, .ref 7] rfl rfl rfl rfl (hg2 _ _ _ hq19) ⟨by omega, by decide⟩ (Nat.le_of_ble_eq_true rfl) ⟨rfl, rfl⟩ (fun zq19 => ?_)
    obtain rfl := Option.some.inj h
    exact mw_zret dX3_chain_10 rfl zq19 (Nat.le_of_ble_eq_true rfl) (Nat.le_refl 0) (mh_retz_rfl zq19)
