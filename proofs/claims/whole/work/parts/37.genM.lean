abbrev w_X6_signOf (sh : List mh_C) (Φ : mh_P) (I : mh_I) (L : mh_L) (pc : Nat) (lv : List (Nat × Value)) (st : List Value) : Prop := mh_W RX6 cX6_signOf 1 (some .int) false (mh_rm 0) 18 0 0 mh_noX Φ 0 sh I L pc lv st
def X6_signOf (I : mh_I) : Option (Int32) := if (I 0 19) = (4 : Int32) then some (11 : Int32) else if (I 0 19) = (5 : Int32) then some (12 : Int32) else if (I 0 19) = (60 : Int32) then some (14 : Int32) else if (I 0 19) = (61 : Int32) then some (15 : Int32) else if (I 0 19) = (43 : Int32) then some (16 : Int32) else if (I 0 19) = (45 : Int32) then some (17 : Int32) else if (I 0 19) = (42 : Int32) then some (18 : Int32) else some (-1 : Int32)
set_option maxHeartbeats 4000000 in
set_option maxRecDepth 100000 in
theorem t_X6_signOf {L : mh_L} {I : mh_I} {res : Int32} (h : X6_signOf I = some res) : mh_CT yX6_signOf cX6_signOf 1 (some .int) (mh_rm 0) SHM I L [.ref 0] (mh_ret (some (.int res)) SHM I L) := by
  refine mh_ofW (ini := false) RX6 rfl (by decide) (fun h => by cases h) (Nat.le_of_ble_eq_true rfl) ?_
  show w_X6_signOf SHM (mh_ret (some (.int res)) SHM I L) I L 0 [(0, .ref 0)] []
  unfold X6_signOf at h
  refine mw_aload_n dX6_signOf_0 0 rfl ?_
  refine mw_geti (fs := fsX6) gf_X6_93 dX6_signOf_1 rfl rfl ?_
  refine mw_iconst (v := 4) dX6_signOf_4 (by decide) ?_
  refine mw_icmp_ne (tgt := 13) dX6_signOf_5 (by decide) (fun hc7 => ?_) (fun hc7 => ?_)
  · replace h := mh_ifn hc7 h
    refine mw_aload_n dX6_signOf_13 0 rfl ?_
    refine mw_geti (fs := fsX6) gf_X6_93 dX6_signOf_14 rfl rfl ?_
    refine mw_iconst (v := 5) dX6_signOf_17 (by decide) ?_
    refine mw_icmp_ne (tgt := 26) dX6_signOf_18 (by decide) (fun hc6 => ?_) (fun hc6 => ?_)
    · replace h := mh_ifn hc6 h
      refine mw_aload_n dX6_signOf_26 0 rfl ?_
      refine mw_geti (fs := fsX6) gf_X6_93 dX6_signOf_27 rfl rfl ?_
      refine mw_bipush (v := 60) dX6_signOf_30 (by decide) ?_
      refine mw_icmp_ne (tgt := 40) dX6_signOf_32 (by decide) (fun hc5 => ?_) (fun hc5 => ?_)
      · replace h := mh_ifn hc5 h
        refine mw_aload_n dX6_signOf_40 0 rfl ?_
        refine mw_geti (fs := fsX6) gf_X6_93 dX6_signOf_41 rfl rfl ?_
        refine mw_bipush (v := 61) dX6_signOf_44 (by decide) ?_
        refine mw_icmp_ne (tgt := 54) dX6_signOf_46 (by decide) (fun hc4 => ?_) (fun hc4 => ?_)
        · replace h := mh_ifn hc4 h
          refine mw_aload_n dX6_signOf_54 0 rfl ?_
          refine mw_geti (fs := fsX6) gf_X6_93 dX6_signOf_55 rfl rfl ?_
          refine mw_bipush (v := 43) dX6_signOf_58 (by decide) ?_
          refine mw_icmp_ne (tgt := 68) dX6_signOf_60 (by decide) (fun hc3 => ?_) (fun hc3 => ?_)
          · replace h := mh_ifn hc3 h
            refine mw_aload_n dX6_signOf_68 0 rfl ?_
            refine mw_geti (fs := fsX6) gf_X6_93 dX6_signOf_69 rfl rfl ?_
            refine mw_bipush (v := 45) dX6_signOf_72 (by decide) ?_
            refine mw_icmp_ne (tgt := 82) dX6_signOf_74 (by decide) (fun hc2 => ?_) (fun hc2 => ?_)
            · replace h := mh_ifn hc2 h
              refine mw_aload_n dX6_signOf_82 0 rfl ?_
              refine mw_geti (fs := fsX6) gf_X6_93 dX6_signOf_83 rfl rfl ?_
              refine mw_bipush (v := 42) dX6_signOf_86 (by decide) ?_
              refine mw_icmp_ne (tgt := 96) dX6_signOf_88 (by decide) (fun hc1 => ?_) (fun hc1 => ?_)
              · replace h := mh_ifn hc1 h
                refine mw_iconst (v := -1) dX6_signOf_96 (by decide) ?_
                obtain rfl := Option.some.inj h
                exact mw_iret dX6_signOf_97 rfl rfl (Nat.le_of_ble_eq_true rfl) (Nat.le_refl 0) mh_ret_rfl
              · replace h := mh_ifp hc1 h
                refine mw_bipush (v := 18) dX6_signOf_91 (by decide) ?_
                refine mw_goto (tgt := 97) dX6_signOf_93 (by decide) ?_
                obtain rfl := Option.some.inj h
                exact mw_iret dX6_signOf_97 rfl rfl (Nat.le_of_ble_eq_true rfl) (Nat.le_refl 0) mh_ret_rfl
            · replace h := mh_ifp hc2 h
              refine mw_bipush (v := 17) dX6_signOf_77 (by decide) ?_
              refine mw_goto (tgt := 97) dX6_signOf_79 (by decide) ?_
              obtain rfl := Option.some.inj h
              exact mw_iret dX6_signOf_97 rfl rfl (Nat.le_of_ble_eq_true rfl) (Nat.le_refl 0) mh_ret_rfl
          · replace h := mh_ifp hc3 h
            refine mw_bipush (v := 16) dX6_signOf_63 (by decide) ?_
            refine mw_goto (tgt := 97) dX6_signOf_65 (by decide) ?_
            obtain rfl := Option.some.inj h
            exact mw_iret dX6_signOf_97 rfl rfl (Nat.le_of_ble_eq_true rfl) (Nat.le_refl 0) mh_ret_rfl
        · replace h := mh_ifp hc4 h
          refine mw_bipush (v := 15) dX6_signOf_49 (by decide) ?_
          refine mw_goto (tgt := 97) dX6_signOf_51 (by decide) ?_
          obtain rfl := Option.some.inj h
          exact mw_iret dX6_signOf_97 rfl rfl (Nat.le_of_ble_eq_true rfl) (Nat.le_refl 0) mh_ret_rfl
      · replace h := mh_ifp hc5 h
        refine mw_bipush (v := 14) dX6_signOf_35 (by decide) ?_
        refine mw_goto (tgt := 97) dX6_signOf_37 (by decide) ?_
        obtain rfl := Option.some.inj h
        exact mw_iret dX6_signOf_97 rfl rfl (Nat.le_of_ble_eq_true rfl) (Nat.le_refl 0) mh_ret_rfl
    · replace h := mh_ifp hc6 h
      refine mw_bipush (v := 12) dX6_signOf_21 (by decide) ?_
      refine mw_goto (tgt := 97) dX6_signOf_23 (by decide) ?_
      obtain rfl := Option.some.inj h
      exact mw_iret dX6_signOf_97 rfl rfl (Nat.le_of_ble_eq_true rfl) (Nat.le_refl 0) mh_ret_rfl
  · replace h := mh_ifp hc7 h
    refine mw_bipush (v := 11) dX6_signOf_8 (by decide) ?_
    refine mw_goto (tgt := 97) dX6_signOf_10 (by decide) ?_
    obtain rfl := Option.some.inj h
    exact mw_iret dX6_signOf_97 rfl rfl (Nat.le_of_ble_eq_true rfl) (Nat.le_refl 0) mh_ret_rfl
abbrev w_X6_eRead (sh : List mh_C) (Φ : mh_P) (I : mh_I) (L : mh_L) (pc : Nat) (lv : List (Nat × Value)) (st : List Value) : Prop := mh_W RX6 cX6_eRead 4 (some .boolean) false (mh_rm 3) 18 0 0 mh_noX Φ 0 sh I L pc lv st
def X6_eRead_l14 (k159 : (mh_I → Option (Int32 × mh_I))) : Nat → Int32 → Int32 → mh_I → Option (Int32 × mh_I)
  | 0, _, _, _ => none
  | n + 1, u1, u2, I => (X6_next I).bind (fun q1 => if u1 = 0 then if (q1 0 19) = (59 : Int32) then (k159 q1) else if (q1 0 19) = (41 : Int32) then (X6_unwinds (1 : Int32) q1).bind (fun q9 => if (q9 0 23) = 0 then some ((0 : Int32), q9) else (X6_unwinds (7 : Int32) (mh_u (mh_u q9 0 23 ((q9 0 23) - (1 : Int32))) 0 24 (((mh_u q9 0 23 ((q9 0 23) - (1 : Int32))) 0 24) - (1 : Int32)))).bind (fun q10 => (X6_eRead_l14 k159 n u1 u2 q10))) else (X6_signOf q1).bind (fun q2 => if q2 = (-1 : Int32) then some ((0 : Int32), q1) else (X6_between q2 q1).bind (fun q3 => if q3.1 = 0 then some ((0 : Int32), q3.2) else mh_j (fun (s4 : Int32) => (X6_eRead_l14 k159 n (1 : Int32) s4 q3.2)) (fun J5 => if (12 : Int32) < q2 then (J5 (0 : Int32)) else (J5 (1 : Int32))))) else mh_j (mh_j (fun (s28 : Int32) => (X6_puts s28 q1).bind (fun q31 => (X6_unwinds (7 : Int32) q31).bind (fun q32 => (X6_eRead_l14 k159 n (0 : Int32) u2 q32)))) (fun J29 => if (q1 0 19) = (1 : Int32) then (J29 ((100000 : Int32) + (q1 0 20))) else (J29 (q1 0 20)))) (fun J14 => if (q1 0 19) = (1 : Int32) then J14 else if (q1 0 19) = (2 : Int32) then J14 else mh_j (if (q1 0 19) = (45 : Int32) then (X6_opensOne (19 : Int32) q1).bind (fun q23 => if q23.1 = 0 then some ((0 : Int32), q23.2) else (X6_eRead_l14 k159 n u1 (0 : Int32) q23.2)) else if (q1 0 19) = (40 : Int32) then (X6_opensOne (0 : Int32) q1).bind (fun q20 => if q20.1 = 0 then some ((0 : Int32), q20.2) else (X6_eRead_l14 k159 n u1 (1 : Int32) q20.2)) else some ((0 : Int32), q1)) (fun J15 => if (q1 0 19) = (6 : Int32) then if u2 = 0 then J15 else (X6_opensOne (13 : Int32) q1).bind (fun q16 => if q16.1 = 0 then some ((0 : Int32), q16.2) else (X6_eRead_l14 k159 n u1 u2 q16.2)) else J15)))
set_option maxHeartbeats 4000000 in
set_option maxRecDepth 100000 in
theorem t_X6_eRead_l14 {k159 : (mh_I → Option (Int32 × mh_I))} {L : mh_L} {res : Int32 × mh_I} (n : Nat) (u1 : Int32) (u2 : Int32) (I : mh_I) (h : X6_eRead_l14 k159 n u1 u2 I = some res) (hk159 : ∀ (I : mh_I), k159 I = some res → w_X6_eRead SHM (mh_retz res.1 SHM res.2 L) I L 159 [(0, .ref 0)] []) : w_X6_eRead SHM (mh_retz res.1 SHM res.2 L) I L 14 [(0, .ref 0), (1, .int u1), (2, .int u2)] [] := by
  induction n generalizing u1 u2 I with
  | zero => rw [X6_eRead_l14] at h; cases h
  | succ n ih =>
    rw [X6_eRead_l14] at h
    refine mw_aload_n dX6_eRead_14 0 rfl ?_
    obtain ⟨q1, hq1, h⟩ := mh_bind h
    refine mw_vv (dc := 1) (ci := 6) (fs := fsX6) (T := TX6) (N := 30) cv_X6_125 wd_719 dX6_eRead_15 [] [.ref 0] rfl rfl rfl rfl (t_X6_next hq1) ⟨by decide, by decide⟩ (Nat.le_of_ble_eq_true rfl) ⟨rfl, rfl⟩ ?_
    refine mw_iload_n dX6_eRead_18 1 rfl ?_
    refine mw_if_eq (tgt := 150) dX6_eRead_19 (by decide) (fun hc33 => ?_) (fun hc33 => ?_)
    · replace h := mh_ifp hc33 h
      refine mw_aload_n dX6_eRead_150 0 rfl ?_
      refine mw_geti (fs := fsX6) gf_X6_93 dX6_eRead_151 rfl rfl ?_
      refine mw_bipush (v := 59) dX6_eRead_154 (by decide) ?_
      refine mw_icmp_ne (tgt := 177) dX6_eRead_156 (by decide) (fun hc13 => ?_) (fun hc13 => ?_)
      · replace h := mh_ifn hc13 h
        refine mw_aload_n dX6_eRead_177 0 rfl ?_
        refine mw_geti (fs := fsX6) gf_X6_93 dX6_eRead_178 rfl rfl ?_
        refine mw_bipush (v := 41) dX6_eRead_181 (by decide) ?_
        refine mw_icmp_ne (tgt := 229) dX6_eRead_183 (by decide) (fun hc12 => ?_) (fun hc12 => ?_)
        · replace h := mh_ifn hc12 h
          refine mw_aload_n dX6_eRead_229 0 rfl ?_
          obtain ⟨q2, hq2, h⟩ := mh_bind h
          refine mw_vr (dc := 0) (ci := 6) (fs := fsX6) (T := TX6) (N := 30) cv_X6_132 wd_754 dX6_eRead_230 [] [.ref 0] rfl rfl rfl rfl (t_X6_signOf hq2) ⟨by decide, by decide⟩ (Nat.le_of_ble_eq_true rfl) ⟨rfl, rfl⟩ ?_
          refine mw_istore_n dX6_eRead_233 (by decide) rfl ?_
          refine mw_iload_n dX6_eRead_234 0 rfl ?_
          refine mw_iconst (v := -1) dX6_eRead_235 (by decide) ?_
          refine mw_icmp_eq (tgt := 247) dX6_eRead_236 (by decide) (fun hc8 => ?_) (fun hc8 => ?_)
          · replace h := mh_ifp hc8 h
            refine mw_iconst (v := 0) dX6_eRead_247 (by decide) ?_
            obtain rfl := Option.some.inj h
            exact mw_zret dX6_eRead_248 rfl (Or.inl rfl) (Nat.le_of_ble_eq_true rfl) (Nat.le_refl 0) (mh_retz_rfl (Or.inl rfl))
          · replace h := mh_ifn hc8 h
            refine mw_aload_n dX6_eRead_239 1 rfl ?_
            refine mw_iload_n dX6_eRead_240 0 rfl ?_
            obtain ⟨q3, hq3, h⟩ := mh_bind h
            refine mw_vz (dc := 2) (ci := 6) (fs := fsX6) (T := TX6) (N := 30) cv_X6_135 wd_758 dX6_eRead_241 [.int q2] [.int q2, .ref 0] rfl rfl rfl rfl (t_X6_between hq3) ⟨by decide, by decide⟩ (Nat.le_of_ble_eq_true rfl) ⟨rfl, rfl⟩ (fun zq3 => ?_)
            refine mw_if_ne (tgt := 249) dX6_eRead_244 (by decide) (fun hc7 => ?_) (fun hc7 => ?_)
            · replace h := mh_ifn hc7 h
              refine mw_iconst (v := 1) dX6_eRead_249 (by decide) ?_
              refine mw_istore_n dX6_eRead_250 (by decide) rfl ?_
              refine mw_iload_n dX6_eRead_251 1 rfl ?_
              refine mw_bipush (v := 12) dX6_eRead_252 (by decide) ?_
              refine mh_jw (fun J5 => ∀ (s4 : Int32), J5 s4 = some res → w_X6_eRead SHM (mh_retz res.1 SHM res.2 L) q3.2 L 262 [(0, .ref 0), (1, .int (1 : Int32))] [.int s4]) h (fun s4 h => ?_) (fun J5 hJ5 h => ?_)
              · refine mw_istore_n dX6_eRead_262 (by decide) rfl ?_
                refine mw_goto (tgt := 14) dX6_eRead_263 (by decide) ?_
                refine mw_loc [1, 2, 0] rfl ?_
                exact ih _ _ _ h
              · refine mw_icmp_gt (tgt := 261) dX6_eRead_254 (by decide) (fun hc6 => ?_) (fun hc6 => ?_)
                · replace h := mh_ifp hc6 h
                  refine mw_iconst (v := 0) dX6_eRead_261 (by decide) ?_
                  refine mw_loc [2, 0] rfl ?_
                  exact hJ5 _ h
                · replace h := mh_ifn hc6 h
                  refine mw_iconst (v := 1) dX6_eRead_257 (by decide) ?_
                  refine mw_goto (tgt := 262) dX6_eRead_258 (by decide) ?_
                  refine mw_loc [2, 0] rfl ?_
                  exact hJ5 _ h
            · replace h := mh_ifp hc7 h
              refine mw_iconst (v := 0) dX6_eRead_247 (by decide) ?_
              obtain rfl := Option.some.inj h
              exact mw_zret dX6_eRead_248 rfl (Or.inl rfl) (Nat.le_of_ble_eq_true rfl) (Nat.le_refl 0) (mh_retz_rfl (Or.inl rfl))
        · replace h := mh_ifp hc12 h
          refine mw_aload_n dX6_eRead_186 0 rfl ?_
          refine mw_iconst (v := 1) dX6_eRead_187 (by decide) ?_
          obtain ⟨q9, hq9, h⟩ := mh_bind h
          refine mw_vv (dc := 1) (ci := 6) (fs := fsX6) (T := TX6) (N := 30) cv_X6_122 wd_739 dX6_eRead_188 [.int (1 : Int32)] [.int (1 : Int32), .ref 0] rfl rfl rfl rfl (t_X6_unwinds hq9) ⟨by decide, by decide⟩ (Nat.le_of_ble_eq_true rfl) ⟨rfl, rfl⟩ ?_
          refine mw_aload_n dX6_eRead_191 0 rfl ?_
          refine mw_geti (fs := fsX6) gf_X6_106 dX6_eRead_192 rfl rfl ?_
          refine mw_if_ne (tgt := 200) dX6_eRead_195 (by decide) (fun hc11 => ?_) (fun hc11 => ?_)
          · replace h := mh_ifn hc11 h
            refine mw_aload_n dX6_eRead_200 0 rfl ?_
            refine mw_dup dX6_eRead_201 rfl ?_
            refine mw_geti (fs := fsX6) gf_X6_106 dX6_eRead_202 rfl rfl ?_
            refine mw_iconst (v := 1) dX6_eRead_205 (by decide) ?_
            refine mw_isub dX6_eRead_206 ?_
            refine mw_puti (fs := fsX6) pf_X6_106 (fun h => by cases h) rfl rfl dX6_eRead_207 rfl rfl ?_
            refine mw_aload_n dX6_eRead_210 0 rfl ?_
            refine mw_dup dX6_eRead_211 rfl ?_
            refine mw_geti (fs := fsX6) gf_X6_112 dX6_eRead_212 rfl rfl ?_
            refine mw_iconst (v := 1) dX6_eRead_215 (by decide) ?_
            refine mw_isub dX6_eRead_216 ?_
            refine mw_puti (fs := fsX6) pf_X6_112 (fun h => by cases h) rfl rfl dX6_eRead_217 rfl rfl ?_
            refine mw_aload_n dX6_eRead_220 0 rfl ?_
            refine mw_bipush (v := 7) dX6_eRead_221 (by decide) ?_
            obtain ⟨q10, hq10, h⟩ := mh_bind h
            refine mw_vv (dc := 1) (ci := 6) (fs := fsX6) (T := TX6) (N := 30) cv_X6_122 wd_739 dX6_eRead_223 [.int (7 : Int32)] [.int (7 : Int32), .ref 0] rfl rfl rfl rfl (t_X6_unwinds hq10) ⟨by decide, by decide⟩ (Nat.le_of_ble_eq_true rfl) ⟨rfl, rfl⟩ ?_
            refine mw_goto (tgt := 14) dX6_eRead_226 (by decide) ?_
            refine mw_loc [0, 1, 2] rfl ?_
            exact ih _ _ _ h
          · replace h := mh_ifp hc11 h
            refine mw_iconst (v := 0) dX6_eRead_198 (by decide) ?_
            obtain rfl := Option.some.inj h
            exact mw_zret dX6_eRead_199 rfl (Or.inl rfl) (Nat.le_of_ble_eq_true rfl) (Nat.le_refl 0) (mh_retz_rfl (Or.inl rfl))
      · replace h := mh_ifp hc13 h
        refine mw_loc [0] rfl ?_
        exact hk159 _ h
    · replace h := mh_ifn hc33 h
      refine mw_aload_n dX6_eRead_22 0 rfl ?_
      refine mw_geti (fs := fsX6) gf_X6_93 dX6_eRead_23 rfl rfl ?_
      refine mw_iconst (v := 1) dX6_eRead_26 (by decide) ?_
      refine mh_jw (fun J14 => J14 = some res → w_X6_eRead SHM (mh_retz res.1 SHM res.2 L) q1 L 38 [(0, .ref 0), (2, .int u2)] []) h (fun h => ?_) (fun J14 hJ14 h => ?_)
      · refine mw_aload_n dX6_eRead_38 0 rfl ?_
        refine mw_aload_n dX6_eRead_39 0 rfl ?_
        refine mw_geti (fs := fsX6) gf_X6_93 dX6_eRead_40 rfl rfl ?_
        refine mw_iconst (v := 1) dX6_eRead_43 (by decide) ?_
        refine mh_jw (fun J29 => ∀ (s28 : Int32), J29 s28 = some res → w_X6_eRead SHM (mh_retz res.1 SHM res.2 L) q1 L 61 [(0, .ref 0), (2, .int u2)] [.int s28, .ref 0]) h (fun s28 h => ?_) (fun J29 hJ29 h => ?_)
        · obtain ⟨q31, hq31, h⟩ := mh_bind h
          refine mw_vv (dc := 0) (ci := 6) (fs := fsX6) (T := TX6) (N := 30) cv_X6_115 wd_735 dX6_eRead_61 [.int s28] [.int s28, .ref 0] rfl rfl rfl rfl (t_X6_puts hq31) ⟨by decide, by decide⟩ (Nat.le_of_ble_eq_true rfl) ⟨rfl, rfl⟩ ?_
          refine mw_aload_n dX6_eRead_64 0 rfl ?_
          refine mw_bipush (v := 7) dX6_eRead_65 (by decide) ?_
          obtain ⟨q32, hq32, h⟩ := mh_bind h
          refine mw_vv (dc := 1) (ci := 6) (fs := fsX6) (T := TX6) (N := 30) cv_X6_122 wd_739 dX6_eRead_67 [.int (7 : Int32)] [.int (7 : Int32), .ref 0] rfl rfl rfl rfl (t_X6_unwinds hq32) ⟨by decide, by decide⟩ (Nat.le_of_ble_eq_true rfl) ⟨rfl, rfl⟩ ?_
          refine mw_iconst (v := 0) dX6_eRead_70 (by decide) ?_
          refine mw_istore_n dX6_eRead_71 (by decide) rfl ?_
          refine mw_goto (tgt := 14) dX6_eRead_72 (by decide) ?_
          refine mw_loc [1, 0, 2] rfl ?_
          exact ih _ _ _ h
        · refine mw_icmp_ne (tgt := 57) dX6_eRead_44 (by decide) (fun hc30 => ?_) (fun hc30 => ?_)
          · replace h := mh_ifn hc30 h
            refine mw_aload_n dX6_eRead_57 0 rfl ?_
            refine mw_geti (fs := fsX6) gf_X6_96 dX6_eRead_58 rfl rfl ?_
            refine mw_loc [0, 1] rfl ?_
            exact hJ29 _ h
          · replace h := mh_ifp hc30 h
            refine mw_ldc dX6_eRead_47 wd_731 ?_
            refine mw_aload_n dX6_eRead_49 0 rfl ?_
            refine mw_geti (fs := fsX6) gf_X6_96 dX6_eRead_50 rfl rfl ?_
            refine mw_iadd dX6_eRead_53 ?_
            refine mw_goto (tgt := 61) dX6_eRead_54 (by decide) ?_
            refine mw_loc [0, 1] rfl ?_
            exact hJ29 _ h
      · refine mw_icmp_eq (tgt := 38) dX6_eRead_27 (by decide) (fun hc27 => ?_) (fun hc27 => ?_)
        · replace h := mh_ifp hc27 h
          refine mw_loc [0, 2] rfl ?_
          exact hJ14  h
        · replace h := mh_ifn hc27 h
          refine mw_aload_n dX6_eRead_30 0 rfl ?_
          refine mw_geti (fs := fsX6) gf_X6_93 dX6_eRead_31 rfl rfl ?_
          refine mw_iconst (v := 2) dX6_eRead_34 (by decide) ?_
          refine mw_icmp_ne (tgt := 75) dX6_eRead_35 (by decide) (fun hc26 => ?_) (fun hc26 => ?_)
          · replace h := mh_ifn hc26 h
            refine mw_aload_n dX6_eRead_75 0 rfl ?_
            refine mw_geti (fs := fsX6) gf_X6_93 dX6_eRead_76 rfl rfl ?_
            refine mw_bipush (v := 6) dX6_eRead_79 (by decide) ?_
            refine mh_jw (fun J15 => J15 = some res → w_X6_eRead SHM (mh_retz res.1 SHM res.2 L) q1 L 99 [(0, .ref 0), (1, .int u1)] []) h (fun h => ?_) (fun J15 hJ15 h => ?_)
            · refine mw_aload_n dX6_eRead_99 0 rfl ?_
              refine mw_geti (fs := fsX6) gf_X6_93 dX6_eRead_100 rfl rfl ?_
              refine mw_bipush (v := 45) dX6_eRead_103 (by decide) ?_
              refine mw_icmp_ne (tgt := 124) dX6_eRead_105 (by decide) (fun hc25 => ?_) (fun hc25 => ?_)
              · replace h := mh_ifn hc25 h
                refine mw_aload_n dX6_eRead_124 0 rfl ?_
                refine mw_geti (fs := fsX6) gf_X6_93 dX6_eRead_125 rfl rfl ?_
                refine mw_bipush (v := 40) dX6_eRead_128 (by decide) ?_
                refine mw_icmp_ne (tgt := 148) dX6_eRead_130 (by decide) (fun hc22 => ?_) (fun hc22 => ?_)
                · replace h := mh_ifn hc22 h
                  refine mw_iconst (v := 0) dX6_eRead_148 (by decide) ?_
                  obtain rfl := Option.some.inj h
                  exact mw_zret dX6_eRead_149 rfl (Or.inl rfl) (Nat.le_of_ble_eq_true rfl) (Nat.le_refl 0) (mh_retz_rfl (Or.inl rfl))
                · replace h := mh_ifp hc22 h
                  refine mw_aload_n dX6_eRead_133 0 rfl ?_
                  refine mw_iconst (v := 0) dX6_eRead_134 (by decide) ?_
                  obtain ⟨q20, hq20, h⟩ := mh_bind h
                  refine mw_vz (dc := 1) (ci := 6) (fs := fsX6) (T := TX6) (N := 30) cv_X6_129 wd_746 dX6_eRead_135 [.int (0 : Int32)] [.int (0 : Int32), .ref 0] rfl rfl rfl rfl (t_X6_opensOne hq20) ⟨by decide, by decide⟩ (Nat.le_of_ble_eq_true rfl) ⟨rfl, rfl⟩ (fun zq20 => ?_)
                  refine mw_if_ne (tgt := 143) dX6_eRead_138 (by decide) (fun hc21 => ?_) (fun hc21 => ?_)
                  · replace h := mh_ifn hc21 h
                    refine mw_iconst (v := 1) dX6_eRead_143 (by decide) ?_
                    refine mw_istore_n dX6_eRead_144 (by decide) rfl ?_
                    refine mw_goto (tgt := 14) dX6_eRead_145 (by decide) ?_
                    refine mw_loc [1, 2, 0] rfl ?_
                    exact ih _ _ _ h
                  · replace h := mh_ifp hc21 h
                    refine mw_iconst (v := 0) dX6_eRead_141 (by decide) ?_
                    obtain rfl := Option.some.inj h
                    exact mw_zret dX6_eRead_142 rfl (Or.inl rfl) (Nat.le_of_ble_eq_true rfl) (Nat.le_refl 0) (mh_retz_rfl (Or.inl rfl))
              · replace h := mh_ifp hc25 h
                refine mw_aload_n dX6_eRead_108 0 rfl ?_
                refine mw_bipush (v := 19) dX6_eRead_109 (by decide) ?_
                obtain ⟨q23, hq23, h⟩ := mh_bind h
                refine mw_vz (dc := 1) (ci := 6) (fs := fsX6) (T := TX6) (N := 30) cv_X6_129 wd_746 dX6_eRead_111 [.int (19 : Int32)] [.int (19 : Int32), .ref 0] rfl rfl rfl rfl (t_X6_opensOne hq23) ⟨by decide, by decide⟩ (Nat.le_of_ble_eq_true rfl) ⟨rfl, rfl⟩ (fun zq23 => ?_)
                refine mw_if_ne (tgt := 119) dX6_eRead_114 (by decide) (fun hc24 => ?_) (fun hc24 => ?_)
                · replace h := mh_ifn hc24 h
                  refine mw_iconst (v := 0) dX6_eRead_119 (by decide) ?_
                  refine mw_istore_n dX6_eRead_120 (by decide) rfl ?_
                  refine mw_goto (tgt := 14) dX6_eRead_121 (by decide) ?_
                  refine mw_loc [1, 2, 0] rfl ?_
                  exact ih _ _ _ h
                · replace h := mh_ifp hc24 h
                  refine mw_iconst (v := 0) dX6_eRead_117 (by decide) ?_
                  obtain rfl := Option.some.inj h
                  exact mw_zret dX6_eRead_118 rfl (Or.inl rfl) (Nat.le_of_ble_eq_true rfl) (Nat.le_refl 0) (mh_retz_rfl (Or.inl rfl))
            · refine mw_icmp_ne (tgt := 99) dX6_eRead_81 (by decide) (fun hc19 => ?_) (fun hc19 => ?_)
              · replace h := mh_ifn hc19 h
                refine mw_loc [0, 1] rfl ?_
                exact hJ15  h
              · replace h := mh_ifp hc19 h
                refine mw_iload_n dX6_eRead_84 2 rfl ?_
                refine mw_if_eq (tgt := 99) dX6_eRead_85 (by decide) (fun hc18 => ?_) (fun hc18 => ?_)
                · replace h := mh_ifp hc18 h
                  refine mw_loc [0, 1] rfl ?_
                  exact hJ15  h
                · replace h := mh_ifn hc18 h
                  refine mw_aload_n dX6_eRead_88 0 rfl ?_
                  refine mw_bipush (v := 13) dX6_eRead_89 (by decide) ?_
                  obtain ⟨q16, hq16, h⟩ := mh_bind h
                  refine mw_vz (dc := 1) (ci := 6) (fs := fsX6) (T := TX6) (N := 30) cv_X6_129 wd_746 dX6_eRead_91 [.int (13 : Int32)] [.int (13 : Int32), .ref 0] rfl rfl rfl rfl (t_X6_opensOne hq16) ⟨by decide, by decide⟩ (Nat.le_of_ble_eq_true rfl) ⟨rfl, rfl⟩ (fun zq16 => ?_)
                  refine mw_if_ne (tgt := 14) dX6_eRead_94 (by decide) (fun hc17 => ?_) (fun hc17 => ?_)
                  · replace h := mh_ifn hc17 h
                    refine mw_loc [0, 1, 2] rfl ?_
                    exact ih _ _ _ h
                  · replace h := mh_ifp hc17 h
                    refine mw_iconst (v := 0) dX6_eRead_97 (by decide) ?_
                    obtain rfl := Option.some.inj h
                    exact mw_zret dX6_eRead_98 rfl (Or.inl rfl) (Nat.le_of_ble_eq_true rfl) (Nat.le_refl 0) (mh_retz_rfl (Or.inl rfl))
          · replace h := mh_ifp hc26 h
            refine mw_loc [0, 2] rfl ?_
            exact hJ14  h
def X6_eRead (I : mh_I) : Option (Int32 × mh_I) := X6_eRead_l14 (fun (I34 : mh_I) => (X6_unwinds (1 : Int32) I34).bind (fun q35 => if (q35 0 23) = 0 then some ((1 : Int32), q35) else some ((0 : Int32), q35))) mh_fuel (1 : Int32) (1 : Int32) (mh_u (mh_u I 0 23 (0 : Int32)) 0 24 (0 : Int32))
set_option maxHeartbeats 4000000 in
set_option maxRecDepth 100000 in
theorem t_X6_eRead {L : mh_L} {I : mh_I} {res : Int32 × mh_I} (h : X6_eRead I = some res) : mh_CT yX6_eRead cX6_eRead 4 (some .boolean) (mh_rm 3) SHM I L [.ref 0] (mh_retz res.1 SHM res.2 L) := by
  refine mh_ofW (ini := false) RX6 rfl (by decide) (fun h => by cases h) (Nat.le_of_ble_eq_true rfl) ?_
  show w_X6_eRead SHM (mh_retz res.1 SHM res.2 L) I L 0 [(0, .ref 0)] []
  unfold X6_eRead at h
  refine mw_aload_n dX6_eRead_0 0 rfl ?_
  refine mw_iconst (v := 0) dX6_eRead_1 (by decide) ?_
  refine mw_puti (fs := fsX6) pf_X6_106 (fun h => by cases h) rfl rfl dX6_eRead_2 rfl rfl ?_
  refine mw_aload_n dX6_eRead_5 0 rfl ?_
  refine mw_iconst (v := 0) dX6_eRead_6 (by decide) ?_
  refine mw_puti (fs := fsX6) pf_X6_112 (fun h => by cases h) rfl rfl dX6_eRead_7 rfl rfl ?_
  refine mw_iconst (v := 1) dX6_eRead_10 (by decide) ?_
  refine mw_istore_n dX6_eRead_11 (by decide) rfl ?_
  refine mw_iconst (v := 1) dX6_eRead_12 (by decide) ?_
  refine mw_istore_n dX6_eRead_13 (by decide) rfl ?_
  refine mw_loc [2, 1, 0] rfl ?_
  refine t_X6_eRead_l14  _ _ _ _ h (fun I34 h => ?_)
  refine mw_aload_n dX6_eRead_159 0 rfl ?_
  refine mw_iconst (v := 1) dX6_eRead_160 (by decide) ?_
  obtain ⟨q35, hq35, h⟩ := mh_bind h
  refine mw_vv (dc := 1) (ci := 6) (fs := fsX6) (T := TX6) (N := 30) cv_X6_122 wd_739 dX6_eRead_161 [.int (1 : Int32)] [.int (1 : Int32), .ref 0] rfl rfl rfl rfl (t_X6_unwinds hq35) ⟨by decide, by decide⟩ (Nat.le_of_ble_eq_true rfl) ⟨rfl, rfl⟩ ?_
  refine mw_aload_n dX6_eRead_164 0 rfl ?_
  refine mw_geti (fs := fsX6) gf_X6_106 dX6_eRead_165 rfl rfl ?_
  refine mw_if_ne (tgt := 175) dX6_eRead_168 (by decide) (fun hc36 => ?_) (fun hc36 => ?_)
  · replace h := mh_ifn hc36 h
    refine mw_iconst (v := 0) dX6_eRead_175 (by decide) ?_
    obtain rfl := Option.some.inj h
    exact mw_zret dX6_eRead_176 rfl (Or.inl rfl) (Nat.le_of_ble_eq_true rfl) (Nat.le_refl 0) (mh_retz_rfl (Or.inl rfl))
  · replace h := mh_ifp hc36 h
    refine mw_iconst (v := 1) dX6_eRead_171 (by decide) ?_
    refine mw_goto (tgt := 176) dX6_eRead_172 (by decide) ?_
    obtain rfl := Option.some.inj h
    exact mw_zret dX6_eRead_176 rfl (Or.inr rfl) (Nat.le_of_ble_eq_true rfl) (Nat.le_refl 0) (mh_retz_rfl (Or.inr rfl))
abbrev w_X6_text (sh : List mh_C) (Φ : mh_P) (I : mh_I) (L : mh_L) (pc : Nat) (lv : List (Nat × Value)) (st : List Value) : Prop := mh_W RX6 cX6_text 3 (some .int) false (mh_rm 4) 18 0 0 mh_noX Φ 0 sh I L pc lv st
def X6_text_l26 (k101 : (Int32 → mh_I → Option (Int32 × mh_I))) : Nat → Int32 → Int32 → mh_I → Option (Int32 × mh_I)
  | 0, _, _, _ => none
  | n + 1, u1, u2, I => if (3 : Int32) ≤ u2 then (k101 u1 I) else if u1 = 0 then (k101 u1 I) else (X6_next I).bind (fun q1 => mh_j (fun (s2 : Int32) => mh_ix (((4 : Int32) * (q1 0 8)) + u2) 24 (fun k7 => mh_j (fun (s9 : Int32) (I10 : mh_I) => mh_b (u2 + (1 : Int32)) (fun b17 => (X6_text_l26 k101 n s9 b17 I10))) (fun J11 => mh_j (fun (I12 : mh_I) => (J11 (0 : Int32) I12)) (fun J13 => if s2 = 0 then (J13 (mh_u q1 7 k7 (q1 0 25))) else (X6_eRead (mh_u q1 7 k7 (q1 0 25))).bind (fun q14 => if q14.1 = 0 then (J13 q14.2) else (J11 (1 : Int32) q14.2)))))) (fun J3 => mh_j ((J3 (0 : Int32))) (fun J4 => if (q1 0 19) = (3 : Int32) then if (q1 0 20) = u2 then (J3 (1 : Int32)) else J4 else J4)))
set_option maxHeartbeats 4000000 in
set_option maxRecDepth 100000 in
theorem t_X6_text_l26 {k101 : (Int32 → mh_I → Option (Int32 × mh_I))} {L : mh_L} {res : Int32 × mh_I} (n : Nat) (u1 : Int32) (u2 : Int32) (I : mh_I) (h : X6_text_l26 k101 n u1 u2 I = some res) (hk101 : ∀ (u1 : Int32) (I : mh_I), k101 u1 I = some res → w_X6_text SHM (mh_ret (some (.int res.1)) SHM res.2 L) I L 101 [(0, .ref 0), (1, .int u1)] []) : w_X6_text SHM (mh_ret (some (.int res.1)) SHM res.2 L) I L 26 [(0, .ref 0), (1, .int u1), (2, .int u2)] [] := by
  induction n generalizing u1 u2 I with
  | zero => rw [X6_text_l26] at h; cases h
  | succ n ih =>
    rw [X6_text_l26] at h
    refine mw_iload_n dX6_text_26 2 rfl ?_
    refine mw_iconst (v := 3) dX6_text_27 (by decide) ?_
    refine mw_icmp_ge (tgt := 101) dX6_text_28 (by decide) (fun hc19 => ?_) (fun hc19 => ?_)
    · replace h := mh_ifp hc19 h
      refine mw_loc [0, 1] rfl ?_
      exact hk101 _ _ h
    · replace h := mh_ifn hc19 h
      refine mw_iload_n dX6_text_31 1 rfl ?_
      refine mw_if_eq (tgt := 101) dX6_text_32 (by decide) (fun hc18 => ?_) (fun hc18 => ?_)
      · replace h := mh_ifp hc18 h
        refine mw_loc [0, 1] rfl ?_
        exact hk101 _ _ h
      · replace h := mh_ifn hc18 h
        refine mw_aload_n dX6_text_35 0 rfl ?_
        obtain ⟨q1, hq1, h⟩ := mh_bind h
        refine mw_vv (dc := 1) (ci := 6) (fs := fsX6) (T := TX6) (N := 30) cv_X6_125 wd_719 dX6_text_36 [] [.ref 0] rfl rfl rfl rfl (t_X6_next hq1) ⟨by decide, by decide⟩ (Nat.le_of_ble_eq_true rfl) ⟨rfl, rfl⟩ ?_
        refine mw_aload_n dX6_text_39 0 rfl ?_
        refine mw_geti (fs := fsX6) gf_X6_93 dX6_text_40 rfl rfl ?_
        refine mw_iconst (v := 3) dX6_text_43 (by decide) ?_
        refine mh_jw (fun J3 => ∀ (s2 : Int32), J3 s2 = some res → w_X6_text SHM (mh_ret (some (.int res.1)) SHM res.2 L) q1 L 60 [(0, .ref 0), (2, .int u2)] [.int s2]) h (fun s2 h => ?_) (fun J3 hJ3 h => ?_)
        · refine mw_istore_n dX6_text_60 (by decide) rfl ?_
          refine mw_aload_n dX6_text_61 1 rfl ?_
          refine mw_getr (b := 7) (fs := fsX6) gf_X6_28 dX6_text_62 rfl rfl ?_
          refine mw_iconst (v := 4) dX6_text_65 (by decide) ?_
          refine mw_aload_n dX6_text_66 1 rfl ?_
          refine mw_geti (fs := fsX6) gf_X6_77 dX6_text_67 rfl rfl ?_
          refine mw_imul dX6_text_70 ?_
          refine mw_iload_n dX6_text_71 2 rfl ?_
          refine mw_iadd dX6_text_72 ?_
          refine mw_aload_n dX6_text_73 1 rfl ?_
          refine mw_geti (fs := fsX6) gf_X6_103 dX6_text_74 rfl rfl ?_
          obtain ⟨k7, hk8, hk8n, hk8l, h⟩ := mh_ix_some h
          refine mw_xiast dX6_text_77 rfl hk8 hk8n ?_
          refine mw_iload_n dX6_text_78 0 rfl ?_
          refine mh_jw (fun J11 => ∀ (s9 : Int32) (I10 : mh_I), J11 s9 I10 = some res → w_X6_text SHM (mh_ret (some (.int res.1)) SHM res.2 L) I10 L 94 [(0, .ref 0), (2, .int u2)] [.int s9]) h (fun s9 I10 h => ?_) (fun J11 hJ11 h => ?_)
          · refine mw_istore_n dX6_text_94 (by decide) rfl ?_
            obtain ⟨b17, eb17, h⟩ := mh_b_some h
            refine mw_iinc (v := b17) dX6_text_95 2 rfl (by rw [← eb17]; rfl) (by decide) rfl ?_
            refine mw_goto (tgt := 26) dX6_text_98 (by decide) ?_
            refine mw_loc [2, 1, 0] rfl ?_
            exact ih _ _ _ h
          · refine mh_jw (fun J13 => ∀ (I12 : mh_I), J13 I12 = some res → w_X6_text SHM (mh_ret (some (.int res.1)) SHM res.2 L) I12 L 93 [(0, .ref 0), (2, .int u2)] []) h (fun I12 h => ?_) (fun J13 hJ13 h => ?_)
            · refine mw_iconst (v := 0) dX6_text_93 (by decide) ?_
              refine mw_loc [0, 1] rfl ?_
              exact hJ11 _ _ h
            · refine mw_if_eq (tgt := 93) dX6_text_79 (by decide) (fun hc16 => ?_) (fun hc16 => ?_)
              · replace h := mh_ifp hc16 h
                refine mw_loc [1, 2] rfl ?_
                exact hJ13 _ h
              · replace h := mh_ifn hc16 h
                refine mw_aload_n dX6_text_82 1 rfl ?_
                obtain ⟨q14, hq14, h⟩ := mh_bind h
                refine mw_vz (dc := 3) (ci := 6) (fs := fsX6) (T := TX6) (N := 30) cv_X6_138 wd_730 dX6_text_83 [] [.ref 0] rfl rfl rfl rfl (t_X6_eRead hq14) ⟨by decide, by decide⟩ (Nat.le_of_ble_eq_true rfl) ⟨rfl, rfl⟩ (fun zq14 => ?_)
                refine mw_if_eq (tgt := 93) dX6_text_86 (by decide) (fun hc15 => ?_) (fun hc15 => ?_)
                · replace h := mh_ifp hc15 h
                  refine mw_loc [1, 2] rfl ?_
                  exact hJ13 _ h
                · replace h := mh_ifn hc15 h
                  refine mw_iconst (v := 1) dX6_text_89 (by decide) ?_
                  refine mw_goto (tgt := 94) dX6_text_90 (by decide) ?_
                  refine mw_loc [1, 2] rfl ?_
                  exact hJ11 _ _ h
        · refine mh_jw (fun J4 => J4 = some res → w_X6_text SHM (mh_ret (some (.int res.1)) SHM res.2 L) q1 L 59 [(0, .ref 0), (2, .int u2)] []) h (fun h => ?_) (fun J4 hJ4 h => ?_)
          · refine mw_iconst (v := 0) dX6_text_59 (by decide) ?_
            refine mw_loc [0, 1] rfl ?_
            exact hJ3 _ h
          · refine mw_icmp_ne (tgt := 59) dX6_text_44 (by decide) (fun hc6 => ?_) (fun hc6 => ?_)
            · replace h := mh_ifn hc6 h
              refine mw_loc [0, 2] rfl ?_
              exact hJ4  h
            · replace h := mh_ifp hc6 h
              refine mw_aload_n dX6_text_47 0 rfl ?_
              refine mw_geti (fs := fsX6) gf_X6_96 dX6_text_48 rfl rfl ?_
              refine mw_iload_n dX6_text_51 2 rfl ?_
              refine mw_icmp_ne (tgt := 59) dX6_text_52 (by decide) (fun hc5 => ?_) (fun hc5 => ?_)
              · replace h := mh_ifn hc5 h
                refine mw_loc [0, 2] rfl ?_
                exact hJ4  h
              · replace h := mh_ifp hc5 h
                refine mw_iconst (v := 1) dX6_text_55 (by decide) ?_
                refine mw_goto (tgt := 60) dX6_text_56 (by decide) ?_
                refine mw_loc [0, 2] rfl ?_
                exact hJ3 _ h
def X6_text (I : mh_I) : Option (Int32 × mh_I) := if (I 0 8) = (6 : Int32) then some ((-4 : Int32), I) else X6_text_l26 (fun (v20 : Int32) (I21 : mh_I) => mh_j (fun (v22 : Int32) (I23 : mh_I) => mh_ix (((4 : Int32) * (I23 0 8)) + (3 : Int32)) 24 (fun k30 => if v22 = 0 then some (((-100 : Int32) - ((mh_u (mh_u I23 7 k30 (I23 0 25)) 0 5 (0 : Int32)) 0 18)), (mh_u (mh_u I23 7 k30 (I23 0 25)) 0 5 (0 : Int32))) else some ((((mh_u (mh_u (mh_u I23 7 k30 (I23 0 25)) 0 5 (0 : Int32)) 0 8 (((mh_u (mh_u I23 7 k30 (I23 0 25)) 0 5 (0 : Int32)) 0 8) + (1 : Int32))) 0 8) - (1 : Int32)), (mh_u (mh_u (mh_u I23 7 k30 (I23 0 25)) 0 5 (0 : Int32)) 0 8 (((mh_u (mh_u I23 7 k30 (I23 0 25)) 0 5 (0 : Int32)) 0 8) + (1 : Int32)))))) (fun J24 => if v20 = 0 then (J24 v20 I21) else (X6_next I21).bind (fun q25 => mh_j (fun (s26 : Int32) => (J24 s26 q25)) (fun J27 => if (q25 0 19) = 0 then (J27 (1 : Int32)) else (J27 (0 : Int32)))))) mh_fuel (1 : Int32) (0 : Int32) (mh_u (mh_u I 0 17 (0 : Int32)) 0 25 (0 : Int32))
set_option maxHeartbeats 4000000 in
set_option maxRecDepth 100000 in
theorem t_X6_text {L : mh_L} {I : mh_I} {res : Int32 × mh_I} (h : X6_text I = some res) : mh_CT yX6_text cX6_text 3 (some .int) (mh_rm 4) SHM I L [.ref 0] (mh_ret (some (.int res.1)) SHM res.2 L) := by
  refine mh_ofW (ini := false) RX6 rfl (by decide) (fun h => by cases h) (Nat.le_of_ble_eq_true rfl) ?_
  show w_X6_text SHM (mh_ret (some (.int res.1)) SHM res.2 L) I L 0 [(0, .ref 0)] []
  unfold X6_text at h
  refine mw_aload_n dX6_text_0 0 rfl ?_
  refine mw_geti (fs := fsX6) gf_X6_77 dX6_text_1 rfl rfl ?_
  refine mw_bipush (v := 6) dX6_text_4 (by decide) ?_
  refine mw_icmp_ne (tgt := 12) dX6_text_6 (by decide) (fun hc33 => ?_) (fun hc33 => ?_)
  · replace h := mh_ifn hc33 h
    refine mw_aload_n dX6_text_12 0 rfl ?_
    refine mw_iconst (v := 0) dX6_text_13 (by decide) ?_
    refine mw_puti (fs := fsX6) pf_X6_87 (fun h => by cases h) rfl rfl dX6_text_14 rfl rfl ?_
    refine mw_aload_n dX6_text_17 0 rfl ?_
    refine mw_iconst (v := 0) dX6_text_18 (by decide) ?_
    refine mw_puti (fs := fsX6) pf_X6_103 (fun h => by cases h) rfl rfl dX6_text_19 rfl rfl ?_
    refine mw_iconst (v := 1) dX6_text_22 (by decide) ?_
    refine mw_istore_n dX6_text_23 (by decide) rfl ?_
    refine mw_iconst (v := 0) dX6_text_24 (by decide) ?_
    refine mw_istore_n dX6_text_25 (by decide) rfl ?_
    refine mw_loc [2, 1, 0] rfl ?_
    refine t_X6_text_l26  _ _ _ _ h (fun v20 I21 h => ?_)
    refine mw_iload_n dX6_text_101 1 rfl ?_
    refine mh_jw (fun J24 => ∀ (v22 : Int32) (I23 : mh_I), J24 v22 I23 = some res → w_X6_text SHM (mh_ret (some (.int res.1)) SHM res.2 L) I23 L 122 [(0, .ref 0), (1, .int v22)] []) h (fun v22 I23 h => ?_) (fun J24 hJ24 h => ?_)
    · refine mw_aload_n dX6_text_122 0 rfl ?_
      refine mw_getr (b := 7) (fs := fsX6) gf_X6_28 dX6_text_123 rfl rfl ?_
      refine mw_iconst (v := 4) dX6_text_126 (by decide) ?_
      refine mw_aload_n dX6_text_127 0 rfl ?_
      refine mw_geti (fs := fsX6) gf_X6_77 dX6_text_128 rfl rfl ?_
      refine mw_imul dX6_text_131 ?_
      refine mw_iconst (v := 3) dX6_text_132 (by decide) ?_
      refine mw_iadd dX6_text_133 ?_
      refine mw_aload_n dX6_text_134 0 rfl ?_
      refine mw_geti (fs := fsX6) gf_X6_103 dX6_text_135 rfl rfl ?_
      obtain ⟨k30, hk31, hk31n, hk31l, h⟩ := mh_ix_some h
      refine mw_xiast dX6_text_138 rfl hk31 hk31n ?_
      refine mw_aload_n dX6_text_139 0 rfl ?_
      refine mw_iconst (v := 0) dX6_text_140 (by decide) ?_
      refine mw_puti (fs := fsX6) pf_X6_61 (fun h => by cases h) rfl rfl dX6_text_141 rfl rfl ?_
      refine mw_iload_n dX6_text_144 1 rfl ?_
      refine mw_if_ne (tgt := 156) dX6_text_145 (by decide) (fun hc32 => ?_) (fun hc32 => ?_)
      · replace h := mh_ifn hc32 h
        refine mw_aload_n dX6_text_156 0 rfl ?_
        refine mw_dup dX6_text_157 rfl ?_
        refine mw_geti (fs := fsX6) gf_X6_77 dX6_text_158 rfl rfl ?_
        refine mw_iconst (v := 1) dX6_text_161 (by decide) ?_
        refine mw_iadd dX6_text_162 ?_
        refine mw_puti (fs := fsX6) pf_X6_77 (fun h => by cases h) rfl rfl dX6_text_163 rfl rfl ?_
        refine mw_aload_n dX6_text_166 0 rfl ?_
        refine mw_geti (fs := fsX6) gf_X6_77 dX6_text_167 rfl rfl ?_
        refine mw_iconst (v := 1) dX6_text_170 (by decide) ?_
        refine mw_isub dX6_text_171 ?_
        obtain rfl := Option.some.inj h
        exact mw_iret dX6_text_172 rfl rfl (Nat.le_of_ble_eq_true rfl) (Nat.le_refl 0) mh_ret_rfl
      · replace h := mh_ifp hc32 h
        refine mw_bipush (v := -100) dX6_text_148 (by decide) ?_
        refine mw_aload_n dX6_text_150 0 rfl ?_
        refine mw_geti (fs := fsX6) gf_X6_90 dX6_text_151 rfl rfl ?_
        refine mw_isub dX6_text_154 ?_
        obtain rfl := Option.some.inj h
        exact mw_iret dX6_text_155 rfl rfl (Nat.le_of_ble_eq_true rfl) (Nat.le_refl 0) mh_ret_rfl
    · refine mw_if_eq (tgt := 122) dX6_text_102 (by decide) (fun hc29 => ?_) (fun hc29 => ?_)
      · replace h := mh_ifp hc29 h
        refine mw_loc [0, 1] rfl ?_
        exact hJ24 _ _ h
      · replace h := mh_ifn hc29 h
        refine mw_aload_n dX6_text_105 0 rfl ?_
        obtain ⟨q25, hq25, h⟩ := mh_bind h
        refine mw_vv (dc := 1) (ci := 6) (fs := fsX6) (T := TX6) (N := 30) cv_X6_125 wd_719 dX6_text_106 [] [.ref 0] rfl rfl rfl rfl (t_X6_next hq25) ⟨by decide, by decide⟩ (Nat.le_of_ble_eq_true rfl) ⟨rfl, rfl⟩ ?_
        refine mw_aload_n dX6_text_109 0 rfl ?_
        refine mw_geti (fs := fsX6) gf_X6_93 dX6_text_110 rfl rfl ?_
        refine mh_jw (fun J27 => ∀ (s26 : Int32), J27 s26 = some res → w_X6_text SHM (mh_ret (some (.int res.1)) SHM res.2 L) q25 L 121 [(0, .ref 0)] [.int s26]) h (fun s26 h => ?_) (fun J27 hJ27 h => ?_)
        · refine mw_istore_n dX6_text_121 (by decide) rfl ?_
          refine mw_loc [1, 0] rfl ?_
          exact hJ24 _ _ h
        · refine mw_if_ne (tgt := 120) dX6_text_113 (by decide) (fun hc28 => ?_) (fun hc28 => ?_)
          · replace h := mh_ifn hc28 h
            refine mw_iconst (v := 0) dX6_text_120 (by decide) ?_
            refine mw_loc [0] rfl ?_
            exact hJ27 _ h
          · replace h := mh_ifp hc28 h
            refine mw_iconst (v := 1) dX6_text_116 (by decide) ?_
            refine mw_goto (tgt := 121) dX6_text_117 (by decide) ?_
            refine mw_loc [0] rfl ?_
            exact hJ27 _ h
  · replace h := mh_ifp hc33 h
    refine mw_bipush (v := -4) dX6_text_9 (by decide) ?_
    obtain rfl := Option.some.inj h
    exact mw_iret dX6_text_11 rfl rfl (Nat.le_of_ble_eq_true rfl) (Nat.le_refl 0) mh_ret_rfl
abbrev w_X6_two (sh : List mh_C) (Φ : mh_P) (I : mh_I) (L : mh_L) (pc : Nat) (lv : List (Nat × Value)) (st : List Value) : Prop := mh_W RX6 cX6_two 3 (some .int) false (mh_rm 0) 18 0 0 mh_noX Φ 0 sh I L pc lv st
def X6_two (p0 : Int32) (p1 : Int32) (p2 : Int32) : Option (Int32) := if p0 = 11 then if p1 = 0 then if p2 = 0 then some (0 : Int32) else some (1 : Int32) else some (1 : Int32) else if p0 = 12 then if p1 = 0 then some (0 : Int32) else if p2 = 0 then some (0 : Int32) else some (1 : Int32) else if p0 = 13 then some (p1 * p2) else if p0 = 14 then if p2 ≤ p1 then some (0 : Int32) else some (1 : Int32) else if p0 = 15 then if p1 = p2 then some (1 : Int32) else some (0 : Int32) else if p0 = 16 then some (p1 + p2) else if p0 = 17 then some (p1 - p2) else some (p1 * p2)
set_option maxHeartbeats 4000000 in
set_option maxRecDepth 100000 in
theorem t_X6_two {L : mh_L} {I : mh_I} {p0 : Int32} {p1 : Int32} {p2 : Int32} {res : Int32} (h : X6_two p0 p1 p2 = some res) : mh_CT yX6_two cX6_two 3 (some .int) (mh_rm 0) SHM I L [.int p0, .int p1, .int p2] (mh_ret (some (.int res)) SHM I L) := by
  refine mh_ofW (ini := false) RX6 rfl (by decide) (fun h => by cases h) (Nat.le_of_ble_eq_true rfl) ?_
  show w_X6_two SHM (mh_ret (some (.int res)) SHM I L) I L 0 [(0, .int p0), (1, .int p1), (2, .int p2)] []
  unfold X6_two at h
  refine mw_iload_n dX6_two_0 0 rfl ?_
  by_cases hc1 : p0 = 11
  · replace h := mh_ifp hc1 h
    refine mw_tableIn (off := 43) (tgt := 44) dX6_two_1 (by rw [hc1]; decide) (by rw [hc1]; decide) (by rw [hc1]; rfl) (by decide) ?_
    refine mw_iload_n dX6_two_44 1 rfl ?_
    refine mw_if_ne (tgt := 52) dX6_two_45 (by decide) (fun hc3 => ?_) (fun hc3 => ?_)
    · replace h := mh_ifn hc3 h
      refine mw_iconst (v := 1) dX6_two_52 (by decide) ?_
      refine mw_goto (tgt := 57) dX6_two_53 (by decide) ?_
      obtain rfl := Option.some.inj h
      exact mw_iret dX6_two_57 rfl rfl (Nat.le_of_ble_eq_true rfl) (Nat.le_refl 0) mh_ret_rfl
    · replace h := mh_ifp hc3 h
      refine mw_iload_n dX6_two_48 2 rfl ?_
      refine mw_if_eq (tgt := 56) dX6_two_49 (by decide) (fun hc2 => ?_) (fun hc2 => ?_)
      · replace h := mh_ifp hc2 h
        refine mw_iconst (v := 0) dX6_two_56 (by decide) ?_
        obtain rfl := Option.some.inj h
        exact mw_iret dX6_two_57 rfl rfl (Nat.le_of_ble_eq_true rfl) (Nat.le_refl 0) mh_ret_rfl
      · replace h := mh_ifn hc2 h
        refine mw_iconst (v := 1) dX6_two_52 (by decide) ?_
        refine mw_goto (tgt := 57) dX6_two_53 (by decide) ?_
        obtain rfl := Option.some.inj h
        exact mw_iret dX6_two_57 rfl rfl (Nat.le_of_ble_eq_true rfl) (Nat.le_refl 0) mh_ret_rfl
  · replace h := mh_ifn hc1 h
    by_cases hc4 : p0 = 12
    · replace h := mh_ifp hc4 h
      refine mw_tableIn (off := 57) (tgt := 58) dX6_two_1 (by rw [hc4]; decide) (by rw [hc4]; decide) (by rw [hc4]; rfl) (by decide) ?_
      refine mw_iload_n dX6_two_58 1 rfl ?_
      refine mw_if_eq (tgt := 70) dX6_two_59 (by decide) (fun hc6 => ?_) (fun hc6 => ?_)
      · replace h := mh_ifp hc6 h
        refine mw_iconst (v := 0) dX6_two_70 (by decide) ?_
        obtain rfl := Option.some.inj h
        exact mw_iret dX6_two_71 rfl rfl (Nat.le_of_ble_eq_true rfl) (Nat.le_refl 0) mh_ret_rfl
      · replace h := mh_ifn hc6 h
        refine mw_iload_n dX6_two_62 2 rfl ?_
        refine mw_if_eq (tgt := 70) dX6_two_63 (by decide) (fun hc5 => ?_) (fun hc5 => ?_)
        · replace h := mh_ifp hc5 h
          refine mw_iconst (v := 0) dX6_two_70 (by decide) ?_
          obtain rfl := Option.some.inj h
          exact mw_iret dX6_two_71 rfl rfl (Nat.le_of_ble_eq_true rfl) (Nat.le_refl 0) mh_ret_rfl
        · replace h := mh_ifn hc5 h
          refine mw_iconst (v := 1) dX6_two_66 (by decide) ?_
          refine mw_goto (tgt := 71) dX6_two_67 (by decide) ?_
          obtain rfl := Option.some.inj h
          exact mw_iret dX6_two_71 rfl rfl (Nat.le_of_ble_eq_true rfl) (Nat.le_refl 0) mh_ret_rfl
    · replace h := mh_ifn hc4 h
      by_cases hc7 : p0 = 13
      · replace h := mh_ifp hc7 h
        refine mw_tableIn (off := 101) (tgt := 102) dX6_two_1 (by rw [hc7]; decide) (by rw [hc7]; decide) (by rw [hc7]; rfl) (by decide) ?_
        refine mw_iload_n dX6_two_102 1 rfl ?_
        refine mw_iload_n dX6_two_103 2 rfl ?_
        refine mw_imul dX6_two_104 ?_
        obtain rfl := Option.some.inj h
        exact mw_iret dX6_two_105 rfl rfl (Nat.le_of_ble_eq_true rfl) (Nat.le_refl 0) mh_ret_rfl
      · replace h := mh_ifn hc7 h
        by_cases hc8 : p0 = 14
        · replace h := mh_ifp hc8 h
          refine mw_tableIn (off := 71) (tgt := 72) dX6_two_1 (by rw [hc8]; decide) (by rw [hc8]; decide) (by rw [hc8]; rfl) (by decide) ?_
          refine mw_iload_n dX6_two_72 1 rfl ?_
          refine mw_iload_n dX6_two_73 2 rfl ?_
          refine mw_icmp_ge (tgt := 81) dX6_two_74 (by decide) (fun hc9 => ?_) (fun hc9 => ?_)
          · replace h := mh_ifp hc9 h
            refine mw_iconst (v := 0) dX6_two_81 (by decide) ?_
            obtain rfl := Option.some.inj h
            exact mw_iret dX6_two_82 rfl rfl (Nat.le_of_ble_eq_true rfl) (Nat.le_refl 0) mh_ret_rfl
          · replace h := mh_ifn hc9 h
            refine mw_iconst (v := 1) dX6_two_77 (by decide) ?_
            refine mw_goto (tgt := 82) dX6_two_78 (by decide) ?_
            obtain rfl := Option.some.inj h
            exact mw_iret dX6_two_82 rfl rfl (Nat.le_of_ble_eq_true rfl) (Nat.le_refl 0) mh_ret_rfl
        · replace h := mh_ifn hc8 h
          by_cases hc10 : p0 = 15
          · replace h := mh_ifp hc10 h
            refine mw_tableIn (off := 82) (tgt := 83) dX6_two_1 (by rw [hc10]; decide) (by rw [hc10]; decide) (by rw [hc10]; rfl) (by decide) ?_
            refine mw_iload_n dX6_two_83 1 rfl ?_
            refine mw_iload_n dX6_two_84 2 rfl ?_
            refine mw_icmp_ne (tgt := 92) dX6_two_85 (by decide) (fun hc11 => ?_) (fun hc11 => ?_)
            · replace h := mh_ifn hc11 h
              refine mw_iconst (v := 0) dX6_two_92 (by decide) ?_
              obtain rfl := Option.some.inj h
              exact mw_iret dX6_two_93 rfl rfl (Nat.le_of_ble_eq_true rfl) (Nat.le_refl 0) mh_ret_rfl
            · replace h := mh_ifp hc11 h
              refine mw_iconst (v := 1) dX6_two_88 (by decide) ?_
              refine mw_goto (tgt := 93) dX6_two_89 (by decide) ?_
              obtain rfl := Option.some.inj h
              exact mw_iret dX6_two_93 rfl rfl (Nat.le_of_ble_eq_true rfl) (Nat.le_refl 0) mh_ret_rfl
          · replace h := mh_ifn hc10 h
            by_cases hc12 : p0 = 16
            · replace h := mh_ifp hc12 h
              refine mw_tableIn (off := 93) (tgt := 94) dX6_two_1 (by rw [hc12]; decide) (by rw [hc12]; decide) (by rw [hc12]; rfl) (by decide) ?_
              refine mw_iload_n dX6_two_94 1 rfl ?_
              refine mw_iload_n dX6_two_95 2 rfl ?_
              refine mw_iadd dX6_two_96 ?_
              obtain rfl := Option.some.inj h
              exact mw_iret dX6_two_97 rfl rfl (Nat.le_of_ble_eq_true rfl) (Nat.le_refl 0) mh_ret_rfl
            · replace h := mh_ifn hc12 h
              by_cases hc13 : p0 = 17
              · replace h := mh_ifp hc13 h
                refine mw_tableIn (off := 97) (tgt := 98) dX6_two_1 (by rw [hc13]; decide) (by rw [hc13]; decide) (by rw [hc13]; rfl) (by decide) ?_
                refine mw_iload_n dX6_two_98 1 rfl ?_
                refine mw_iload_n dX6_two_99 2 rfl ?_
                refine mw_isub dX6_two_100 ?_
                obtain rfl := Option.some.inj h
                exact mw_iret dX6_two_101 rfl rfl (Nat.le_of_ble_eq_true rfl) (Nat.le_refl 0) mh_ret_rfl
              · replace h := mh_ifn hc13 h
                refine mw_tableOut (tgt := 102) dX6_two_1 (by have e0 := mh_ne (n := 11) hc1 (by decide); have e1 := mh_ne (n := 12) hc4 (by decide); have e2 := mh_ne (n := 13) hc7 (by decide); have e3 := mh_ne (n := 14) hc8 (by decide); have e4 := mh_ne (n := 15) hc10 (by decide); have e5 := mh_ne (n := 16) hc12 (by decide); have e6 := mh_ne (n := 17) hc13 (by decide); omega) (by decide) ?_
                refine mw_iload_n dX6_two_102 1 rfl ?_
                refine mw_iload_n dX6_two_103 2 rfl ?_
                refine mw_imul dX6_two_104 ?_
                obtain rfl := Option.some.inj h
                exact mw_iret dX6_two_105 rfl rfl (Nat.le_of_ble_eq_true rfl) (Nat.le_refl 0) mh_ret_rfl
abbrev w_X6_worth (sh : List mh_C) (Φ : mh_P) (I : mh_I) (L : mh_L) (pc : Nat) (lv : List (Nat × Value)) (st : List Value) : Prop := mh_W RX6 cX6_worth 5 (some .int) false (mh_rm 1) 18 0 0 mh_noX Φ 0 sh I L pc lv st
def X6_worth_l16 (u1 : Int32) (k197 : (mh_I → Option (Int32 × mh_I))) : Nat → Int32 → Int32 → mh_I → Option (Int32 × mh_I)
  | 0, _, _, _ => none
  | n + 1, u2, u3, I => mh_ix ((((4 : Int32) * (I 0 9)) + u1) + (1 : Int32)) 24 (fun k4 => if (I 7 k4) ≤ u3 then (k197 I) else mh_ix (((200 : Int32) * (I 0 9)) + u3) 1200 (fun k6 => mh_b (I 6 k6) (fun b8 => mh_j (fun (v9 : Int32) (I10 : mh_I) => mh_b (u3 + (1 : Int32)) (fun b44 => (X6_worth_l16 u1 k197 n v9 b44 I10))) (fun J11 => mh_j (mh_j (fun (s36 : Int32) => mh_ix u2 200 (fun k41 => mh_b (u2 + (1 : Int32)) (fun b43 => (J11 b43 (mh_u I 15 k41 s36))))) (fun J37 => if (11 : Int32) ≤ b8 then (J37 (b8 - (100000 : Int32))) else mh_ix b8 6 (fun k38 => (J37 (I 16 k38))))) (fun J12 => if (100000 : Int32) ≤ b8 then J12 else if (11 : Int32) ≤ b8 then if b8 = (13 : Int32) then mh_ix (u2 - (1 : Int32)) 200 (fun k26 => mh_j (fun (s28 : Int32) => mh_ix (u2 - (1 : Int32)) 200 (fun k31 => (J11 u2 (mh_u I 15 k31 s28)))) (fun J29 => if (I 15 k26) = 0 then (J29 (1 : Int32)) else (J29 (0 : Int32)))) else if b8 = (19 : Int32) then mh_ix (u2 - (1 : Int32)) 200 (fun k21 => mh_ix (u2 - (1 : Int32)) 200 (fun k23 => (J11 u2 (mh_u I 15 k23 (-(I 15 k21)))))) else mh_b (u2 + (-1 : Int32)) (fun b13 => mh_ix (b13 - (1 : Int32)) 200 (fun k14 => mh_ix b13 200 (fun k16 => (X6_two b8 (I 15 k14) (I 15 k16)).bind (fun q18 => mh_ix (b13 - (1 : Int32)) 200 (fun k19 => (J11 b13 (mh_u I 15 k19 q18))))))) else J12)))))
set_option maxHeartbeats 4000000 in
set_option maxRecDepth 100000 in
theorem t_X6_worth_l16 {u1 : Int32} {k197 : (mh_I → Option (Int32 × mh_I))} {L : mh_L} {res : Int32 × mh_I} (n : Nat) (u2 : Int32) (u3 : Int32) (I : mh_I) (h : X6_worth_l16 u1 k197 n u2 u3 I = some res) (hk197 : ∀ (I : mh_I), k197 I = some res → w_X6_worth SHM (mh_ret (some (.int res.1)) SHM res.2 L) I L 197 [(0, .ref 0)] []) : w_X6_worth SHM (mh_ret (some (.int res.1)) SHM res.2 L) I L 16 [(0, .ref 0), (1, .int u1), (2, .int u2), (3, .int u3)] [] := by
  induction n generalizing u2 u3 I with
  | zero => rw [X6_worth_l16] at h; cases h
  | succ n ih =>
    rw [X6_worth_l16] at h
    refine mw_iload_n dX6_worth_16 3 rfl ?_
    refine mw_aload_n dX6_worth_17 0 rfl ?_
    refine mw_getr (b := 7) (fs := fsX6) gf_X6_28 dX6_worth_18 rfl rfl ?_
    refine mw_iconst (v := 4) dX6_worth_21 (by decide) ?_
    refine mw_aload_n dX6_worth_22 0 rfl ?_
    refine mw_geti (fs := fsX6) gf_X6_80 dX6_worth_23 rfl rfl ?_
    refine mw_imul dX6_worth_26 ?_
    refine mw_iload_n dX6_worth_27 1 rfl ?_
    refine mw_iadd dX6_worth_28 ?_
    refine mw_iconst (v := 1) dX6_worth_29 (by decide) ?_
    refine mw_iadd dX6_worth_30 ?_
    obtain ⟨k4, hk5, hk5n, hk5l, h⟩ := mh_ix_some h
    refine mw_xiald dX6_worth_31 rfl hk5 hk5n ?_
    refine mw_icmp_ge (tgt := 197) dX6_worth_32 (by decide) (fun hc45 => ?_) (fun hc45 => ?_)
    · replace h := mh_ifp hc45 h
      refine mw_loc [0] rfl ?_
      exact hk197 _ h
    · replace h := mh_ifn hc45 h
      refine mw_aload_n dX6_worth_35 0 rfl ?_
      refine mw_getr (b := 6) (fs := fsX6) gf_X6_25 dX6_worth_36 rfl rfl ?_
      refine mw_sipush (v := 200) dX6_worth_39 (by decide) ?_
      refine mw_aload_n dX6_worth_42 0 rfl ?_
      refine mw_geti (fs := fsX6) gf_X6_80 dX6_worth_43 rfl rfl ?_
      refine mw_imul dX6_worth_46 ?_
      refine mw_iload_n dX6_worth_47 3 rfl ?_
      refine mw_iadd dX6_worth_48 ?_
      obtain ⟨k6, hk7, hk7n, hk7l, h⟩ := mh_ix_some h
      refine mw_xiald dX6_worth_49 rfl hk7 hk7n ?_
      obtain ⟨b8, eb8, h⟩ := mh_b_some h
      refine mw_nmi eb8 ?_
      refine mw_istore dX6_worth_50 (by decide) rfl ?_
      refine mw_iload dX6_worth_52 0 rfl ?_
      refine mw_ldc dX6_worth_54 wd_731 ?_
      refine mh_jw (fun J11 => ∀ (v9 : Int32) (I10 : mh_I), J11 v9 I10 = some res → w_X6_worth SHM (mh_ret (some (.int res.1)) SHM res.2 L) I10 L 191 [(0, .ref 0), (1, .int u1), (2, .int v9), (3, .int u3)] []) h (fun v9 I10 h => ?_) (fun J11 hJ11 h => ?_)
      · obtain ⟨b44, eb44, h⟩ := mh_b_some h
        refine mw_iinc (v := b44) dX6_worth_191 3 rfl (by rw [← eb44]; rfl) (by decide) rfl ?_
        refine mw_goto (tgt := 16) dX6_worth_194 (by decide) ?_
        refine mw_loc [1, 2, 3, 0] rfl ?_
        exact ih _ _ _ h
      · refine mh_jw (fun J12 => J12 = some res → w_X6_worth SHM (mh_ret (some (.int res.1)) SHM res.2 L) I L 66 [(0, .ref 0), (1, .int u1), (2, .int u2), (3, .int u3), (4, .int b8)] []) h (fun h => ?_) (fun J12 hJ12 h => ?_)
        · refine mw_aload_n dX6_worth_66 0 rfl ?_
          refine mw_getr (b := 15) (fs := fsX6) gf_X6_52 dX6_worth_67 rfl rfl ?_
          refine mw_iload_n dX6_worth_70 2 rfl ?_
          refine mw_iload dX6_worth_71 4 rfl ?_
          refine mw_bipush (v := 11) dX6_worth_73 (by decide) ?_
          refine mh_jw (fun J37 => ∀ (s36 : Int32), J37 s36 = some res → w_X6_worth SHM (mh_ret (some (.int res.1)) SHM res.2 L) I L 93 [(0, .ref 0), (1, .int u1), (2, .int u2), (3, .int u3)] [.int s36, .int u2, .ref 15]) h (fun s36 h => ?_) (fun J37 hJ37 h => ?_)
          · obtain ⟨k41, hk42, hk42n, hk42l, h⟩ := mh_ix_some h
            refine mw_xiast dX6_worth_93 rfl hk42 hk42n ?_
            obtain ⟨b43, eb43, h⟩ := mh_b_some h
            refine mw_iinc (v := b43) dX6_worth_94 2 rfl (by rw [← eb43]; rfl) (by decide) rfl ?_
            refine mw_goto (tgt := 191) dX6_worth_97 (by decide) ?_
            refine mw_loc [1, 2, 0, 3] rfl ?_
            exact hJ11 _ _ h
          · refine mw_icmp_ge (tgt := 88) dX6_worth_75 (by decide) (fun hc40 => ?_) (fun hc40 => ?_)
            · replace h := mh_ifp hc40 h
              refine mw_iload dX6_worth_88 4 rfl ?_
              refine mw_ldc dX6_worth_90 wd_731 ?_
              refine mw_isub dX6_worth_92 ?_
              refine mw_loc [0, 1, 2, 3] rfl ?_
              exact hJ37 _ h
            · replace h := mh_ifn hc40 h
              refine mw_aload_n dX6_worth_78 0 rfl ?_
              refine mw_getr (b := 16) (fs := fsX6) gf_X6_55 dX6_worth_79 rfl rfl ?_
              refine mw_iload dX6_worth_82 4 rfl ?_
              obtain ⟨k38, hk39, hk39n, hk39l, h⟩ := mh_ix_some h
              refine mw_xiald dX6_worth_84 rfl hk39 hk39n ?_
              refine mw_goto (tgt := 93) dX6_worth_85 (by decide) ?_
              refine mw_loc [0, 1, 2, 3] rfl ?_
              exact hJ37 _ h
        · refine mw_icmp_ge (tgt := 66) dX6_worth_56 (by decide) (fun hc35 => ?_) (fun hc35 => ?_)
          · replace h := mh_ifp hc35 h
            refine mw_loc [1, 2, 3, 4, 0] rfl ?_
            exact hJ12  h
          · replace h := mh_ifn hc35 h
            refine mw_iload dX6_worth_59 0 rfl ?_
            refine mw_bipush (v := 11) dX6_worth_61 (by decide) ?_
            refine mw_icmp_ge (tgt := 100) dX6_worth_63 (by decide) (fun hc34 => ?_) (fun hc34 => ?_)
            · replace h := mh_ifp hc34 h
              refine mw_iload dX6_worth_100 0 rfl ?_
              refine mw_bipush (v := 13) dX6_worth_102 (by decide) ?_
              refine mw_icmp_ne (tgt := 134) dX6_worth_104 (by decide) (fun hc33 => ?_) (fun hc33 => ?_)
              · replace h := mh_ifn hc33 h
                refine mw_iload dX6_worth_134 0 rfl ?_
                refine mw_bipush (v := 19) dX6_worth_136 (by decide) ?_
                refine mw_icmp_ne (tgt := 161) dX6_worth_138 (by decide) (fun hc25 => ?_) (fun hc25 => ?_)
                · replace h := mh_ifn hc25 h
                  obtain ⟨b13, eb13, h⟩ := mh_b_some h
                  refine mw_iinc (v := b13) dX6_worth_161 3 rfl (by rw [← eb13]; rfl) (by decide) rfl ?_
                  refine mw_aload_n dX6_worth_164 2 rfl ?_
                  refine mw_getr (b := 15) (fs := fsX6) gf_X6_52 dX6_worth_165 rfl rfl ?_
                  refine mw_iload_n dX6_worth_168 0 rfl ?_
                  refine mw_iconst (v := 1) dX6_worth_169 (by decide) ?_
                  refine mw_isub dX6_worth_170 ?_
                  refine mw_iload dX6_worth_171 1 rfl ?_
                  refine mw_aload_n dX6_worth_173 2 rfl ?_
                  refine mw_getr (b := 15) (fs := fsX6) gf_X6_52 dX6_worth_174 rfl rfl ?_
                  refine mw_iload_n dX6_worth_177 0 rfl ?_
                  refine mw_iconst (v := 1) dX6_worth_178 (by decide) ?_
                  refine mw_isub dX6_worth_179 ?_
                  obtain ⟨k14, hk15, hk15n, hk15l, h⟩ := mh_ix_some h
                  refine mw_xiald dX6_worth_180 rfl hk15 hk15n ?_
                  refine mw_aload_n dX6_worth_181 2 rfl ?_
                  refine mw_getr (b := 15) (fs := fsX6) gf_X6_52 dX6_worth_182 rfl rfl ?_
                  refine mw_iload_n dX6_worth_185 0 rfl ?_
                  obtain ⟨k16, hk17, hk17n, hk17l, h⟩ := mh_ix_some h
                  refine mw_xiald dX6_worth_186 rfl hk17 hk17n ?_
                  obtain ⟨q18, hq18, h⟩ := mh_bind h
                  refine mw_sr (dc := 0) cs_X6_142 wd_893 dX6_worth_187 [.int b8, .int (I 15 k14), .int (I 15 k16)] [.int (I 15 k16), .int (I 15 k14), .int b8, .int (b13 - (1 : Int32)), .ref 15] rfl rfl (t_X6_two hq18) ⟨by decide, by decide⟩ (Nat.le_of_ble_eq_true rfl) ⟨rfl, rfl⟩ ?_
                  obtain ⟨k19, hk20, hk20n, hk20l, h⟩ := mh_ix_some h
                  refine mw_xiast dX6_worth_190 rfl hk20 hk20n ?_
                  refine mw_loc [2, 3, 0, 4] rfl ?_
                  exact hJ11 _ _ h
                · replace h := mh_ifp hc25 h
                  refine mw_aload_n dX6_worth_141 1 rfl ?_
                  refine mw_getr (b := 15) (fs := fsX6) gf_X6_52 dX6_worth_142 rfl rfl ?_
                  refine mw_iload_n dX6_worth_145 3 rfl ?_
                  refine mw_iconst (v := 1) dX6_worth_146 (by decide) ?_
                  refine mw_isub dX6_worth_147 ?_
                  refine mw_aload_n dX6_worth_148 1 rfl ?_
                  refine mw_getr (b := 15) (fs := fsX6) gf_X6_52 dX6_worth_149 rfl rfl ?_
                  refine mw_iload_n dX6_worth_152 3 rfl ?_
                  refine mw_iconst (v := 1) dX6_worth_153 (by decide) ?_
                  refine mw_isub dX6_worth_154 ?_
                  obtain ⟨k21, hk22, hk22n, hk22l, h⟩ := mh_ix_some h
                  refine mw_xiald dX6_worth_155 rfl hk22 hk22n ?_
                  refine mw_ineg dX6_worth_156 ?_
                  obtain ⟨k23, hk24, hk24n, hk24l, h⟩ := mh_ix_some h
                  refine mw_xiast dX6_worth_157 rfl hk24 hk24n ?_
                  refine mw_goto (tgt := 191) dX6_worth_158 (by decide) ?_
                  refine mw_loc [1, 2, 3, 4] rfl ?_
                  exact hJ11 _ _ h
              · replace h := mh_ifp hc33 h
                refine mw_aload_n dX6_worth_107 1 rfl ?_
                refine mw_getr (b := 15) (fs := fsX6) gf_X6_52 dX6_worth_108 rfl rfl ?_
                refine mw_iload_n dX6_worth_111 3 rfl ?_
                refine mw_iconst (v := 1) dX6_worth_112 (by decide) ?_
                refine mw_isub dX6_worth_113 ?_
                refine mw_aload_n dX6_worth_114 1 rfl ?_
                refine mw_getr (b := 15) (fs := fsX6) gf_X6_52 dX6_worth_115 rfl rfl ?_
                refine mw_iload_n dX6_worth_118 3 rfl ?_
                refine mw_iconst (v := 1) dX6_worth_119 (by decide) ?_
                refine mw_isub dX6_worth_120 ?_
                obtain ⟨k26, hk27, hk27n, hk27l, h⟩ := mh_ix_some h
                refine mw_xiald dX6_worth_121 rfl hk27 hk27n ?_
                refine mh_jw (fun J29 => ∀ (s28 : Int32), J29 s28 = some res → w_X6_worth SHM (mh_ret (some (.int res.1)) SHM res.2 L) I L 130 [(0, .ref 0), (1, .int u1), (2, .int u2), (3, .int u3)] [.int s28, .int (u2 - (1 : Int32)), .ref 15]) h (fun s28 h => ?_) (fun J29 hJ29 h => ?_)
                · obtain ⟨k31, hk32, hk32n, hk32l, h⟩ := mh_ix_some h
                  refine mw_xiast dX6_worth_130 rfl hk32 hk32n ?_
                  refine mw_goto (tgt := 191) dX6_worth_131 (by decide) ?_
                  refine mw_loc [0, 1, 2, 3] rfl ?_
                  exact hJ11 _ _ h
                · refine mw_if_ne (tgt := 129) dX6_worth_122 (by decide) (fun hc30 => ?_) (fun hc30 => ?_)
                  · replace h := mh_ifn hc30 h
                    refine mw_iconst (v := 0) dX6_worth_129 (by decide) ?_
                    refine mw_loc [1, 2, 3, 4] rfl ?_
                    exact hJ29 _ h
                  · replace h := mh_ifp hc30 h
                    refine mw_iconst (v := 1) dX6_worth_125 (by decide) ?_
                    refine mw_goto (tgt := 130) dX6_worth_126 (by decide) ?_
                    refine mw_loc [1, 2, 3, 4] rfl ?_
                    exact hJ29 _ h
            · replace h := mh_ifn hc34 h
              refine mw_loc [1, 2, 3, 4, 0] rfl ?_
              exact hJ12  h
def X6_worth (p1 : Int32) (I : mh_I) : Option (Int32 × mh_I) := mh_ix (((4 : Int32) * (I 0 9)) + p1) 24 (fun k1 => mh_b (I 7 k1) (fun b3 => X6_worth_l16 p1 (fun (I46 : mh_I) => some ((I46 15 0), I46)) mh_fuel (0 : Int32) b3 I))
set_option maxHeartbeats 4000000 in
set_option maxRecDepth 100000 in
theorem t_X6_worth {L : mh_L} {I : mh_I} {p1 : Int32} {res : Int32 × mh_I} (h : X6_worth p1 I = some res) : mh_CT yX6_worth cX6_worth 5 (some .int) (mh_rm 1) SHM I L [.ref 0, .int p1] (mh_ret (some (.int res.1)) SHM res.2 L) := by
  refine mh_ofW (ini := false) RX6 rfl (by decide) (fun h => by cases h) (Nat.le_of_ble_eq_true rfl) ?_
  show w_X6_worth SHM (mh_ret (some (.int res.1)) SHM res.2 L) I L 0 [(0, .ref 0), (1, .int p1)] []
  unfold X6_worth at h
  refine mw_iconst (v := 0) dX6_worth_0 (by decide) ?_
  refine mw_istore_n dX6_worth_1 (by decide) rfl ?_
  refine mw_aload_n dX6_worth_2 1 rfl ?_
  refine mw_getr (b := 7) (fs := fsX6) gf_X6_28 dX6_worth_3 rfl rfl ?_
  refine mw_iconst (v := 4) dX6_worth_6 (by decide) ?_
  refine mw_aload_n dX6_worth_7 1 rfl ?_
  refine mw_geti (fs := fsX6) gf_X6_80 dX6_worth_8 rfl rfl ?_
  refine mw_imul dX6_worth_11 ?_
  refine mw_iload_n dX6_worth_12 2 rfl ?_
  refine mw_iadd dX6_worth_13 ?_
  obtain ⟨k1, hk2, hk2n, hk2l, h⟩ := mh_ix_some h
  refine mw_xiald dX6_worth_14 rfl hk2 hk2n ?_
  obtain ⟨b3, eb3, h⟩ := mh_b_some h
  refine mw_nmi eb3 ?_
  refine mw_istore_n dX6_worth_15 (by decide) rfl ?_
  refine mw_loc [2, 3, 1, 0] rfl ?_
  refine t_X6_worth_l16  _ _ _ _ h (fun I46 h => ?_)
  refine mw_aload_n dX6_worth_197 0 rfl ?_
  refine mw_getr (b := 15) (fs := fsX6) gf_X6_52 dX6_worth_198 rfl rfl ?_
  refine mw_iconst (v := 0) dX6_worth_201 (by decide) ?_
  refine mw_xiald (kx := 0) dX6_worth_202 rfl (by decide) (by decide) ?_
  obtain rfl := Option.some.inj h
  exact mw_iret dX6_worth_203 rfl rfl (Nat.le_of_ble_eq_true rfl) (Nat.le_refl 0) mh_ret_rfl
abbrev w_X6_force (sh : List mh_C) (Φ : mh_P) (I : mh_I) (L : mh_L) (pc : Nat) (lv : List (Nat × Value)) (st : List Value) : Prop := mh_W RX6 cX6_force 3 (some .int) false (mh_rm 1) 18 0 0 mh_noX Φ 0 sh I L pc lv st
def X6_force (p1 : Int32) (I : mh_I) : Option (Int32 × mh_I) := (X6_in p1 (0 : Int32) ((I 0 8) - (1 : Int32))).bind (fun q1 => if q1 = 0 then some ((-2 : Int32), I) else mh_b (I 0 9) (fun b2 => some (b2, (mh_u I 0 9 p1))))
set_option maxHeartbeats 4000000 in
set_option maxRecDepth 100000 in
theorem t_X6_force {L : mh_L} {I : mh_I} {p1 : Int32} {res : Int32 × mh_I} (h : X6_force p1 I = some res) : mh_CT yX6_force cX6_force 3 (some .int) (mh_rm 1) SHM I L [.ref 0, .int p1] (mh_ret (some (.int res.1)) SHM res.2 L) := by
  refine mh_ofW (ini := false) RX6 rfl (by decide) (fun h => by cases h) (Nat.le_of_ble_eq_true rfl) ?_
  show w_X6_force SHM (mh_ret (some (.int res.1)) SHM res.2 L) I L 0 [(0, .ref 0), (1, .int p1)] []
  unfold X6_force at h
  refine mw_iload_n dX6_force_0 1 rfl ?_
  refine mw_iconst (v := 0) dX6_force_1 (by decide) ?_
  refine mw_aload_n dX6_force_2 0 rfl ?_
  refine mw_geti (fs := fsX6) gf_X6_77 dX6_force_3 rfl rfl ?_
  refine mw_iconst (v := 1) dX6_force_6 (by decide) ?_
  refine mw_isub dX6_force_7 ?_
  obtain ⟨q1, hq1, h⟩ := mh_bind h
  refine mw_sz (dc := 0) cs_X6_69 wd_722 dX6_force_8 [.int p1, .int (0 : Int32), .int ((I 0 8) - (1 : Int32))] [.int ((I 0 8) - (1 : Int32)), .int (0 : Int32), .int p1] rfl rfl (t_X6_in hq1) ⟨by decide, by decide⟩ (Nat.le_of_ble_eq_true rfl) ⟨rfl, rfl⟩ (fun zq1 => ?_)
  refine mw_if_ne (tgt := 17) dX6_force_11 (by decide) (fun hc3 => ?_) (fun hc3 => ?_)
  · replace h := mh_ifn hc3 h
    refine mw_aload_n dX6_force_17 0 rfl ?_
    refine mw_geti (fs := fsX6) gf_X6_80 dX6_force_18 rfl rfl ?_
    obtain ⟨b2, eb2, h⟩ := mh_b_some h
    refine mw_nmi eb2 ?_
    refine mw_istore_n dX6_force_21 (by decide) rfl ?_
    refine mw_aload_n dX6_force_22 1 rfl ?_
    refine mw_iload_n dX6_force_23 2 rfl ?_
    refine mw_puti (fs := fsX6) pf_X6_80 (fun h => by cases h) rfl rfl dX6_force_24 rfl rfl ?_
    refine mw_iload_n dX6_force_27 0 rfl ?_
    obtain rfl := Option.some.inj h
    exact mw_iret dX6_force_28 rfl rfl (Nat.le_of_ble_eq_true rfl) (Nat.le_refl 0) mh_ret_rfl
  · replace h := mh_ifp hc3 h
    refine mw_bipush (v := -2) dX6_force_14 (by decide) ?_
    obtain rfl := Option.some.inj h
    exact mw_iret dX6_force_16 rfl rfl (Nat.le_of_ble_eq_true rfl) (Nat.le_refl 0) mh_ret_rfl
abbrev w_X6_faceOf (sh : List mh_C) (Φ : mh_P) (I : mh_I) (L : mh_L) (pc : Nat) (lv : List (Nat × Value)) (st : List Value) : Prop := mh_W RX6 cX6_faceOf 1 (some .int) false (mh_rm 0) 18 0 0 mh_noX Φ 0 sh I L pc lv st
def X6_faceOf (p0 : Int32) : Option (Int32) := if p0 = (1 : Int32) then some (1 : Int32) else some (0 : Int32)
set_option maxHeartbeats 4000000 in
set_option maxRecDepth 100000 in
theorem t_X6_faceOf {L : mh_L} {I : mh_I} {p0 : Int32} {res : Int32} (h : X6_faceOf p0 = some res) : mh_CT yX6_faceOf cX6_faceOf 1 (some .int) (mh_rm 0) SHM I L [.int p0] (mh_ret (some (.int res)) SHM I L) := by
  refine mh_ofW (ini := false) RX6 rfl (by decide) (fun h => by cases h) (Nat.le_of_ble_eq_true rfl) ?_
  show w_X6_faceOf SHM (mh_ret (some (.int res)) SHM I L) I L 0 [(0, .int p0)] []
  unfold X6_faceOf at h
  refine mw_iload_n dX6_faceOf_0 0 rfl ?_
  refine mw_iconst (v := 1) dX6_faceOf_1 (by decide) ?_
  refine mw_icmp_ne (tgt := 9) dX6_faceOf_2 (by decide) (fun hc1 => ?_) (fun hc1 => ?_)
  · replace h := mh_ifn hc1 h
    refine mw_iconst (v := 0) dX6_faceOf_9 (by decide) ?_
    obtain rfl := Option.some.inj h
    exact mw_iret dX6_faceOf_10 rfl rfl (Nat.le_of_ble_eq_true rfl) (Nat.le_refl 0) mh_ret_rfl
  · replace h := mh_ifp hc1 h
    refine mw_iconst (v := 1) dX6_faceOf_5 (by decide) ?_
    refine mw_goto (tgt := 10) dX6_faceOf_6 (by decide) ?_
    obtain rfl := Option.some.inj h
    exact mw_iret dX6_faceOf_10 rfl rfl (Nat.le_of_ble_eq_true rfl) (Nat.le_refl 0) mh_ret_rfl
abbrev w_X6_asksOf (sh : List mh_C) (Φ : mh_P) (I : mh_I) (L : mh_L) (pc : Nat) (lv : List (Nat × Value)) (st : List Value) : Prop := mh_W RX6 cX6_asksOf 4 (some .int) false (mh_rm 2) 18 0 0 mh_noX Φ 0 sh I L pc lv st
def X6_asksOf (p1 : Int32) (p2 : Int32) (p3 : Int32) (I : mh_I) : Option (Int32 × mh_I) := mh_ix p2 48 (fun k1 => mh_ix p2 48 (fun k3 => (X6_faceOf ((mh_u (mh_u (mh_u (mh_u I 16 0 (p2 / (6 : Int32))) 16 1 (mh_rem p2 (6 : Int32))) 16 2 ((mh_u (mh_u I 16 0 (p2 / (6 : Int32))) 16 1 (mh_rem p2 (6 : Int32))) 2 k1)) 16 3 p3) 1 k3)).bind (fun q5 => mh_ix p2 48 (fun k6 => (X6_worth p1 (mh_u (mh_u (mh_u (mh_u (mh_u (mh_u I 16 0 (p2 / (6 : Int32))) 16 1 (mh_rem p2 (6 : Int32))) 16 2 ((mh_u (mh_u I 16 0 (p2 / (6 : Int32))) 16 1 (mh_rem p2 (6 : Int32))) 2 k1)) 16 3 p3) 16 4 q5) 16 5 ((mh_u (mh_u (mh_u (mh_u (mh_u I 16 0 (p2 / (6 : Int32))) 16 1 (mh_rem p2 (6 : Int32))) 16 2 ((mh_u (mh_u I 16 0 (p2 / (6 : Int32))) 16 1 (mh_rem p2 (6 : Int32))) 2 k1)) 16 3 p3) 16 4 q5) 4 k6))).bind (fun q8 => (X6_within q8.1 (0 : Int32) (99 : Int32)).bind (fun q9 => some (q9, q8.2)))))))
set_option maxHeartbeats 4000000 in
set_option maxRecDepth 100000 in
theorem t_X6_asksOf {L : mh_L} {I : mh_I} {p1 : Int32} {p2 : Int32} {p3 : Int32} {res : Int32 × mh_I} (h : X6_asksOf p1 p2 p3 I = some res) : mh_CT yX6_asksOf cX6_asksOf 4 (some .int) (mh_rm 2) SHM I L [.ref 0, .int p1, .int p2, .int p3] (mh_ret (some (.int res.1)) SHM res.2 L) := by
  refine mh_ofW (ini := false) RX6 rfl (by decide) (fun h => by cases h) (Nat.le_of_ble_eq_true rfl) ?_
  show w_X6_asksOf SHM (mh_ret (some (.int res.1)) SHM res.2 L) I L 0 [(0, .ref 0), (1, .int p1), (2, .int p2), (3, .int p3)] []
  unfold X6_asksOf at h
  refine mw_aload_n dX6_asksOf_0 0 rfl ?_
  refine mw_getr (b := 16) (fs := fsX6) gf_X6_55 dX6_asksOf_1 rfl rfl ?_
  refine mw_iconst (v := 0) dX6_asksOf_4 (by decide) ?_
  refine mw_iload_n dX6_asksOf_5 2 rfl ?_
  refine mw_bipush (v := 6) dX6_asksOf_6 (by decide) ?_
  refine mw_idiv dX6_asksOf_8 (by decide) ?_
  refine mw_xiast (kx := 0) dX6_asksOf_9 rfl (by decide) (by decide) ?_
  refine mw_aload_n dX6_asksOf_10 0 rfl ?_
  refine mw_getr (b := 16) (fs := fsX6) gf_X6_55 dX6_asksOf_11 rfl rfl ?_
  refine mw_iconst (v := 1) dX6_asksOf_14 (by decide) ?_
  refine mw_iload_n dX6_asksOf_15 2 rfl ?_
  refine mw_bipush (v := 6) dX6_asksOf_16 (by decide) ?_
  refine mw_irem dX6_asksOf_18 (by decide) ?_
  refine mw_xiast (kx := 1) dX6_asksOf_19 rfl (by decide) (by decide) ?_
  refine mw_aload_n dX6_asksOf_20 0 rfl ?_
  refine mw_getr (b := 16) (fs := fsX6) gf_X6_55 dX6_asksOf_21 rfl rfl ?_
  refine mw_iconst (v := 2) dX6_asksOf_24 (by decide) ?_
  refine mw_aload_n dX6_asksOf_25 0 rfl ?_
  refine mw_getr (b := 2) (fs := fsX6) gf_X6_13 dX6_asksOf_26 rfl rfl ?_
  refine mw_iload_n dX6_asksOf_29 2 rfl ?_
  obtain ⟨k1, hk2, hk2n, hk2l, h⟩ := mh_ix_some h
  refine mw_xiald dX6_asksOf_30 rfl hk2 hk2n ?_
  refine mw_xiast (kx := 2) dX6_asksOf_31 rfl (by decide) (by decide) ?_
  refine mw_aload_n dX6_asksOf_32 0 rfl ?_
  refine mw_getr (b := 16) (fs := fsX6) gf_X6_55 dX6_asksOf_33 rfl rfl ?_
  refine mw_iconst (v := 3) dX6_asksOf_36 (by decide) ?_
  refine mw_iload_n dX6_asksOf_37 3 rfl ?_
  refine mw_xiast (kx := 3) dX6_asksOf_38 rfl (by decide) (by decide) ?_
  refine mw_aload_n dX6_asksOf_39 0 rfl ?_
  refine mw_getr (b := 16) (fs := fsX6) gf_X6_55 dX6_asksOf_40 rfl rfl ?_
  refine mw_iconst (v := 4) dX6_asksOf_43 (by decide) ?_
  refine mw_aload_n dX6_asksOf_44 0 rfl ?_
  refine mw_getr (b := 1) (fs := fsX6) gf_X6_7 dX6_asksOf_45 rfl rfl ?_
  refine mw_iload_n dX6_asksOf_48 2 rfl ?_
  obtain ⟨k3, hk4, hk4n, hk4l, h⟩ := mh_ix_some h
  refine mw_xiald dX6_asksOf_49 rfl hk4 hk4n ?_
  obtain ⟨q5, hq5, h⟩ := mh_bind h
  refine mw_sr (dc := 0) cs_X6_146 wd_886 dX6_asksOf_50 [.int ((mh_u (mh_u (mh_u (mh_u I 16 0 (p2 / (6 : Int32))) 16 1 (mh_rem p2 (6 : Int32))) 16 2 ((mh_u (mh_u I 16 0 (p2 / (6 : Int32))) 16 1 (mh_rem p2 (6 : Int32))) 2 k1)) 16 3 p3) 1 k3)] [.int ((mh_u (mh_u (mh_u (mh_u I 16 0 (p2 / (6 : Int32))) 16 1 (mh_rem p2 (6 : Int32))) 16 2 ((mh_u (mh_u I 16 0 (p2 / (6 : Int32))) 16 1 (mh_rem p2 (6 : Int32))) 2 k1)) 16 3 p3) 1 k3), .int (4 : Int32), .ref 16] rfl rfl (t_X6_faceOf hq5) ⟨by decide, by decide⟩ (Nat.le_of_ble_eq_true rfl) ⟨rfl, rfl⟩ ?_
  refine mw_xiast (kx := 4) dX6_asksOf_53 rfl (by decide) (by decide) ?_
  refine mw_aload_n dX6_asksOf_54 0 rfl ?_
  refine mw_getr (b := 16) (fs := fsX6) gf_X6_55 dX6_asksOf_55 rfl rfl ?_
  refine mw_iconst (v := 5) dX6_asksOf_58 (by decide) ?_
  refine mw_aload_n dX6_asksOf_59 0 rfl ?_
  refine mw_getr (b := 4) (fs := fsX6) gf_X6_19 dX6_asksOf_60 rfl rfl ?_
  refine mw_iload_n dX6_asksOf_63 2 rfl ?_
  obtain ⟨k6, hk7, hk7n, hk7l, h⟩ := mh_ix_some h
  refine mw_xiald dX6_asksOf_64 rfl hk7 hk7n ?_
  refine mw_xiast (kx := 5) dX6_asksOf_65 rfl (by decide) (by decide) ?_
  refine mw_aload_n dX6_asksOf_66 0 rfl ?_
  refine mw_iload_n dX6_asksOf_67 1 rfl ?_
  obtain ⟨q8, hq8, h⟩ := mh_bind h
  refine mw_vr (dc := 1) (ci := 6) (fs := fsX6) (T := TX6) (N := 30) cv_X6_149 wd_890 dX6_asksOf_68 [.int p1] [.int p1, .ref 0] rfl rfl rfl rfl (t_X6_worth hq8) ⟨by decide, by decide⟩ (Nat.le_of_ble_eq_true rfl) ⟨rfl, rfl⟩ ?_
  refine mw_iconst (v := 0) dX6_asksOf_71 (by decide) ?_
  refine mw_bipush (v := 99) dX6_asksOf_72 (by decide) ?_
  obtain ⟨q9, hq9, h⟩ := mh_bind h
  refine mw_sr (dc := 0) cs_X6_152 wd_896 dX6_asksOf_74 [.int q8.1, .int (0 : Int32), .int (99 : Int32)] [.int (99 : Int32), .int (0 : Int32), .int q8.1] rfl rfl (t_X6_within hq9) ⟨by decide, by decide⟩ (Nat.le_of_ble_eq_true rfl) ⟨rfl, rfl⟩ ?_
  obtain rfl := Option.some.inj h
  exact mw_iret dX6_asksOf_77 rfl rfl (Nat.le_of_ble_eq_true rfl) (Nat.le_refl 0) mh_ret_rfl
abbrev w_X6_asks (sh : List mh_C) (Φ : mh_P) (I : mh_I) (L : mh_L) (pc : Nat) (lv : List (Nat × Value)) (st : List Value) : Prop := mh_W RX6 cX6_asks 4 (some .int) false (mh_rm 3) 18 0 0 mh_noX Φ 0 sh I L pc lv st
def X6_asks (p1 : Int32) (p2 : Int32) (p3 : Int32) (I : mh_I) : Option (Int32 × mh_I) := (X6_isLoop p2).bind (fun q1 => if q1 = 0 then some ((-5 : Int32), I) else (X6_in p1 (0 : Int32) (2 : Int32)).bind (fun q2 => if q2 = 0 then some ((-7 : Int32), I) else (X6_isPull p3).bind (fun q3 => if q3 = 0 then some ((-7 : Int32), I) else (X6_asksOf p1 p2 p3 I).bind (fun q4 => some (q4.1, q4.2)))))
set_option maxHeartbeats 4000000 in
set_option maxRecDepth 100000 in
theorem t_X6_asks {L : mh_L} {I : mh_I} {p1 : Int32} {p2 : Int32} {p3 : Int32} {res : Int32 × mh_I} (h : X6_asks p1 p2 p3 I = some res) : mh_CT yX6_asks cX6_asks 4 (some .int) (mh_rm 3) SHM I L [.ref 0, .int p1, .int p2, .int p3] (mh_ret (some (.int res.1)) SHM res.2 L) := by
  refine mh_ofW (ini := false) RX6 rfl (by decide) (fun h => by cases h) (Nat.le_of_ble_eq_true rfl) ?_
  show w_X6_asks SHM (mh_ret (some (.int res.1)) SHM res.2 L) I L 0 [(0, .ref 0), (1, .int p1), (2, .int p2), (3, .int p3)] []
  unfold X6_asks at h
  refine mw_iload_n dX6_asks_0 2 rfl ?_
  obtain ⟨q1, hq1, h⟩ := mh_bind h
  refine mw_sz (dc := 1) cs_X6_155 wd_876 dX6_asks_1 [.int p2] [.int p2] rfl rfl (t_X6_isLoop hq1) ⟨by decide, by decide⟩ (Nat.le_of_ble_eq_true rfl) ⟨rfl, rfl⟩ (fun zq1 => ?_)
  refine mw_if_ne (tgt := 10) dX6_asks_4 (by decide) (fun hc7 => ?_) (fun hc7 => ?_)
  · replace h := mh_ifn hc7 h
    refine mw_iload_n dX6_asks_10 1 rfl ?_
    refine mw_iconst (v := 0) dX6_asks_11 (by decide) ?_
    refine mw_iconst (v := 2) dX6_asks_12 (by decide) ?_
    obtain ⟨q2, hq2, h⟩ := mh_bind h
    refine mw_sz (dc := 0) cs_X6_69 wd_722 dX6_asks_13 [.int p1, .int (0 : Int32), .int (2 : Int32)] [.int (2 : Int32), .int (0 : Int32), .int p1] rfl rfl (t_X6_in hq2) ⟨by decide, by decide⟩ (Nat.le_of_ble_eq_true rfl) ⟨rfl, rfl⟩ (fun zq2 => ?_)
    refine mw_if_eq (tgt := 36) dX6_asks_16 (by decide) (fun hc6 => ?_) (fun hc6 => ?_)
    · replace h := mh_ifp hc6 h
      refine mw_bipush (v := -7) dX6_asks_36 (by decide) ?_
      obtain rfl := Option.some.inj h
      exact mw_iret dX6_asks_38 rfl rfl (Nat.le_of_ble_eq_true rfl) (Nat.le_refl 0) mh_ret_rfl
    · replace h := mh_ifn hc6 h
      refine mw_iload_n dX6_asks_19 3 rfl ?_
      obtain ⟨q3, hq3, h⟩ := mh_bind h
      refine mw_sz (dc := 1) cs_X6_158 wd_879 dX6_asks_20 [.int p3] [.int p3] rfl rfl (t_X6_isPull hq3) ⟨by decide, by decide⟩ (Nat.le_of_ble_eq_true rfl) ⟨rfl, rfl⟩ (fun zq3 => ?_)
      refine mw_if_eq (tgt := 36) dX6_asks_23 (by decide) (fun hc5 => ?_) (fun hc5 => ?_)
      · replace h := mh_ifp hc5 h
        refine mw_bipush (v := -7) dX6_asks_36 (by decide) ?_
        obtain rfl := Option.some.inj h
        exact mw_iret dX6_asks_38 rfl rfl (Nat.le_of_ble_eq_true rfl) (Nat.le_refl 0) mh_ret_rfl
      · replace h := mh_ifn hc5 h
        refine mw_aload_n dX6_asks_26 0 rfl ?_
        refine mw_iload_n dX6_asks_27 1 rfl ?_
        refine mw_iload_n dX6_asks_28 2 rfl ?_
        refine mw_iload_n dX6_asks_29 3 rfl ?_
        obtain ⟨q4, hq4, h⟩ := mh_bind h
        refine mw_vr (dc := 2) (ci := 6) (fs := fsX6) (T := TX6) (N := 30) cv_X6_161 wd_883 dX6_asks_30 [.int p1, .int p2, .int p3] [.int p3, .int p2, .int p1, .ref 0] rfl rfl rfl rfl (t_X6_asksOf hq4) ⟨by decide, by decide⟩ (Nat.le_of_ble_eq_true rfl) ⟨rfl, rfl⟩ ?_
        refine mw_goto (tgt := 38) dX6_asks_33 (by decide) ?_
        obtain rfl := Option.some.inj h
        exact mw_iret dX6_asks_38 rfl rfl (Nat.le_of_ble_eq_true rfl) (Nat.le_refl 0) mh_ret_rfl
  · replace h := mh_ifp hc7 h
    refine mw_bipush (v := -5) dX6_asks_7 (by decide) ?_
    obtain rfl := Option.some.inj h
    exact mw_iret dX6_asks_9 rfl rfl (Nat.le_of_ble_eq_true rfl) (Nat.le_refl 0) mh_ret_rfl
abbrev w_X6_rubs (sh : List mh_C) (Φ : mh_P) (I : mh_I) (L : mh_L) (pc : Nat) (lv : List (Nat × Value)) (st : List Value) : Prop := mh_W RX6 cX6_rubs 5 (some .int) false (mh_rm 3) 18 0 0 mh_noX Φ 0 sh I L pc lv st
def X6_rubs (p1 : Int32) (p2 : Int32) (I : mh_I) : Option (Int32 × mh_I) := (X6_asksOf (0 : Int32) p1 p2 I).bind (fun q1 => mh_b q1.1 (fun b2 => mh_ix p1 48 (fun k3 => mh_b (q1.2 1 k3) (fun b5 => mh_j (fun (s6 : Int32) => (X6_within s6 (0 : Int32) (999 : Int32)).bind (fun q14 => some (q14, q1.2))) (fun J7 => mh_j (mh_ix p1 48 (fun k12 => (J7 (b2 + (q1.2 2 k12))))) (fun J8 => if b5 = (1 : Int32) then J8 else if b5 = (5 : Int32) then J8 else if b5 = (3 : Int32) then (J7 ((2 : Int32) * b2)) else (J7 b2)))))))
set_option maxHeartbeats 4000000 in
set_option maxRecDepth 100000 in
theorem t_X6_rubs {L : mh_L} {I : mh_I} {p1 : Int32} {p2 : Int32} {res : Int32 × mh_I} (h : X6_rubs p1 p2 I = some res) : mh_CT yX6_rubs cX6_rubs 5 (some .int) (mh_rm 3) SHM I L [.ref 0, .int p1, .int p2] (mh_ret (some (.int res.1)) SHM res.2 L) := by
  refine mh_ofW (ini := false) RX6 rfl (by decide) (fun h => by cases h) (Nat.le_of_ble_eq_true rfl) ?_
  show w_X6_rubs SHM (mh_ret (some (.int res.1)) SHM res.2 L) I L 0 [(0, .ref 0), (1, .int p1), (2, .int p2)] []
  unfold X6_rubs at h
  refine mw_aload_n dX6_rubs_0 0 rfl ?_
  refine mw_iconst (v := 0) dX6_rubs_1 (by decide) ?_
  refine mw_iload_n dX6_rubs_2 1 rfl ?_
  refine mw_iload_n dX6_rubs_3 2 rfl ?_
  obtain ⟨q1, hq1, h⟩ := mh_bind h
  refine mw_vr (dc := 2) (ci := 6) (fs := fsX6) (T := TX6) (N := 30) cv_X6_161 wd_883 dX6_rubs_4 [.int (0 : Int32), .int p1, .int p2] [.int p2, .int p1, .int (0 : Int32), .ref 0] rfl rfl rfl rfl (t_X6_asksOf hq1) ⟨by decide, by decide⟩ (Nat.le_of_ble_eq_true rfl) ⟨rfl, rfl⟩ ?_
  obtain ⟨b2, eb2, h⟩ := mh_b_some h
  refine mw_nmi eb2 ?_
  refine mw_istore_n dX6_rubs_7 (by decide) rfl ?_
  refine mw_aload_n dX6_rubs_8 1 rfl ?_
  refine mw_getr (b := 1) (fs := fsX6) gf_X6_7 dX6_rubs_9 rfl rfl ?_
  refine mw_iload_n dX6_rubs_12 2 rfl ?_
  obtain ⟨k3, hk4, hk4n, hk4l, h⟩ := mh_ix_some h
  refine mw_xiald dX6_rubs_13 rfl hk4 hk4n ?_
  obtain ⟨b5, eb5, h⟩ := mh_b_some h
  refine mw_nmi eb5 ?_
  refine mw_istore dX6_rubs_14 (by decide) rfl ?_
  refine mw_iload dX6_rubs_16 0 rfl ?_
  refine mw_iconst (v := 1) dX6_rubs_18 (by decide) ?_
  refine mh_jw (fun J7 => ∀ (s6 : Int32), J7 s6 = some res → w_X6_rubs SHM (mh_ret (some (.int res.1)) SHM res.2 L) q1.2 L 52 [] [.int s6]) h (fun s6 h => ?_) (fun J7 hJ7 h => ?_)
  · refine mw_iconst (v := 0) dX6_rubs_52 (by decide) ?_
    refine mw_sipush (v := 999) dX6_rubs_53 (by decide) ?_
    obtain ⟨q14, hq14, h⟩ := mh_bind h
    refine mw_sr (dc := 0) cs_X6_152 wd_896 dX6_rubs_56 [.int s6, .int (0 : Int32), .int (999 : Int32)] [.int (999 : Int32), .int (0 : Int32), .int s6] rfl rfl (t_X6_within hq14) ⟨by decide, by decide⟩ (Nat.le_of_ble_eq_true rfl) ⟨rfl, rfl⟩ ?_
    obtain rfl := Option.some.inj h
    exact mw_iret dX6_rubs_59 rfl rfl (Nat.le_of_ble_eq_true rfl) (Nat.le_refl 0) mh_ret_rfl
  · refine mh_jw (fun J8 => J8 = some res → w_X6_rubs SHM (mh_ret (some (.int res.1)) SHM res.2 L) q1.2 L 28 [(0, .ref 0), (1, .int p1), (3, .int b2)] []) h (fun h => ?_) (fun J8 hJ8 h => ?_)
    · refine mw_iload_n dX6_rubs_28 2 rfl ?_
      refine mw_aload_n dX6_rubs_29 0 rfl ?_
      refine mw_getr (b := 2) (fs := fsX6) gf_X6_13 dX6_rubs_30 rfl rfl ?_
      refine mw_iload_n dX6_rubs_33 1 rfl ?_
      obtain ⟨k12, hk13, hk13n, hk13l, h⟩ := mh_ix_some h
      refine mw_xiald dX6_rubs_34 rfl hk13 hk13n ?_
      refine mw_iadd dX6_rubs_35 ?_
      refine mw_goto (tgt := 52) dX6_rubs_36 (by decide) ?_
      refine mw_loc [] rfl ?_
      exact hJ7 _ h
    · refine mw_icmp_eq (tgt := 28) dX6_rubs_19 (by decide) (fun hc11 => ?_) (fun hc11 => ?_)
      · replace h := mh_ifp hc11 h
        refine mw_loc [2, 3, 1] rfl ?_
        exact hJ8  h
      · replace h := mh_ifn hc11 h
        refine mw_iload dX6_rubs_22 0 rfl ?_
        refine mw_iconst (v := 5) dX6_rubs_24 (by decide) ?_
        refine mw_icmp_ne (tgt := 39) dX6_rubs_25 (by decide) (fun hc10 => ?_) (fun hc10 => ?_)
        · replace h := mh_ifn hc10 h
          refine mw_iload dX6_rubs_39 0 rfl ?_
          refine mw_iconst (v := 3) dX6_rubs_41 (by decide) ?_
          refine mw_icmp_ne (tgt := 51) dX6_rubs_42 (by decide) (fun hc9 => ?_) (fun hc9 => ?_)
          · replace h := mh_ifn hc9 h
            refine mw_iload_n dX6_rubs_51 1 rfl ?_
            refine mw_loc [] rfl ?_
            exact hJ7 _ h
          · replace h := mh_ifp hc9 h
            refine mw_iconst (v := 2) dX6_rubs_45 (by decide) ?_
            refine mw_iload_n dX6_rubs_46 1 rfl ?_
            refine mw_imul dX6_rubs_47 ?_
            refine mw_goto (tgt := 52) dX6_rubs_48 (by decide) ?_
            refine mw_loc [] rfl ?_
            exact hJ7 _ h
        · replace h := mh_ifp hc10 h
          refine mw_loc [2, 3, 1] rfl ?_
          exact hJ8  h
abbrev w_X6_through (sh : List mh_C) (Φ : mh_P) (I : mh_I) (L : mh_L) (pc : Nat) (lv : List (Nat × Value)) (st : List Value) : Prop := mh_W RX6 cX6_through 5 (some .int) false (mh_rm 0) 18 0 0 mh_noX Φ 0 sh I L pc lv st
def X6_through (p1 : Int32) (I : mh_I) : Option (Int32) := mh_b ((1 : Int32) <<< ((mh_rem p1 (6 : Int32)) &&& 31)) (fun b1 => mh_b ((1 : Int32) <<< (((mh_rem p1 (6 : Int32)) ^^^ (1 : Int32)) &&& 31)) (fun b2 => mh_ix p1 48 (fun k3 => mh_b (I 1 k3) (fun b5 => if b5 = (2 : Int32) then some b2 else if b5 = (3 : Int32) then some (b1 ||| b2) else if b5 = (4 : Int32) then some (0 : Int32) else some b1))))
set_option maxHeartbeats 4000000 in
set_option maxRecDepth 100000 in
theorem t_X6_through {L : mh_L} {I : mh_I} {p1 : Int32} {res : Int32} (h : X6_through p1 I = some res) : mh_CT yX6_through cX6_through 5 (some .int) (mh_rm 0) SHM I L [.ref 0, .int p1] (mh_ret (some (.int res)) SHM I L) := by
  refine mh_ofW (ini := false) RX6 rfl (by decide) (fun h => by cases h) (Nat.le_of_ble_eq_true rfl) ?_
  show w_X6_through SHM (mh_ret (some (.int res)) SHM I L) I L 0 [(0, .ref 0), (1, .int p1)] []
  unfold X6_through at h
  refine mw_iconst (v := 1) dX6_through_0 (by decide) ?_
  refine mw_iload_n dX6_through_1 1 rfl ?_
  refine mw_bipush (v := 6) dX6_through_2 (by decide) ?_
  refine mw_irem dX6_through_4 (by decide) ?_
  refine mw_ishl dX6_through_5 ?_
  obtain ⟨b1, eb1, h⟩ := mh_b_some h
  refine mw_nmi eb1 ?_
  refine mw_istore_n dX6_through_6 (by decide) rfl ?_
  refine mw_iconst (v := 1) dX6_through_7 (by decide) ?_
  refine mw_iload_n dX6_through_8 2 rfl ?_
  refine mw_bipush (v := 6) dX6_through_9 (by decide) ?_
  refine mw_irem dX6_through_11 (by decide) ?_
  refine mw_iconst (v := 1) dX6_through_12 (by decide) ?_
  refine mw_ixor dX6_through_13 ?_
  refine mw_ishl dX6_through_14 ?_
  obtain ⟨b2, eb2, h⟩ := mh_b_some h
  refine mw_nmi eb2 ?_
  refine mw_istore_n dX6_through_15 (by decide) rfl ?_
  refine mw_aload_n dX6_through_16 2 rfl ?_
  refine mw_getr (b := 1) (fs := fsX6) gf_X6_7 dX6_through_17 rfl rfl ?_
  refine mw_iload_n dX6_through_20 3 rfl ?_
  obtain ⟨k3, hk4, hk4n, hk4l, h⟩ := mh_ix_some h
  refine mw_xiald dX6_through_21 rfl hk4 hk4n ?_
  obtain ⟨b5, eb5, h⟩ := mh_b_some h
  refine mw_nmi eb5 ?_
  refine mw_istore dX6_through_22 (by decide) rfl ?_
  refine mw_iload dX6_through_24 0 rfl ?_
  refine mw_iconst (v := 2) dX6_through_26 (by decide) ?_
  refine mw_icmp_ne (tgt := 34) dX6_through_27 (by decide) (fun hc8 => ?_) (fun hc8 => ?_)
  · replace h := mh_ifn hc8 h
    refine mw_iload dX6_through_34 0 rfl ?_
    refine mw_iconst (v := 3) dX6_through_36 (by decide) ?_
    refine mw_icmp_ne (tgt := 46) dX6_through_37 (by decide) (fun hc7 => ?_) (fun hc7 => ?_)
    · replace h := mh_ifn hc7 h
      refine mw_iload dX6_through_46 0 rfl ?_
      refine mw_iconst (v := 4) dX6_through_48 (by decide) ?_
      refine mw_icmp_ne (tgt := 56) dX6_through_49 (by decide) (fun hc6 => ?_) (fun hc6 => ?_)
      · replace h := mh_ifn hc6 h
        refine mw_iload_n dX6_through_56 2 rfl ?_
        obtain rfl := Option.some.inj h
        exact mw_iret dX6_through_57 rfl rfl (Nat.le_of_ble_eq_true rfl) (Nat.le_refl 0) mh_ret_rfl
      · replace h := mh_ifp hc6 h
        refine mw_iconst (v := 0) dX6_through_52 (by decide) ?_
        refine mw_goto (tgt := 57) dX6_through_53 (by decide) ?_
        obtain rfl := Option.some.inj h
        exact mw_iret dX6_through_57 rfl rfl (Nat.le_of_ble_eq_true rfl) (Nat.le_refl 0) mh_ret_rfl
    · replace h := mh_ifp hc7 h
      refine mw_iload_n dX6_through_40 2 rfl ?_
      refine mw_iload_n dX6_through_41 1 rfl ?_
      refine mw_ior dX6_through_42 ?_
      refine mw_goto (tgt := 57) dX6_through_43 (by decide) ?_
      obtain rfl := Option.some.inj h
      exact mw_iret dX6_through_57 rfl rfl (Nat.le_of_ble_eq_true rfl) (Nat.le_refl 0) mh_ret_rfl
  · replace h := mh_ifp hc8 h
    refine mw_iload_n dX6_through_30 1 rfl ?_
    refine mw_goto (tgt := 57) dX6_through_31 (by decide) ?_
    obtain rfl := Option.some.inj h
    exact mw_iret dX6_through_57 rfl rfl (Nat.le_of_ble_eq_true rfl) (Nat.le_refl 0) mh_ret_rfl
abbrev w_X6_isKnit (sh : List mh_C) (Φ : mh_P) (I : mh_I) (L : mh_L) (pc : Nat) (lv : List (Nat × Value)) (st : List Value) : Prop := mh_W RX6 cX6_isKnit 2 (some .boolean) false (mh_rm 1) 18 0 0 mh_noX Φ 0 sh I L pc lv st
def X6_isKnit (p0 : Int32) (p1 : Int32) : Option (Int32) := (X6_in p0 (0 : Int32) (5 : Int32)).bind (fun q1 => if q1 = 0 then some (0 : Int32) else (X6_in p1 (0 : Int32) (9 : Int32)).bind (fun q2 => if q2 = 0 then some (0 : Int32) else some (1 : Int32)))
set_option maxHeartbeats 4000000 in
set_option maxRecDepth 100000 in
theorem t_X6_isKnit {L : mh_L} {I : mh_I} {p0 : Int32} {p1 : Int32} {res : Int32} (h : X6_isKnit p0 p1 = some res) : mh_CT yX6_isKnit cX6_isKnit 2 (some .boolean) (mh_rm 1) SHM I L [.int p0, .int p1] (mh_retz res SHM I L) := by
  refine mh_ofW (ini := false) RX6 rfl (by decide) (fun h => by cases h) (Nat.le_of_ble_eq_true rfl) ?_
  show w_X6_isKnit SHM (mh_retz res SHM I L) I L 0 [(0, .int p0), (1, .int p1)] []
  unfold X6_isKnit at h
  refine mw_iload_n dX6_isKnit_0 0 rfl ?_
  refine mw_iconst (v := 0) dX6_isKnit_1 (by decide) ?_
  refine mw_iconst (v := 5) dX6_isKnit_2 (by decide) ?_
  obtain ⟨q1, hq1, h⟩ := mh_bind h
  refine mw_sz (dc := 0) cs_X6_69 wd_722 dX6_isKnit_3 [.int p0, .int (0 : Int32), .int (5 : Int32)] [.int (5 : Int32), .int (0 : Int32), .int p0] rfl rfl (t_X6_in hq1) ⟨by decide, by decide⟩ (Nat.le_of_ble_eq_true rfl) ⟨rfl, rfl⟩ (fun zq1 => ?_)
  refine mw_if_eq (tgt := 23) dX6_isKnit_6 (by decide) (fun hc4 => ?_) (fun hc4 => ?_)
  · replace h := mh_ifp hc4 h
    refine mw_iconst (v := 0) dX6_isKnit_23 (by decide) ?_
    obtain rfl := Option.some.inj h
    exact mw_zret dX6_isKnit_24 rfl (Or.inl rfl) (Nat.le_of_ble_eq_true rfl) (Nat.le_refl 0) (mh_retz_rfl (Or.inl rfl))
  · replace h := mh_ifn hc4 h
    refine mw_iload_n dX6_isKnit_9 1 rfl ?_
    refine mw_iconst (v := 0) dX6_isKnit_10 (by decide) ?_
    refine mw_bipush (v := 9) dX6_isKnit_11 (by decide) ?_
    obtain ⟨q2, hq2, h⟩ := mh_bind h
    refine mw_sz (dc := 0) cs_X6_69 wd_722 dX6_isKnit_13 [.int p1, .int (0 : Int32), .int (9 : Int32)] [.int (9 : Int32), .int (0 : Int32), .int p1] rfl rfl (t_X6_in hq2) ⟨by decide, by decide⟩ (Nat.le_of_ble_eq_true rfl) ⟨rfl, rfl⟩ (fun zq2 => ?_)
    refine mw_if_eq (tgt := 23) dX6_isKnit_16 (by decide) (fun hc3 => ?_) (fun hc3 => ?_)
    · replace h := mh_ifp hc3 h
      refine mw_iconst (v := 0) dX6_isKnit_23 (by decide) ?_
      obtain rfl := Option.some.inj h
      exact mw_zret dX6_isKnit_24 rfl (Or.inl rfl) (Nat.le_of_ble_eq_true rfl) (Nat.le_refl 0) (mh_retz_rfl (Or.inl rfl))
    · replace h := mh_ifn hc3 h
      refine mw_iconst (v := 1) dX6_isKnit_19 (by decide) ?_
      refine mw_goto (tgt := 24) dX6_isKnit_20 (by decide) ?_
      obtain rfl := Option.some.inj h
      exact mw_zret dX6_isKnit_24 rfl (Or.inr rfl) (Nat.le_of_ble_eq_true rfl) (Nat.le_refl 0) (mh_retz_rfl (Or.inr rfl))
abbrev w_X6_knit (sh : List mh_C) (Φ : mh_P) (I : mh_I) (L : mh_L) (pc : Nat) (lv : List (Nat × Value)) (st : List Value) : Prop := mh_W RX6 cX6_knit 5 (some .int) false (mh_rm 2) 18 0 0 mh_noX Φ 0 sh I L pc lv st
def X6_knit (p1 : Int32) (p2 : Int32) (p3 : Int32) (I : mh_I) : Option (Int32 × mh_I) := (X6_isLoop p1).bind (fun q1 => if q1 = 0 then some ((-5 : Int32), I) else (X6_isKnit p2 p3).bind (fun q2 => if q2 = 0 then some ((-7 : Int32), I) else mh_ix p1 48 (fun k3 => mh_b (I 1 k3) (fun b5 => mh_ix p1 48 (fun k6 => mh_ix p1 48 (fun k8 => some (b5, (mh_u (mh_u I 1 k6 p2) 2 k8 p3))))))))
set_option maxHeartbeats 4000000 in
set_option maxRecDepth 100000 in
theorem t_X6_knit {L : mh_L} {I : mh_I} {p1 : Int32} {p2 : Int32} {p3 : Int32} {res : Int32 × mh_I} (h : X6_knit p1 p2 p3 I = some res) : mh_CT yX6_knit cX6_knit 5 (some .int) (mh_rm 2) SHM I L [.ref 0, .int p1, .int p2, .int p3] (mh_ret (some (.int res.1)) SHM res.2 L) := by
  refine mh_ofW (ini := false) RX6 rfl (by decide) (fun h => by cases h) (Nat.le_of_ble_eq_true rfl) ?_
  show w_X6_knit SHM (mh_ret (some (.int res.1)) SHM res.2 L) I L 0 [(0, .ref 0), (1, .int p1), (2, .int p2), (3, .int p3)] []
  unfold X6_knit at h
  refine mw_iload_n dX6_knit_0 1 rfl ?_
  obtain ⟨q1, hq1, h⟩ := mh_bind h
  refine mw_sz (dc := 1) cs_X6_155 wd_876 dX6_knit_1 [.int p1] [.int p1] rfl rfl (t_X6_isLoop hq1) ⟨by decide, by decide⟩ (Nat.le_of_ble_eq_true rfl) ⟨rfl, rfl⟩ (fun zq1 => ?_)
  refine mw_if_ne (tgt := 10) dX6_knit_4 (by decide) (fun hc11 => ?_) (fun hc11 => ?_)
  · replace h := mh_ifn hc11 h
    refine mw_iload_n dX6_knit_10 2 rfl ?_
    refine mw_iload_n dX6_knit_11 3 rfl ?_
    obtain ⟨q2, hq2, h⟩ := mh_bind h
    refine mw_sz (dc := 1) cs_X6_164 wd_903 dX6_knit_12 [.int p2, .int p3] [.int p3, .int p2] rfl rfl (t_X6_isKnit hq2) ⟨by decide, by decide⟩ (Nat.le_of_ble_eq_true rfl) ⟨rfl, rfl⟩ (fun zq2 => ?_)
    refine mw_if_ne (tgt := 21) dX6_knit_15 (by decide) (fun hc10 => ?_) (fun hc10 => ?_)
    · replace h := mh_ifn hc10 h
      refine mw_aload_n dX6_knit_21 0 rfl ?_
      refine mw_getr (b := 1) (fs := fsX6) gf_X6_7 dX6_knit_22 rfl rfl ?_
      refine mw_iload_n dX6_knit_25 1 rfl ?_
      obtain ⟨k3, hk4, hk4n, hk4l, h⟩ := mh_ix_some h
      refine mw_xiald dX6_knit_26 rfl hk4 hk4n ?_
      obtain ⟨b5, eb5, h⟩ := mh_b_some h
      refine mw_nmi eb5 ?_
      refine mw_istore dX6_knit_27 (by decide) rfl ?_
      refine mw_aload_n dX6_knit_29 1 rfl ?_
      refine mw_getr (b := 1) (fs := fsX6) gf_X6_7 dX6_knit_30 rfl rfl ?_
      refine mw_iload_n dX6_knit_33 2 rfl ?_
      refine mw_iload_n dX6_knit_34 3 rfl ?_
      obtain ⟨k6, hk7, hk7n, hk7l, h⟩ := mh_ix_some h
      refine mw_xiast dX6_knit_35 rfl hk7 hk7n ?_
      refine mw_aload_n dX6_knit_36 1 rfl ?_
      refine mw_getr (b := 2) (fs := fsX6) gf_X6_13 dX6_knit_37 rfl rfl ?_
      refine mw_iload_n dX6_knit_40 2 rfl ?_
      refine mw_iload_n dX6_knit_41 4 rfl ?_
      obtain ⟨k8, hk9, hk9n, hk9l, h⟩ := mh_ix_some h
      refine mw_xiast dX6_knit_42 rfl hk9 hk9n ?_
      refine mw_iload dX6_knit_43 0 rfl ?_
      obtain rfl := Option.some.inj h
      exact mw_iret dX6_knit_45 rfl rfl (Nat.le_of_ble_eq_true rfl) (Nat.le_refl 0) mh_ret_rfl
    · replace h := mh_ifp hc10 h
      refine mw_bipush (v := -7) dX6_knit_18 (by decide) ?_
      obtain rfl := Option.some.inj h
      exact mw_iret dX6_knit_20 rfl rfl (Nat.le_of_ble_eq_true rfl) (Nat.le_refl 0) mh_ret_rfl
  · replace h := mh_ifp hc11 h
    refine mw_bipush (v := -5) dX6_knit_7 (by decide) ?_
    obtain rfl := Option.some.inj h
    exact mw_iret dX6_knit_9 rfl rfl (Nat.le_of_ble_eq_true rfl) (Nat.le_refl 0) mh_ret_rfl
abbrev w_X6_row (sh : List mh_C) (Φ : mh_P) (I : mh_I) (L : mh_L) (pc : Nat) (lv : List (Nat × Value)) (st : List Value) : Prop := mh_W RX6 cX6_row 6 (some .int) false (mh_rm 3) 18 0 0 mh_noX Φ 0 sh I L pc lv st
def X6_row_l33 (u1 : Int32) (u2 : Int32) (u3 : Int32) : Nat → Int32 → Int32 → mh_I → Option (Int32 × mh_I)
  | 0, _, _, _ => none
  | n + 1, u4, u5, I => if (((6 : Int32) * u1) + (6 : Int32)) ≤ u5 then some (u4, I) else (X6_knit u5 u2 u3 I).bind (fun q4 => mh_j (fun (s5 : Int32) => mh_b (u4 + s5) (fun b8 => mh_b (u5 + (1 : Int32)) (fun b9 => (X6_row_l33 u1 u2 u3 n b8 b9 q4.2)))) (fun J6 => if q4.1 = u2 then (J6 (0 : Int32)) else (J6 (1 : Int32))))
set_option maxHeartbeats 4000000 in
set_option maxRecDepth 100000 in
theorem t_X6_row_l33 {u1 : Int32} {u2 : Int32} {u3 : Int32} {L : mh_L} {res : Int32 × mh_I} (n : Nat) (u4 : Int32) (u5 : Int32) (I : mh_I) (h : X6_row_l33 u1 u2 u3 n u4 u5 I = some res)  : w_X6_row SHM (mh_ret (some (.int res.1)) SHM res.2 L) I L 33 [(0, .ref 0), (1, .int u1), (2, .int u2), (3, .int u3), (4, .int u4), (5, .int u5)] [] := by
  induction n generalizing u4 u5 I with
  | zero => rw [X6_row_l33] at h; cases h
  | succ n ih =>
    rw [X6_row_l33] at h
    refine mw_iload dX6_row_33 5 rfl ?_
    refine mw_bipush (v := 6) dX6_row_35 (by decide) ?_
    refine mw_iload_n dX6_row_37 1 rfl ?_
    refine mw_imul dX6_row_38 ?_
    refine mw_bipush (v := 6) dX6_row_39 (by decide) ?_
    refine mw_iadd dX6_row_41 ?_
    refine mw_icmp_ge (tgt := 73) dX6_row_42 (by decide) (fun hc10 => ?_) (fun hc10 => ?_)
    · replace h := mh_ifp hc10 h
      refine mw_iload dX6_row_73 4 rfl ?_
      obtain rfl := Option.some.inj h
      exact mw_iret dX6_row_75 rfl rfl (Nat.le_of_ble_eq_true rfl) (Nat.le_refl 0) mh_ret_rfl
    · replace h := mh_ifn hc10 h
      refine mw_iload dX6_row_45 4 rfl ?_
      refine mw_aload_n dX6_row_47 0 rfl ?_
      refine mw_iload dX6_row_48 5 rfl ?_
      refine mw_iload_n dX6_row_50 2 rfl ?_
      refine mw_iload_n dX6_row_51 3 rfl ?_
      obtain ⟨q4, hq4, h⟩ := mh_bind h
      refine mw_vr (dc := 2) (ci := 6) (fs := fsX6) (T := TX6) (N := 30) cv_X6_168 wd_900 dX6_row_52 [.int u5, .int u2, .int u3] [.int u3, .int u2, .int u5, .ref 0, .int u4] rfl rfl rfl rfl (t_X6_knit hq4) ⟨by decide, by decide⟩ (Nat.le_of_ble_eq_true rfl) ⟨rfl, rfl⟩ ?_
      refine mw_iload_n dX6_row_55 2 rfl ?_
      refine mh_jw (fun J6 => ∀ (s5 : Int32), J6 s5 = some res → w_X6_row SHM (mh_ret (some (.int res.1)) SHM res.2 L) q4.2 L 64 [(0, .ref 0), (1, .int u1), (2, .int u2), (3, .int u3), (5, .int u5)] [.int s5, .int u4]) h (fun s5 h => ?_) (fun J6 hJ6 h => ?_)
      · refine mw_iadd dX6_row_64 ?_
        obtain ⟨b8, eb8, h⟩ := mh_b_some h
        refine mw_nmi eb8 ?_
        refine mw_istore dX6_row_65 (by decide) rfl ?_
        obtain ⟨b9, eb9, h⟩ := mh_b_some h
        refine mw_iinc (v := b9) dX6_row_67 5 rfl (by rw [← eb9]; rfl) (by decide) rfl ?_
        refine mw_goto (tgt := 33) dX6_row_70 (by decide) ?_
        refine mw_loc [2, 3, 4, 5, 1, 0] rfl ?_
        exact ih _ _ _ h
      · refine mw_icmp_eq (tgt := 63) dX6_row_56 (by decide) (fun hc7 => ?_) (fun hc7 => ?_)
        · replace h := mh_ifp hc7 h
          refine mw_iconst (v := 0) dX6_row_63 (by decide) ?_
          refine mw_loc [0, 1, 2, 3, 5] rfl ?_
          exact hJ6 _ h
        · replace h := mh_ifn hc7 h
          refine mw_iconst (v := 1) dX6_row_59 (by decide) ?_
          refine mw_goto (tgt := 64) dX6_row_60 (by decide) ?_
          refine mw_loc [0, 1, 2, 3, 5] rfl ?_
          exact hJ6 _ h
def X6_row (p1 : Int32) (p2 : Int32) (p3 : Int32) (I : mh_I) : Option (Int32 × mh_I) := (X6_in p1 (0 : Int32) (7 : Int32)).bind (fun q1 => if q1 = 0 then some ((-5 : Int32), I) else (X6_isKnit p2 p3).bind (fun q2 => if q2 = 0 then some ((-7 : Int32), I) else mh_b ((6 : Int32) * p1) (fun b3 => X6_row_l33 p1 p2 p3 mh_fuel (0 : Int32) b3 I)))
set_option maxHeartbeats 4000000 in
set_option maxRecDepth 100000 in
theorem t_X6_row {L : mh_L} {I : mh_I} {p1 : Int32} {p2 : Int32} {p3 : Int32} {res : Int32 × mh_I} (h : X6_row p1 p2 p3 I = some res) : mh_CT yX6_row cX6_row 6 (some .int) (mh_rm 3) SHM I L [.ref 0, .int p1, .int p2, .int p3] (mh_ret (some (.int res.1)) SHM res.2 L) := by
  refine mh_ofW (ini := false) RX6 rfl (by decide) (fun h => by cases h) (Nat.le_of_ble_eq_true rfl) ?_
  show w_X6_row SHM (mh_ret (some (.int res.1)) SHM res.2 L) I L 0 [(0, .ref 0), (1, .int p1), (2, .int p2), (3, .int p3)] []
  unfold X6_row at h
  refine mw_iload_n dX6_row_0 1 rfl ?_
  refine mw_iconst (v := 0) dX6_row_1 (by decide) ?_
  refine mw_bipush (v := 7) dX6_row_2 (by decide) ?_
  obtain ⟨q1, hq1, h⟩ := mh_bind h
  refine mw_sz (dc := 0) cs_X6_69 wd_722 dX6_row_4 [.int p1, .int (0 : Int32), .int (7 : Int32)] [.int (7 : Int32), .int (0 : Int32), .int p1] rfl rfl (t_X6_in hq1) ⟨by decide, by decide⟩ (Nat.le_of_ble_eq_true rfl) ⟨rfl, rfl⟩ (fun zq1 => ?_)
  refine mw_if_ne (tgt := 13) dX6_row_7 (by decide) (fun hc12 => ?_) (fun hc12 => ?_)
  · replace h := mh_ifn hc12 h
    refine mw_iload_n dX6_row_13 2 rfl ?_
    refine mw_iload_n dX6_row_14 3 rfl ?_
    obtain ⟨q2, hq2, h⟩ := mh_bind h
    refine mw_sz (dc := 1) cs_X6_164 wd_903 dX6_row_15 [.int p2, .int p3] [.int p3, .int p2] rfl rfl (t_X6_isKnit hq2) ⟨by decide, by decide⟩ (Nat.le_of_ble_eq_true rfl) ⟨rfl, rfl⟩ (fun zq2 => ?_)
    refine mw_if_ne (tgt := 24) dX6_row_18 (by decide) (fun hc11 => ?_) (fun hc11 => ?_)
    · replace h := mh_ifn hc11 h
      refine mw_iconst (v := 0) dX6_row_24 (by decide) ?_
      refine mw_istore dX6_row_25 (by decide) rfl ?_
      refine mw_bipush (v := 6) dX6_row_27 (by decide) ?_
      refine mw_iload_n dX6_row_29 2 rfl ?_
      refine mw_imul dX6_row_30 ?_
      obtain ⟨b3, eb3, h⟩ := mh_b_some h
      refine mw_nmi eb3 ?_
      refine mw_istore dX6_row_31 (by decide) rfl ?_
      refine mw_loc [2, 3, 4, 5, 1, 0] rfl ?_
      exact t_X6_row_l33  _ _ _ _ h 
    · replace h := mh_ifp hc11 h
      refine mw_bipush (v := -7) dX6_row_21 (by decide) ?_
      obtain rfl := Option.some.inj h
      exact mw_iret dX6_row_23 rfl rfl (Nat.le_of_ble_eq_true rfl) (Nat.le_refl 0) mh_ret_rfl
  · replace h := mh_ifp hc12 h
    refine mw_bipush (v := -5) dX6_row_10 (by decide) ?_
    obtain rfl := Option.some.inj h
    exact mw_iret dX6_row_12 rfl rfl (Nat.le_of_ble_eq_true rfl) (Nat.le_refl 0) mh_ret_rfl
abbrev w_X6_told (sh : List mh_C) (Φ : mh_P) (I : mh_I) (L : mh_L) (pc : Nat) (lv : List (Nat × Value)) (st : List Value) : Prop := mh_W RX6 cX6_told 3 (some .int) false (mh_rm 2) 18 0 0 mh_noX Φ 0 sh I L pc lv st
def X6_told (p1 : Int32) (p2 : Int32) (I : mh_I) : Option (Int32) := (X6_isLoop p1).bind (fun q1 => if q1 = 0 then some (-5 : Int32) else if p2 = 0 then mh_ix p1 48 (fun k3 => some (I 1 k3)) else if p2 = 1 then mh_ix p1 48 (fun k6 => some (I 2 k6)) else if p2 = 2 then (X6_through p1 I).bind (fun q9 => some q9) else if p2 = 3 then mh_ix p1 48 (fun k11 => (X6_faceOf (I 1 k11)).bind (fun q13 => some q13)) else if p2 = 4 then mh_ix p1 48 (fun k15 => some (I 3 k15)) else if p2 = 5 then mh_ix p1 48 (fun k18 => some (I 4 k18)) else some (-7 : Int32))
set_option maxHeartbeats 4000000 in
set_option maxRecDepth 100000 in
theorem t_X6_told {L : mh_L} {I : mh_I} {p1 : Int32} {p2 : Int32} {res : Int32} (h : X6_told p1 p2 I = some res) : mh_CT yX6_told cX6_told 3 (some .int) (mh_rm 2) SHM I L [.ref 0, .int p1, .int p2] (mh_ret (some (.int res)) SHM I L) := by
  refine mh_ofW (ini := false) RX6 rfl (by decide) (fun h => by cases h) (Nat.le_of_ble_eq_true rfl) ?_
  show w_X6_told SHM (mh_ret (some (.int res)) SHM I L) I L 0 [(0, .ref 0), (1, .int p1), (2, .int p2)] []
  unfold X6_told at h
  refine mw_iload_n dX6_told_0 1 rfl ?_
  obtain ⟨q1, hq1, h⟩ := mh_bind h
  refine mw_sz (dc := 1) cs_X6_155 wd_876 dX6_told_1 [.int p1] [.int p1] rfl rfl (t_X6_isLoop hq1) ⟨by decide, by decide⟩ (Nat.le_of_ble_eq_true rfl) ⟨rfl, rfl⟩ (fun zq1 => ?_)
  refine mw_if_ne (tgt := 10) dX6_told_4 (by decide) (fun hc20 => ?_) (fun hc20 => ?_)
  · replace h := mh_ifn hc20 h
    refine mw_iload_n dX6_told_10 2 rfl ?_
    by_cases hc2 : p2 = 0
    · replace h := mh_ifp hc2 h
      refine mw_tableIn (off := 37) (tgt := 48) dX6_told_11 (by rw [hc2]; decide) (by rw [hc2]; decide) (by rw [hc2]; rfl) (by decide) ?_
      refine mw_aload_n dX6_told_48 0 rfl ?_
      refine mw_getr (b := 1) (fs := fsX6) gf_X6_7 dX6_told_49 rfl rfl ?_
      refine mw_iload_n dX6_told_52 1 rfl ?_
      obtain ⟨k3, hk4, hk4n, hk4l, h⟩ := mh_ix_some h
      refine mw_xiald dX6_told_53 rfl hk4 hk4n ?_
      obtain rfl := Option.some.inj h
      exact mw_iret dX6_told_54 rfl rfl (Nat.le_of_ble_eq_true rfl) (Nat.le_refl 0) mh_ret_rfl
    · replace h := mh_ifn hc2 h
      by_cases hc5 : p2 = 1
      · replace h := mh_ifp hc5 h
        refine mw_tableIn (off := 44) (tgt := 55) dX6_told_11 (by rw [hc5]; decide) (by rw [hc5]; decide) (by rw [hc5]; rfl) (by decide) ?_
        refine mw_aload_n dX6_told_55 0 rfl ?_
        refine mw_getr (b := 2) (fs := fsX6) gf_X6_13 dX6_told_56 rfl rfl ?_
        refine mw_iload_n dX6_told_59 1 rfl ?_
        obtain ⟨k6, hk7, hk7n, hk7l, h⟩ := mh_ix_some h
        refine mw_xiald dX6_told_60 rfl hk7 hk7n ?_
        obtain rfl := Option.some.inj h
        exact mw_iret dX6_told_61 rfl rfl (Nat.le_of_ble_eq_true rfl) (Nat.le_refl 0) mh_ret_rfl
      · replace h := mh_ifn hc5 h
        by_cases hc8 : p2 = 2
        · replace h := mh_ifp hc8 h
          refine mw_tableIn (off := 51) (tgt := 62) dX6_told_11 (by rw [hc8]; decide) (by rw [hc8]; decide) (by rw [hc8]; rfl) (by decide) ?_
          refine mw_aload_n dX6_told_62 0 rfl ?_
          refine mw_iload_n dX6_told_63 1 rfl ?_
          obtain ⟨q9, hq9, h⟩ := mh_bind h
          refine mw_vr (dc := 0) (ci := 6) (fs := fsX6) (T := TX6) (N := 30) cv_X6_171 wd_916 dX6_told_64 [.int p1] [.int p1, .ref 0] rfl rfl rfl rfl (t_X6_through hq9) ⟨by decide, by decide⟩ (Nat.le_of_ble_eq_true rfl) ⟨rfl, rfl⟩ ?_
          obtain rfl := Option.some.inj h
          exact mw_iret dX6_told_67 rfl rfl (Nat.le_of_ble_eq_true rfl) (Nat.le_refl 0) mh_ret_rfl
        · replace h := mh_ifn hc8 h
          by_cases hc10 : p2 = 3
          · replace h := mh_ifp hc10 h
            refine mw_tableIn (off := 57) (tgt := 68) dX6_told_11 (by rw [hc10]; decide) (by rw [hc10]; decide) (by rw [hc10]; rfl) (by decide) ?_
            refine mw_aload_n dX6_told_68 0 rfl ?_
            refine mw_getr (b := 1) (fs := fsX6) gf_X6_7 dX6_told_69 rfl rfl ?_
            refine mw_iload_n dX6_told_72 1 rfl ?_
            obtain ⟨k11, hk12, hk12n, hk12l, h⟩ := mh_ix_some h
            refine mw_xiald dX6_told_73 rfl hk12 hk12n ?_
            obtain ⟨q13, hq13, h⟩ := mh_bind h
            refine mw_sr (dc := 0) cs_X6_146 wd_886 dX6_told_74 [.int (I 1 k11)] [.int (I 1 k11)] rfl rfl (t_X6_faceOf hq13) ⟨by decide, by decide⟩ (Nat.le_of_ble_eq_true rfl) ⟨rfl, rfl⟩ ?_
            obtain rfl := Option.some.inj h
            exact mw_iret dX6_told_77 rfl rfl (Nat.le_of_ble_eq_true rfl) (Nat.le_refl 0) mh_ret_rfl
          · replace h := mh_ifn hc10 h
            by_cases hc14 : p2 = 4
            · replace h := mh_ifp hc14 h
              refine mw_tableIn (off := 67) (tgt := 78) dX6_told_11 (by rw [hc14]; decide) (by rw [hc14]; decide) (by rw [hc14]; rfl) (by decide) ?_
              refine mw_aload_n dX6_told_78 0 rfl ?_
              refine mw_getr (b := 3) (fs := fsX6) gf_X6_16 dX6_told_79 rfl rfl ?_
              refine mw_iload_n dX6_told_82 1 rfl ?_
              obtain ⟨k15, hk16, hk16n, hk16l, h⟩ := mh_ix_some h
              refine mw_xiald dX6_told_83 rfl hk16 hk16n ?_
              obtain rfl := Option.some.inj h
              exact mw_iret dX6_told_84 rfl rfl (Nat.le_of_ble_eq_true rfl) (Nat.le_refl 0) mh_ret_rfl
            · replace h := mh_ifn hc14 h
              by_cases hc17 : p2 = 5
              · replace h := mh_ifp hc17 h
                refine mw_tableIn (off := 74) (tgt := 85) dX6_told_11 (by rw [hc17]; decide) (by rw [hc17]; decide) (by rw [hc17]; rfl) (by decide) ?_
                refine mw_aload_n dX6_told_85 0 rfl ?_
                refine mw_getr (b := 4) (fs := fsX6) gf_X6_19 dX6_told_86 rfl rfl ?_
                refine mw_iload_n dX6_told_89 1 rfl ?_
                obtain ⟨k18, hk19, hk19n, hk19l, h⟩ := mh_ix_some h
                refine mw_xiald dX6_told_90 rfl hk19 hk19n ?_
                obtain rfl := Option.some.inj h
                exact mw_iret dX6_told_91 rfl rfl (Nat.le_of_ble_eq_true rfl) (Nat.le_refl 0) mh_ret_rfl
              · replace h := mh_ifn hc17 h
                refine mw_tableOut (tgt := 92) dX6_told_11 (by have e0 := mh_ne (n := 0) hc2 (by decide); have e1 := mh_ne (n := 1) hc5 (by decide); have e2 := mh_ne (n := 2) hc8 (by decide); have e3 := mh_ne (n := 3) hc10 (by decide); have e4 := mh_ne (n := 4) hc14 (by decide); have e5 := mh_ne (n := 5) hc17 (by decide); omega) (by decide) ?_
                refine mw_bipush (v := -7) dX6_told_92 (by decide) ?_
                obtain rfl := Option.some.inj h
                exact mw_iret dX6_told_94 rfl rfl (Nat.le_of_ble_eq_true rfl) (Nat.le_refl 0) mh_ret_rfl
  · replace h := mh_ifp hc20 h
    refine mw_bipush (v := -5) dX6_told_7 (by decide) ?_
    obtain rfl := Option.some.inj h
    exact mw_iret dX6_told_9 rfl rfl (Nat.le_of_ble_eq_true rfl) (Nat.le_refl 0) mh_ret_rfl
abbrev w_X6_pin (sh : List mh_C) (Φ : mh_P) (I : mh_I) (L : mh_L) (pc : Nat) (lv : List (Nat × Value)) (st : List Value) : Prop := mh_W RX6 cX6_pin 4 (some .int) false (mh_rm 2) 18 0 0 mh_noX Φ 0 sh I L pc lv st
def X6_pin (p1 : Int32) (p2 : Int32) (I : mh_I) : Option (Int32 × mh_I) := (X6_isLoop p1).bind (fun q1 => if q1 = 0 then some ((-5 : Int32), I) else (X6_in p2 (0 : Int32) (1 : Int32)).bind (fun q2 => if q2 = 0 then some ((-7 : Int32), I) else mh_ix p1 48 (fun k3 => mh_b (I 3 k3) (fun b5 => mh_ix p1 48 (fun k6 => some (b5, (mh_u I 3 k6 p2)))))))
set_option maxHeartbeats 4000000 in
set_option maxRecDepth 100000 in
theorem t_X6_pin {L : mh_L} {I : mh_I} {p1 : Int32} {p2 : Int32} {res : Int32 × mh_I} (h : X6_pin p1 p2 I = some res) : mh_CT yX6_pin cX6_pin 4 (some .int) (mh_rm 2) SHM I L [.ref 0, .int p1, .int p2] (mh_ret (some (.int res.1)) SHM res.2 L) := by
  refine mh_ofW (ini := false) RX6 rfl (by decide) (fun h => by cases h) (Nat.le_of_ble_eq_true rfl) ?_
  show w_X6_pin SHM (mh_ret (some (.int res.1)) SHM res.2 L) I L 0 [(0, .ref 0), (1, .int p1), (2, .int p2)] []
  unfold X6_pin at h
  refine mw_iload_n dX6_pin_0 1 rfl ?_
  obtain ⟨q1, hq1, h⟩ := mh_bind h
  refine mw_sz (dc := 1) cs_X6_155 wd_876 dX6_pin_1 [.int p1] [.int p1] rfl rfl (t_X6_isLoop hq1) ⟨by decide, by decide⟩ (Nat.le_of_ble_eq_true rfl) ⟨rfl, rfl⟩ (fun zq1 => ?_)
  refine mw_if_ne (tgt := 10) dX6_pin_4 (by decide) (fun hc9 => ?_) (fun hc9 => ?_)
  · replace h := mh_ifn hc9 h
    refine mw_iload_n dX6_pin_10 2 rfl ?_
    refine mw_iconst (v := 0) dX6_pin_11 (by decide) ?_
    refine mw_iconst (v := 1) dX6_pin_12 (by decide) ?_
    obtain ⟨q2, hq2, h⟩ := mh_bind h
    refine mw_sz (dc := 0) cs_X6_69 wd_722 dX6_pin_13 [.int p2, .int (0 : Int32), .int (1 : Int32)] [.int (1 : Int32), .int (0 : Int32), .int p2] rfl rfl (t_X6_in hq2) ⟨by decide, by decide⟩ (Nat.le_of_ble_eq_true rfl) ⟨rfl, rfl⟩ (fun zq2 => ?_)
    refine mw_if_ne (tgt := 22) dX6_pin_16 (by decide) (fun hc8 => ?_) (fun hc8 => ?_)
    · replace h := mh_ifn hc8 h
      refine mw_aload_n dX6_pin_22 0 rfl ?_
      refine mw_getr (b := 3) (fs := fsX6) gf_X6_16 dX6_pin_23 rfl rfl ?_
      refine mw_iload_n dX6_pin_26 1 rfl ?_
      obtain ⟨k3, hk4, hk4n, hk4l, h⟩ := mh_ix_some h
      refine mw_xiald dX6_pin_27 rfl hk4 hk4n ?_
      obtain ⟨b5, eb5, h⟩ := mh_b_some h
      refine mw_nmi eb5 ?_
      refine mw_istore_n dX6_pin_28 (by decide) rfl ?_
      refine mw_aload_n dX6_pin_29 1 rfl ?_
      refine mw_getr (b := 3) (fs := fsX6) gf_X6_16 dX6_pin_30 rfl rfl ?_
      refine mw_iload_n dX6_pin_33 2 rfl ?_
      refine mw_iload_n dX6_pin_34 3 rfl ?_
      obtain ⟨k6, hk7, hk7n, hk7l, h⟩ := mh_ix_some h
      refine mw_xiast dX6_pin_35 rfl hk7 hk7n ?_
      refine mw_iload_n dX6_pin_36 0 rfl ?_
      obtain rfl := Option.some.inj h
      exact mw_iret dX6_pin_37 rfl rfl (Nat.le_of_ble_eq_true rfl) (Nat.le_refl 0) mh_ret_rfl
    · replace h := mh_ifp hc8 h
      refine mw_bipush (v := -7) dX6_pin_19 (by decide) ?_
      obtain rfl := Option.some.inj h
      exact mw_iret dX6_pin_21 rfl rfl (Nat.le_of_ble_eq_true rfl) (Nat.le_refl 0) mh_ret_rfl
  · replace h := mh_ifp hc9 h
    refine mw_bipush (v := -5) dX6_pin_7 (by decide) ?_
    obtain rfl := Option.some.inj h
    exact mw_iret dX6_pin_9 rfl rfl (Nat.le_of_ble_eq_true rfl) (Nat.le_refl 0) mh_ret_rfl
