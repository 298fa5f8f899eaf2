def mh_ans (v : Int32) : mh_P := fun r _ _ _ => r = some (.int v)
abbrev w_L_law (sc : mh_Sc) (sl : Nat) (sh : List mh_C) (Φ : mh_P) (I : mh_I) (L : mh_L) (pc : Nat) (lv : List (Nat × Value)) (st : List Value) : Prop := mh_W RL code 16 (some .boolean) false room_1 0 600000 7302250 (mh_scr sc) Φ sl sh I L pc lv st
def L_law_l104 (sc : mh_Sc) (u2 : Nat) (u4 : Int32) (u6 : Int32) (k221 : (Int64 → Int64 → Int32 → Int32 → Int32 → mh_I → mh_L → Option (Int32))) : Nat → Int64 → Int64 → Int32 → Int32 → Int32 → Int32 → mh_I → mh_L → Option (Int32)
  | 0, _, _, _, _, _, _, _, _ => none
  | n + 1, u7, u9, u11, u12, u13, u14, I, L => if u14 < 0 then (k221 u7 u9 u11 u12 u13 I L) else (X5_left u6 u4 u14 I L).bind (fun q9 => mh_ix u14 50 (fun k10 => if (lg_cmp (q9.1.toInt64) ((mh_mx 46 q9.2.2 L) u2 k10)) = 0 then mh_ix u14 50 (fun k12 => mh_j (fun (v14 : Int64) (v15 : Int64) (v16 : Int32) (v17 : Int32) (v18 : Int32) => mh_b (u14 + (-1 : Int32)) (fun b34 => (L_law_l104 sc u2 u4 u6 k221 n v14 v15 v16 v17 v18 b34 (mh_mx 46 q9.2.1 I) (mh_mx 46 q9.2.2 L)))) (fun J19 => if 0 ≤ (lg_cmp ((mh_mx 46 q9.2.2 L) u2 k12) (0 : Int64)) then mh_b (u7 ||| ((1 : Int64) <<< (u14.toInt64 &&& 63))) (fun b20 => mh_b (u14 / (6 : Int32)) (fun b21 => mh_ix u14 50 (fun k22 => (L_asks sc (1 : Int32) u14 (((mh_mx 46 q9.2.2 L) u2 k22).toInt32) (0 : Int32)).bind (fun q24 => mh_b (u12 + q24) (fun b25 => mh_ix u14 50 (fun k26 => (L_asks sc (2 : Int32) u14 (((mh_mx 46 q9.2.2 L) u2 k26).toInt32) (0 : Int32)).bind (fun q28 => mh_b (u13 + q28) (fun b29 => (J19 b20 u9 b21 b25 b29))))))))) else (L_come sc u2 u14 (mh_mx 46 q9.2.2 L)).bind (fun q30 => if (lg_cmp q30 (0 : Int64)) < 0 then (J19 u7 u9 u11 u12 u13) else mh_b (u9 ||| ((1 : Int64) <<< (u14.toInt64 &&& 63))) (fun b31 => (J19 u7 b31 u11 u12 u13))))) else some (0 : Int32)))
set_option maxHeartbeats 4000000 in
set_option maxRecDepth 100000 in
theorem t_L_law_l104 {sc : mh_Sc} {T : Option Nat} {ext : List mh_C} {sl : Nat} (hT : ∀ t, T = some t → t < 46) (hcs : (SHX T ++ ext).length - 0 ≤ room_1.cells ∧ sl ≤ room_1.slots) {u2 : Nat} (hf2 : (SHX T ++ ext)[u2]? = some (.inr (1, 50, mh_n))) {u3 : Int32} {u4 : Int32} {u5 : Int32} {u6 : Int32} {k221 : (Int64 → Int64 → Int32 → Int32 → Int32 → mh_I → mh_L → Option (Int32))} {res : Int32} (n : Nat) (u7 : Int64) (u9 : Int64) (u11 : Int32) (u12 : Int32) (u13 : Int32) (u14 : Int32) (I : mh_I) (L : mh_L) (h : L_law_l104 sc u2 u4 u6 k221 n u7 u9 u11 u12 u13 u14 I L = some res) (hk221 : ∀ (u7 : Int64) (u9 : Int64) (u11 : Int32) (u12 : Int32) (u13 : Int32) (I : mh_I) (L : mh_L), k221 u7 u9 u11 u12 u13 I L = some res → w_L_law sc sl (SHX T ++ ext) (mh_ans res) I L 221 [(0, .ref 1040), (1, .ref 0), (2, .ref u2), (3, .int u3), (4, .int u4), (5, .int u5), (6, .int u6), (7, .long u7), (9, .long u9), (11, .int u11), (12, .int u12), (13, .int u13)] []) : w_L_law sc sl (SHX T ++ ext) (mh_ans res) I L 104 [(0, .ref 1040), (1, .ref 0), (2, .ref u2), (3, .int u3), (4, .int u4), (5, .int u5), (6, .int u6), (7, .long u7), (9, .long u9), (11, .int u11), (12, .int u12), (13, .int u13), (14, .int u14)] [] := by
  induction n generalizing u7 u9 u11 u12 u13 u14 I L with
  | zero => rw [L_law_l104] at h; cases h
  | succ n ih =>
    rw [L_law_l104] at h
    refine mw_iload dL_law_104 12 rfl ?_
    refine mw_if_lt (tgt := 221) dL_law_106 (by decide) (fun hc36 => ?_) (fun hc36 => ?_)
    · replace h := mh_ifp hc36 h
      refine mw_loc [0, 1, 2, 3, 4, 5, 6, 7, 8, 9, 10, 11] rfl ?_
      exact hk221 _ _ _ _ _ _ _ h
    · replace h := mh_ifn hc36 h
      refine mw_aload_n dL_law_109 1 rfl ?_
      refine mw_iload dL_law_110 6 rfl ?_
      refine mw_iload dL_law_112 4 rfl ?_
      refine mw_iload dL_law_114 12 rfl ?_
      obtain ⟨q9, hq9, h⟩ := mh_bind h
      refine mwg_vr (dc := 6) (ci := 5) (fs := fsX5) (T := TX5) (N := 9) cv_L_127 wd_150 dL_law_116 [.int u6, .int u4, .int u14] [.int u14, .int u4, .int u6, .ref 0] rfl rfl rfl rfl (mh_frX ext hT hT (by simp [mh_lo]) (fun v hv => by cases hv; exact trivial) (t_X5_left hq9)) ⟨Nat.le_of_ble_eq_true rfl, Nat.le_of_ble_eq_true rfl⟩ (Nat.le_of_ble_eq_true rfl) hcs rfl ?_
      refine mw_i2l dL_law_119 ?_
      refine mw_aload_n dL_law_120 2 rfl ?_
      refine mw_iload dL_law_121 12 rfl ?_
      obtain ⟨k10, hk11, hk11n, hk11l, h⟩ := mh_ix_some h
      refine mw_xlald dL_law_123 hf2 hk11 hk11n ?_
      refine mw_lcmp dL_law_124 ?_
      refine mw_if_eq (tgt := 130) dL_law_125 (by decide) (fun hc35 => ?_) (fun hc35 => ?_)
      · replace h := mh_ifp hc35 h
        refine mw_aload_n dL_law_130 2 rfl ?_
        refine mw_iload dL_law_131 12 rfl ?_
        obtain ⟨k12, hk13, hk13n, hk13l, h⟩ := mh_ix_some h
        refine mw_xlald dL_law_133 hf2 hk13 hk13n ?_
        refine mw_lconst (v := 0) dL_law_134 (by decide) ?_
        refine mw_lcmp dL_law_135 ?_
        refine mh_jw (fun J19 => ∀ (v14 : Int64) (v15 : Int64) (v16 : Int32) (v17 : Int32) (v18 : Int32), J19 v14 v15 v16 v17 v18 = some res → w_L_law sc sl (SHX T ++ ext) (mh_ans res) (mh_mx 46 q9.2.1 I) (mh_mx 46 q9.2.2 L) 215 [(0, .ref 1040), (1, .ref 0), (2, .ref u2), (3, .int u3), (4, .int u4), (5, .int u5), (6, .int u6), (7, .long v14), (9, .long v15), (11, .int v16), (12, .int v17), (13, .int v18), (14, .int u14)] []) h (fun v14 v15 v16 v17 v18 h => ?_) (fun J19 hJ19 h => ?_)
        · obtain ⟨b34, eb34, h⟩ := mh_b_some h
          refine mw_iinc (v := b34) dL_law_215 12 rfl (by rw [← eb34]; rfl) (by decide) rfl ?_
          refine mw_goto (tgt := 104) dL_law_218 (by decide) ?_
          refine mw_loc [1, 2, 3, 4, 5, 6, 7, 8, 9, 10, 11, 12, 0] rfl ?_
          exact ih _ _ _ _ _ _ _ _ h
        · refine mw_if_ge (tgt := 163) dL_law_136 (by decide) (fun hc33 => ?_) (fun hc33 => ?_)
          · replace h := mh_ifp hc33 h
            refine mw_lload dL_law_163 7 rfl ?_
            refine mw_lconst (v := 1) dL_law_165 (by decide) ?_
            refine mw_iload dL_law_166 12 rfl ?_
            refine mw_lshl dL_law_168 ?_
            refine mw_lor dL_law_169 ?_
            obtain ⟨b20, eb20, h⟩ := mh_b_some h
            refine mw_nml eb20 ?_
            refine mw_lstore dL_law_170 (by decide) rfl ?_
            refine mw_iload dL_law_172 12 rfl ?_
            refine mw_bipush (v := 6) dL_law_174 (by decide) ?_
            refine mw_idiv dL_law_176 (by decide) ?_
            obtain ⟨b21, eb21, h⟩ := mh_b_some h
            refine mw_nmi eb21 ?_
            refine mw_istore dL_law_177 (by decide) rfl ?_
            refine mw_iload dL_law_179 10 rfl ?_
            refine mw_aload_n dL_law_181 2 rfl ?_
            refine mw_iconst (v := 1) dL_law_182 (by decide) ?_
            refine mw_iload dL_law_183 12 rfl ?_
            refine mw_aload_n dL_law_185 4 rfl ?_
            refine mw_iload dL_law_186 12 rfl ?_
            obtain ⟨k22, hk23, hk23n, hk23l, h⟩ := mh_ix_some h
            refine mw_xlald dL_law_188 hf2 hk23 hk23n ?_
            refine mw_l2i dL_law_189 ?_
            refine mw_iconst (v := 0) dL_law_190 (by decide) ?_
            obtain ⟨q24, hq24, h⟩ := mh_bind h
            refine mws_r (dc := 3) cs_L_96 wd_696 dL_law_191 [.ref 1040, .int (1 : Int32), .int u14, .int (((mh_mx 46 q9.2.2 L) u2 k22).toInt32), .int (0 : Int32)] [.int (0 : Int32), .int (((mh_mx 46 q9.2.2 L) u2 k22).toInt32), .int u14, .int (1 : Int32), .ref 1040, .int u12] rfl rfl (t_L_asks hq24) ⟨Nat.le_of_ble_eq_true rfl, Nat.le_of_ble_eq_true rfl⟩ (Nat.le_of_ble_eq_true rfl) hcs rfl ?_
            refine mw_iadd dL_law_194 ?_
            obtain ⟨b25, eb25, h⟩ := mh_b_some h
            refine mw_nmi eb25 ?_
            refine mw_istore dL_law_195 (by decide) rfl ?_
            refine mw_iload dL_law_197 11 rfl ?_
            refine mw_aload_n dL_law_199 3 rfl ?_
            refine mw_iconst (v := 2) dL_law_200 (by decide) ?_
            refine mw_iload dL_law_201 12 rfl ?_
            refine mw_aload_n dL_law_203 5 rfl ?_
            refine mw_iload dL_law_204 12 rfl ?_
            obtain ⟨k26, hk27, hk27n, hk27l, h⟩ := mh_ix_some h
            refine mw_xlald dL_law_206 hf2 hk27 hk27n ?_
            refine mw_l2i dL_law_207 ?_
            refine mw_iconst (v := 0) dL_law_208 (by decide) ?_
            obtain ⟨q28, hq28, h⟩ := mh_bind h
            refine mws_r (dc := 3) cs_L_96 wd_696 dL_law_209 [.ref 1040, .int (2 : Int32), .int u14, .int (((mh_mx 46 q9.2.2 L) u2 k26).toInt32), .int (0 : Int32)] [.int (0 : Int32), .int (((mh_mx 46 q9.2.2 L) u2 k26).toInt32), .int u14, .int (2 : Int32), .ref 1040, .int u13] rfl rfl (t_L_asks hq28) ⟨Nat.le_of_ble_eq_true rfl, Nat.le_of_ble_eq_true rfl⟩ (Nat.le_of_ble_eq_true rfl) hcs rfl ?_
            refine mw_iadd dL_law_212 ?_
            obtain ⟨b29, eb29, h⟩ := mh_b_some h
            refine mw_nmi eb29 ?_
            refine mw_istore dL_law_213 (by decide) rfl ?_
            refine mw_loc [4, 5, 6, 7, 8, 9, 10, 3, 11, 2, 1, 0, 12] rfl ?_
            exact hJ19 _ _ _ _ _ h
          · replace h := mh_ifn hc33 h
            refine mw_aload_n dL_law_139 0 rfl ?_
            refine mw_aload_n dL_law_140 2 rfl ?_
            refine mw_iload dL_law_141 12 rfl ?_
            obtain ⟨q30, hq30, h⟩ := mh_bind h
            refine mws_r (dc := 3) cs_L_105 wd_714 dL_law_143 [.ref 1040, .ref u2, .int u14] [.int u14, .ref u2, .ref 1040] rfl rfl (t_L_come hf2 hq30) ⟨Nat.le_of_ble_eq_true rfl, Nat.le_of_ble_eq_true rfl⟩ (Nat.le_of_ble_eq_true rfl) hcs rfl ?_
            refine mw_lconst (v := 0) dL_law_146 (by decide) ?_
            refine mw_lcmp dL_law_147 ?_
            refine mw_if_lt (tgt := 215) dL_law_148 (by decide) (fun hc32 => ?_) (fun hc32 => ?_)
            · replace h := mh_ifp hc32 h
              refine mw_loc [0, 1, 2, 3, 4, 5, 6, 7, 8, 9, 10, 11, 12] rfl ?_
              exact hJ19 _ _ _ _ _ h
            · replace h := mh_ifn hc32 h
              refine mw_lload dL_law_151 8 rfl ?_
              refine mw_lconst (v := 1) dL_law_153 (by decide) ?_
              refine mw_iload dL_law_154 12 rfl ?_
              refine mw_lshl dL_law_156 ?_
              refine mw_lor dL_law_157 ?_
              obtain ⟨b31, eb31, h⟩ := mh_b_some h
              refine mw_nml eb31 ?_
              refine mw_lstore dL_law_158 (by decide) rfl ?_
              refine mw_goto (tgt := 215) dL_law_160 (by decide) ?_
              refine mw_loc [1, 2, 3, 4, 5, 6, 7, 8, 0, 9, 10, 11, 12] rfl ?_
              exact hJ19 _ _ _ _ _ h
      · replace h := mh_ifn hc35 h
        refine mw_iconst (v := 0) dL_law_128 (by decide) ?_
        obtain rfl := Option.some.inj h
        exact mw_zret dL_law_129 rfl (Or.inl rfl) hcs.1 hcs.2 rfl
def L_law_l43 (sc : mh_Sc) (u2 : Nat) (u3 : Int32) (u4 : Int32) (k465 : (mh_I → mh_L → Option (Int32))) : Nat → Int32 → mh_I → mh_L → Option (Int32)
  | 0, _, _, _ => none
  | n + 1, u5, I, L => if (3 : Int32) ≤ u5 then (k465 I L) else mh_j (fun (s5 : Int32) => (L_run sc u2 ((1 : Int64) <<< (s5.toInt64 &&& 63)) u4 (0 : Int64) L).bind (fun q8 => L_law_l104 sc u2 u4 s5 (fun (v37 : Int64) (v38 : Int64) (v39 : Int32) (v40 : Int32) (v41 : Int32) (I42 : mh_I) (L43 : mh_L) => (X5_goes s5 u4 (0 : Int32) I42 L43).bind (fun q44 => if (lg_cmp q44.1 v37) = 0 then (X5_goes s5 u4 (1 : Int32) (mh_mx 46 q44.2.1 I42) (mh_mx 46 q44.2.2 L43)).bind (fun q45 => if (lg_cmp q45.1 v38) = 0 then (X5_run s5 u4 (0 : Int32) (mh_mx 46 q45.2.1 (mh_mx 46 q44.2.1 I42)) (mh_mx 46 q45.2.2 (mh_mx 46 q44.2.2 L43))).bind (fun q46 => if (lg_cmp (q46.1.toInt64) ((mh_mx 46 q46.2.2 (mh_mx 46 q45.2.2 (mh_mx 46 q44.2.2 L43))) u2 48)) = 0 then (X5_run s5 u4 (1 : Int32) (mh_mx 46 q46.2.1 (mh_mx 46 q45.2.1 (mh_mx 46 q44.2.1 I42))) (mh_mx 46 q46.2.2 (mh_mx 46 q45.2.2 (mh_mx 46 q44.2.2 L43)))).bind (fun q47 => if q47.1 = v39 then (X5_run s5 u4 (2 : Int32) (mh_mx 46 q47.2.1 (mh_mx 46 q46.2.1 (mh_mx 46 q45.2.1 (mh_mx 46 q44.2.1 I42)))) (mh_mx 46 q47.2.2 (mh_mx 46 q46.2.2 (mh_mx 46 q45.2.2 (mh_mx 46 q44.2.2 L43))))).bind (fun q48 => if q48.1 = v40 then (X5_run s5 u4 (3 : Int32) (mh_mx 46 q48.2.1 (mh_mx 46 q47.2.1 (mh_mx 46 q46.2.1 (mh_mx 46 q45.2.1 (mh_mx 46 q44.2.1 I42))))) (mh_mx 46 q48.2.2 (mh_mx 46 q47.2.2 (mh_mx 46 q46.2.2 (mh_mx 46 q45.2.2 (mh_mx 46 q44.2.2 L43)))))).bind (fun q49 => if q49.1 = v41 then mh_j (fun (s50 : Int32) => mh_j (fun (s53 : Int32) => (X5_mending s5 u4 (0 : Int32) (mh_mx 46 q49.2.1 (mh_mx 46 q48.2.1 (mh_mx 46 q47.2.1 (mh_mx 46 q46.2.1 (mh_mx 46 q45.2.1 (mh_mx 46 q44.2.1 I42)))))) (mh_mx 46 q49.2.2 (mh_mx 46 q48.2.2 (mh_mx 46 q47.2.2 (mh_mx 46 q46.2.2 (mh_mx 46 q45.2.2 (mh_mx 46 q44.2.2 L43))))))).bind (fun q60 => if q60.1 = s53 then (X5_mending s5 u4 (1 : Int32) (mh_mx 46 q60.2.1 (mh_mx 46 q49.2.1 (mh_mx 46 q48.2.1 (mh_mx 46 q47.2.1 (mh_mx 46 q46.2.1 (mh_mx 46 q45.2.1 (mh_mx 46 q44.2.1 I42))))))) (mh_mx 46 q60.2.2 (mh_mx 46 q49.2.2 (mh_mx 46 q48.2.2 (mh_mx 46 q47.2.2 (mh_mx 46 q46.2.2 (mh_mx 46 q45.2.2 (mh_mx 46 q44.2.2 L43)))))))).bind (fun q61 => mh_j (fun (s62 : Int32) => if q61.1 = s62 then mh_b (u5 + (1 : Int32)) (fun b67 => (L_law_l43 sc u2 u3 u4 k465 n b67 (mh_mx 46 q61.2.1 (mh_mx 46 q60.2.1 (mh_mx 46 q49.2.1 (mh_mx 46 q48.2.1 (mh_mx 46 q47.2.1 (mh_mx 46 q46.2.1 (mh_mx 46 q45.2.1 (mh_mx 46 q44.2.1 I42)))))))) (mh_mx 46 q61.2.2 (mh_mx 46 q60.2.2 (mh_mx 46 q49.2.2 (mh_mx 46 q48.2.2 (mh_mx 46 q47.2.2 (mh_mx 46 q46.2.2 (mh_mx 46 q45.2.2 (mh_mx 46 q44.2.2 L43)))))))))) else some (0 : Int32)) (fun J63 => if 0 ≤ s53 then if s53 = 0 then (J63 v40) else if s53 = (1 : Int32) then (J63 s50) else (J63 ((50 : Int32) + (((mh_mx 46 q61.2.2 (mh_mx 46 q60.2.2 (mh_mx 46 q49.2.2 (mh_mx 46 q48.2.2 (mh_mx 46 q47.2.2 (mh_mx 46 q46.2.2 (mh_mx 46 q45.2.2 (mh_mx 46 q44.2.2 L43)))))))) u2 48).toInt32))) else (J63 (0 : Int32)))) else some (0 : Int32))) (fun J54 => if (lg_cmp ((mh_mx 46 q49.2.2 (mh_mx 46 q48.2.2 (mh_mx 46 q47.2.2 (mh_mx 46 q46.2.2 (mh_mx 46 q45.2.2 (mh_mx 46 q44.2.2 L43)))))) u2 48) (0 : Int64)) = 0 then (J54 (-1 : Int32)) else mh_j (if 0 < (lg_cmp (s50.toInt64) ((50 : Int64) + ((mh_mx 46 q49.2.2 (mh_mx 46 q48.2.2 (mh_mx 46 q47.2.2 (mh_mx 46 q46.2.2 (mh_mx 46 q45.2.2 (mh_mx 46 q44.2.2 L43)))))) u2 48))) then (J54 (2 : Int32)) else (J54 (1 : Int32))) (fun J55 => if s50 < v40 then J55 else if 0 < (lg_cmp (v40.toInt64) ((50 : Int64) + ((mh_mx 46 q49.2.2 (mh_mx 46 q48.2.2 (mh_mx 46 q47.2.2 (mh_mx 46 q46.2.2 (mh_mx 46 q45.2.2 (mh_mx 46 q44.2.2 L43)))))) u2 48))) then J55 else (J54 (0 : Int32))))) (fun J51 => if 0 ≤ v39 then (J51 ((24 : Int32) * ((8 : Int32) - v39))) else (J51 (0 : Int32))) else some (0 : Int32)) else some (0 : Int32)) else some (0 : Int32)) else some (0 : Int32)) else some (0 : Int32)) else some (0 : Int32))) mh_fuel (0 : Int64) (0 : Int64) (-1 : Int32) (0 : Int32) (0 : Int32) (47 : Int32) I q8)) (fun J6 => if u5 = 0 then (J6 u3) else (J6 ((47 : Int32) - (mh_rem (u3 + (u5 * (7 : Int32))) (12 : Int32)))))
set_option maxHeartbeats 4000000 in
set_option maxRecDepth 100000 in
theorem t_L_law_l43 {sc : mh_Sc} {T : Option Nat} {ext : List mh_C} {sl : Nat} (hT : ∀ t, T = some t → t < 46) (hcs : (SHX T ++ ext).length - 0 ≤ room_1.cells ∧ sl ≤ room_1.slots) {u2 : Nat} (hf2 : (SHX T ++ ext)[u2]? = some (.inr (1, 50, mh_n))) {u3 : Int32} {u4 : Int32} {k465 : (mh_I → mh_L → Option (Int32))} {res : Int32} (n : Nat) (u5 : Int32) (I : mh_I) (L : mh_L) (h : L_law_l43 sc u2 u3 u4 k465 n u5 I L = some res) (hk465 : ∀ (I : mh_I) (L : mh_L), k465 I L = some res → w_L_law sc sl (SHX T ++ ext) (mh_ans res) I L 465 [(0, .ref 1040), (1, .ref 0), (2, .ref u2), (3, .int u3), (4, .int u4)] []) : w_L_law sc sl (SHX T ++ ext) (mh_ans res) I L 43 [(0, .ref 1040), (1, .ref 0), (2, .ref u2), (3, .int u3), (4, .int u4), (5, .int u5)] [] := by
  induction n generalizing u5 I L with
  | zero => rw [L_law_l43] at h; cases h
  | succ n ih =>
    rw [L_law_l43] at h
    refine mw_iload dL_law_43 5 rfl ?_
    refine mw_iconst (v := 3) dL_law_45 (by decide) ?_
    refine mw_icmp_ge (tgt := 465) dL_law_46 (by decide) (fun hc76 => ?_) (fun hc76 => ?_)
    · replace h := mh_ifp hc76 h
      refine mw_loc [0, 1, 2, 3, 4] rfl ?_
      exact hk465 _ _ h
    · replace h := mh_ifn hc76 h
      refine mw_iload dL_law_49 5 rfl ?_
      refine mh_jw (fun J6 => ∀ (s5 : Int32), J6 s5 = some res → w_L_law sc sl (SHX T ++ ext) (mh_ans res) I L 71 [(0, .ref 1040), (1, .ref 0), (2, .ref u2), (3, .int u3), (4, .int u4), (5, .int u5)] [.int s5]) h (fun s5 h => ?_) (fun J6 hJ6 h => ?_)
      · refine mw_istore dL_law_71 (by decide) rfl ?_
        refine mw_aload_n dL_law_73 1 rfl ?_
        refine mw_aload_n dL_law_74 3 rfl ?_
        refine mw_lconst (v := 1) dL_law_75 (by decide) ?_
        refine mw_iload dL_law_76 0 rfl ?_
        refine mw_lshl dL_law_78 ?_
        refine mw_iload dL_law_79 5 rfl ?_
        refine mw_lconst (v := 0) dL_law_81 (by decide) ?_
        obtain ⟨q8, hq8, h⟩ := mh_bind h
        refine mws_v (dc := 5) cs_L_123 wd_707 dL_law_82 [.ref 1040, .ref u2, .long ((1 : Int64) <<< (s5.toInt64 &&& 63)), .int u4, .long (0 : Int64)] [.long (0 : Int64), .int u4, .long ((1 : Int64) <<< (s5.toInt64 &&& 63)), .ref u2, .ref 1040] rfl rfl (t_L_run hf2 hq8) ⟨Nat.le_of_ble_eq_true rfl, Nat.le_of_ble_eq_true rfl⟩ (Nat.le_of_ble_eq_true rfl) hcs rfl ?_
        refine mw_lconst (v := 0) dL_law_85 (by decide) ?_
        refine mw_lstore dL_law_86 (by decide) rfl ?_
        refine mw_lconst (v := 0) dL_law_88 (by decide) ?_
        refine mw_lstore dL_law_89 (by decide) rfl ?_
        refine mw_iconst (v := -1) dL_law_91 (by decide) ?_
        refine mw_istore dL_law_92 (by decide) rfl ?_
        refine mw_iconst (v := 0) dL_law_94 (by decide) ?_
        refine mw_istore dL_law_95 (by decide) rfl ?_
        refine mw_iconst (v := 0) dL_law_97 (by decide) ?_
        refine mw_istore dL_law_98 (by decide) rfl ?_
        refine mw_bipush (v := 47) dL_law_100 (by decide) ?_
        refine mw_istore dL_law_102 (by decide) rfl ?_
        refine mw_loc [7, 8, 9, 10, 11, 12, 6, 5, 4, 3, 2, 1, 0] rfl ?_
        refine t_L_law_l104 hT hcs hf2 _ _ _ _ _ _ _ _ _ h (fun v37 v38 v39 v40 v41 I42 L43 h => ?_)
        refine mw_aload_n dL_law_221 1 rfl ?_
        refine mw_iload dL_law_222 6 rfl ?_
        refine mw_iload dL_law_224 4 rfl ?_
        refine mw_iconst (v := 0) dL_law_226 (by decide) ?_
        obtain ⟨q44, hq44, h⟩ := mh_bind h
        refine mwg_vr (dc := 6) (ci := 5) (fs := fsX5) (T := TX5) (N := 9) cv_L_130 wd_145 dL_law_227 [.int s5, .int u4, .int (0 : Int32)] [.int (0 : Int32), .int u4, .int s5, .ref 0] rfl rfl rfl rfl (mh_frX ext hT hT (by simp [mh_lo]) (fun v hv => by cases hv; exact trivial) (t_X5_goes hq44)) ⟨Nat.le_of_ble_eq_true rfl, Nat.le_of_ble_eq_true rfl⟩ (Nat.le_of_ble_eq_true rfl) hcs rfl ?_
        refine mw_lload dL_law_230 7 rfl ?_
        refine mw_lcmp dL_law_232 ?_
        refine mw_if_ne (tgt := 311) dL_law_233 (by decide) (fun hc75 => ?_) (fun hc75 => ?_)
        · replace h := mh_ifn hc75 h
          refine mw_iconst (v := 0) dL_law_311 (by decide) ?_
          obtain rfl := Option.some.inj h
          exact mw_zret dL_law_312 rfl (Or.inl rfl) hcs.1 hcs.2 rfl
        · replace h := mh_ifp hc75 h
          refine mw_aload_n dL_law_236 1 rfl ?_
          refine mw_iload dL_law_237 6 rfl ?_
          refine mw_iload dL_law_239 4 rfl ?_
          refine mw_iconst (v := 1) dL_law_241 (by decide) ?_
          obtain ⟨q45, hq45, h⟩ := mh_bind h
          refine mwg_vr (dc := 6) (ci := 5) (fs := fsX5) (T := TX5) (N := 9) cv_L_130 wd_145 dL_law_242 [.int s5, .int u4, .int (1 : Int32)] [.int (1 : Int32), .int u4, .int s5, .ref 0] rfl rfl rfl rfl (mh_frX ext hT hT (by simp [mh_lo]) (fun v hv => by cases hv; exact trivial) (t_X5_goes hq45)) ⟨Nat.le_of_ble_eq_true rfl, Nat.le_of_ble_eq_true rfl⟩ (Nat.le_of_ble_eq_true rfl) hcs rfl ?_
          refine mw_lload dL_law_245 8 rfl ?_
          refine mw_lcmp dL_law_247 ?_
          refine mw_if_ne (tgt := 311) dL_law_248 (by decide) (fun hc74 => ?_) (fun hc74 => ?_)
          · replace h := mh_ifn hc74 h
            refine mw_iconst (v := 0) dL_law_311 (by decide) ?_
            obtain rfl := Option.some.inj h
            exact mw_zret dL_law_312 rfl (Or.inl rfl) hcs.1 hcs.2 rfl
          · replace h := mh_ifp hc74 h
            refine mw_aload_n dL_law_251 1 rfl ?_
            refine mw_iload dL_law_252 6 rfl ?_
            refine mw_iload dL_law_254 4 rfl ?_
            refine mw_iconst (v := 0) dL_law_256 (by decide) ?_
            obtain ⟨q46, hq46, h⟩ := mh_bind h
            refine mwg_vr (dc := 6) (ci := 5) (fs := fsX5) (T := TX5) (N := 9) cv_L_134 wd_39 dL_law_257 [.int s5, .int u4, .int (0 : Int32)] [.int (0 : Int32), .int u4, .int s5, .ref 0] rfl rfl rfl rfl (mh_frX ext hT hT (by simp [mh_lo]) (fun v hv => by cases hv; exact trivial) (t_X5_run hq46)) ⟨Nat.le_of_ble_eq_true rfl, Nat.le_of_ble_eq_true rfl⟩ (Nat.le_of_ble_eq_true rfl) hcs rfl ?_
            refine mw_i2l dL_law_260 ?_
            refine mw_aload_n dL_law_261 2 rfl ?_
            refine mw_bipush (v := 48) dL_law_262 (by decide) ?_
            refine mw_xlald (kx := 48) dL_law_264 hf2 (by decide) (by decide) ?_
            refine mw_lcmp dL_law_265 ?_
            refine mw_if_ne (tgt := 311) dL_law_266 (by decide) (fun hc73 => ?_) (fun hc73 => ?_)
            · replace h := mh_ifn hc73 h
              refine mw_iconst (v := 0) dL_law_311 (by decide) ?_
              obtain rfl := Option.some.inj h
              exact mw_zret dL_law_312 rfl (Or.inl rfl) hcs.1 hcs.2 rfl
            · replace h := mh_ifp hc73 h
              refine mw_aload_n dL_law_269 1 rfl ?_
              refine mw_iload dL_law_270 6 rfl ?_
              refine mw_iload dL_law_272 4 rfl ?_
              refine mw_iconst (v := 1) dL_law_274 (by decide) ?_
              obtain ⟨q47, hq47, h⟩ := mh_bind h
              refine mwg_vr (dc := 6) (ci := 5) (fs := fsX5) (T := TX5) (N := 9) cv_L_134 wd_39 dL_law_275 [.int s5, .int u4, .int (1 : Int32)] [.int (1 : Int32), .int u4, .int s5, .ref 0] rfl rfl rfl rfl (mh_frX ext hT hT (by simp [mh_lo]) (fun v hv => by cases hv; exact trivial) (t_X5_run hq47)) ⟨Nat.le_of_ble_eq_true rfl, Nat.le_of_ble_eq_true rfl⟩ (Nat.le_of_ble_eq_true rfl) hcs rfl ?_
              refine mw_iload dL_law_278 9 rfl ?_
              refine mw_icmp_ne (tgt := 311) dL_law_280 (by decide) (fun hc72 => ?_) (fun hc72 => ?_)
              · replace h := mh_ifn hc72 h
                refine mw_iconst (v := 0) dL_law_311 (by decide) ?_
                obtain rfl := Option.some.inj h
                exact mw_zret dL_law_312 rfl (Or.inl rfl) hcs.1 hcs.2 rfl
              · replace h := mh_ifp hc72 h
                refine mw_aload_n dL_law_283 1 rfl ?_
                refine mw_iload dL_law_284 6 rfl ?_
                refine mw_iload dL_law_286 4 rfl ?_
                refine mw_iconst (v := 2) dL_law_288 (by decide) ?_
                obtain ⟨q48, hq48, h⟩ := mh_bind h
                refine mwg_vr (dc := 6) (ci := 5) (fs := fsX5) (T := TX5) (N := 9) cv_L_134 wd_39 dL_law_289 [.int s5, .int u4, .int (2 : Int32)] [.int (2 : Int32), .int u4, .int s5, .ref 0] rfl rfl rfl rfl (mh_frX ext hT hT (by simp [mh_lo]) (fun v hv => by cases hv; exact trivial) (t_X5_run hq48)) ⟨Nat.le_of_ble_eq_true rfl, Nat.le_of_ble_eq_true rfl⟩ (Nat.le_of_ble_eq_true rfl) hcs rfl ?_
                refine mw_iload dL_law_292 10 rfl ?_
                refine mw_icmp_ne (tgt := 311) dL_law_294 (by decide) (fun hc71 => ?_) (fun hc71 => ?_)
                · replace h := mh_ifn hc71 h
                  refine mw_iconst (v := 0) dL_law_311 (by decide) ?_
                  obtain rfl := Option.some.inj h
                  exact mw_zret dL_law_312 rfl (Or.inl rfl) hcs.1 hcs.2 rfl
                · replace h := mh_ifp hc71 h
                  refine mw_aload_n dL_law_297 1 rfl ?_
                  refine mw_iload dL_law_298 6 rfl ?_
                  refine mw_iload dL_law_300 4 rfl ?_
                  refine mw_iconst (v := 3) dL_law_302 (by decide) ?_
                  obtain ⟨q49, hq49, h⟩ := mh_bind h
                  refine mwg_vr (dc := 6) (ci := 5) (fs := fsX5) (T := TX5) (N := 9) cv_L_134 wd_39 dL_law_303 [.int s5, .int u4, .int (3 : Int32)] [.int (3 : Int32), .int u4, .int s5, .ref 0] rfl rfl rfl rfl (mh_frX ext hT hT (by simp [mh_lo]) (fun v hv => by cases hv; exact trivial) (t_X5_run hq49)) ⟨Nat.le_of_ble_eq_true rfl, Nat.le_of_ble_eq_true rfl⟩ (Nat.le_of_ble_eq_true rfl) hcs rfl ?_
                  refine mw_iload dL_law_306 11 rfl ?_
                  refine mw_icmp_eq (tgt := 313) dL_law_308 (by decide) (fun hc70 => ?_) (fun hc70 => ?_)
                  · replace h := mh_ifp hc70 h
                    refine mw_iload dL_law_313 9 rfl ?_
                    refine mh_jw (fun J51 => ∀ (s50 : Int32), J51 s50 = some res → w_L_law sc sl (SHX T ++ ext) (mh_ans res) (mh_mx 46 q49.2.1 (mh_mx 46 q48.2.1 (mh_mx 46 q47.2.1 (mh_mx 46 q46.2.1 (mh_mx 46 q45.2.1 (mh_mx 46 q44.2.1 I42)))))) (mh_mx 46 q49.2.2 (mh_mx 46 q48.2.2 (mh_mx 46 q47.2.2 (mh_mx 46 q46.2.2 (mh_mx 46 q45.2.2 (mh_mx 46 q44.2.2 L43)))))) 330 [(0, .ref 1040), (1, .ref 0), (2, .ref u2), (3, .int u3), (4, .int u4), (5, .int u5), (6, .int s5), (12, .int v40)] [.int s50]) h (fun s50 h => ?_) (fun J51 hJ51 h => ?_)
                    · refine mw_istore dL_law_330 (by decide) rfl ?_
                      refine mw_aload_n dL_law_332 3 rfl ?_
                      refine mw_bipush (v := 48) dL_law_333 (by decide) ?_
                      refine mw_xlald (kx := 48) dL_law_335 hf2 (by decide) (by decide) ?_
                      refine mw_lconst (v := 0) dL_law_336 (by decide) ?_
                      refine mw_lcmp dL_law_337 ?_
                      refine mh_jw (fun J54 => ∀ (s53 : Int32), J54 s53 = some res → w_L_law sc sl (SHX T ++ ext) (mh_ans res) (mh_mx 46 q49.2.1 (mh_mx 46 q48.2.1 (mh_mx 46 q47.2.1 (mh_mx 46 q46.2.1 (mh_mx 46 q45.2.1 (mh_mx 46 q44.2.1 I42)))))) (mh_mx 46 q49.2.2 (mh_mx 46 q48.2.2 (mh_mx 46 q47.2.2 (mh_mx 46 q46.2.2 (mh_mx 46 q45.2.2 (mh_mx 46 q44.2.2 L43)))))) 391 [(0, .ref 1040), (1, .ref 0), (2, .ref u2), (3, .int u3), (4, .int u4), (5, .int u5), (6, .int s5), (12, .int v40), (14, .int s50)] [.int s53]) h (fun s53 h => ?_) (fun J54 hJ54 h => ?_)
                      · refine mw_istore dL_law_391 (by decide) rfl ?_
                        refine mw_aload_n dL_law_393 2 rfl ?_
                        refine mw_iload dL_law_394 7 rfl ?_
                        refine mw_iload dL_law_396 5 rfl ?_
                        refine mw_iconst (v := 0) dL_law_398 (by decide) ?_
                        obtain ⟨q60, hq60, h⟩ := mh_bind h
                        refine mwg_vr (dc := 6) (ci := 5) (fs := fsX5) (T := TX5) (N := 9) cv_L_138 wd_166 dL_law_399 [.int s5, .int u4, .int (0 : Int32)] [.int (0 : Int32), .int u4, .int s5, .ref 0] rfl rfl rfl rfl (mh_frX ext hT hT (by simp [mh_lo]) (fun v hv => by cases hv; exact trivial) (t_X5_mending hq60)) ⟨Nat.le_of_ble_eq_true rfl, Nat.le_of_ble_eq_true rfl⟩ (Nat.le_of_ble_eq_true rfl) hcs rfl ?_
                        refine mw_iload dL_law_402 0 rfl ?_
                        refine mw_icmp_ne (tgt := 457) dL_law_404 (by decide) (fun hc69 => ?_) (fun hc69 => ?_)
                        · replace h := mh_ifn hc69 h
                          refine mw_iconst (v := 0) dL_law_457 (by decide) ?_
                          obtain rfl := Option.some.inj h
                          exact mw_zret dL_law_458 rfl (Or.inl rfl) hcs.1 hcs.2 rfl
                        · replace h := mh_ifp hc69 h
                          refine mw_aload_n dL_law_407 2 rfl ?_
                          refine mw_iload dL_law_408 7 rfl ?_
                          refine mw_iload dL_law_410 5 rfl ?_
                          refine mw_iconst (v := 1) dL_law_412 (by decide) ?_
                          obtain ⟨q61, hq61, h⟩ := mh_bind h
                          refine mwg_vr (dc := 6) (ci := 5) (fs := fsX5) (T := TX5) (N := 9) cv_L_138 wd_166 dL_law_413 [.int s5, .int u4, .int (1 : Int32)] [.int (1 : Int32), .int u4, .int s5, .ref 0] rfl rfl rfl rfl (mh_frX ext hT hT (by simp [mh_lo]) (fun v hv => by cases hv; exact trivial) (t_X5_mending hq61)) ⟨Nat.le_of_ble_eq_true rfl, Nat.le_of_ble_eq_true rfl⟩ (Nat.le_of_ble_eq_true rfl) hcs rfl ?_
                          refine mw_iload dL_law_416 0 rfl ?_
                          refine mh_jw (fun J63 => ∀ (s62 : Int32), J63 s62 = some res → w_L_law sc sl (SHX T ++ ext) (mh_ans res) (mh_mx 46 q61.2.1 (mh_mx 46 q60.2.1 (mh_mx 46 q49.2.1 (mh_mx 46 q48.2.1 (mh_mx 46 q47.2.1 (mh_mx 46 q46.2.1 (mh_mx 46 q45.2.1 (mh_mx 46 q44.2.1 I42)))))))) (mh_mx 46 q61.2.2 (mh_mx 46 q60.2.2 (mh_mx 46 q49.2.2 (mh_mx 46 q48.2.2 (mh_mx 46 q47.2.2 (mh_mx 46 q46.2.2 (mh_mx 46 q45.2.2 (mh_mx 46 q44.2.2 L43)))))))) 454 [(0, .ref 1040), (1, .ref 0), (2, .ref u2), (3, .int u3), (4, .int u4), (5, .int u5)] [.int s62, .int q61.1]) h (fun s62 h => ?_) (fun J63 hJ63 h => ?_)
                          · refine mw_icmp_eq (tgt := 459) dL_law_454 (by decide) (fun hc68 => ?_) (fun hc68 => ?_)
                            · replace h := mh_ifp hc68 h
                              obtain ⟨b67, eb67, h⟩ := mh_b_some h
                              refine mw_iinc (v := b67) dL_law_459 5 rfl (by rw [← eb67]; rfl) (by decide) rfl ?_
                              refine mw_goto (tgt := 43) dL_law_462 (by decide) ?_
                              refine mw_loc [1, 2, 3, 4, 5, 0] rfl ?_
                              exact ih _ _ _ h
                            · replace h := mh_ifn hc68 h
                              refine mw_iconst (v := 0) dL_law_457 (by decide) ?_
                              obtain rfl := Option.some.inj h
                              exact mw_zret dL_law_458 rfl (Or.inl rfl) hcs.1 hcs.2 rfl
                          · refine mw_if_ge (tgt := 425) dL_law_418 (by decide) (fun hc66 => ?_) (fun hc66 => ?_)
                            · replace h := mh_ifp hc66 h
                              refine mw_iload dL_law_425 0 rfl ?_
                              refine mw_if_ne (tgt := 435) dL_law_427 (by decide) (fun hc65 => ?_) (fun hc65 => ?_)
                              · replace h := mh_ifn hc65 h
                                refine mw_iload dL_law_435 0 rfl ?_
                                refine mw_iconst (v := 1) dL_law_437 (by decide) ?_
                                refine mw_icmp_ne (tgt := 446) dL_law_438 (by decide) (fun hc64 => ?_) (fun hc64 => ?_)
                                · replace h := mh_ifn hc64 h
                                  refine mw_bipush (v := 50) dL_law_446 (by decide) ?_
                                  refine mw_aload_n dL_law_448 3 rfl ?_
                                  refine mw_bipush (v := 48) dL_law_449 (by decide) ?_
                                  refine mw_xlald (kx := 48) dL_law_451 hf2 (by decide) (by decide) ?_
                                  refine mw_l2i dL_law_452 ?_
                                  refine mw_iadd dL_law_453 ?_
                                  refine mw_loc [1, 2, 3, 4, 5, 6] rfl ?_
                                  exact hJ63 _ h
                                · replace h := mh_ifp hc64 h
                                  refine mw_iload dL_law_441 9 rfl ?_
                                  refine mw_goto (tgt := 454) dL_law_443 (by decide) ?_
                                  refine mw_loc [1, 2, 3, 4, 5, 6] rfl ?_
                                  exact hJ63 _ h
                              · replace h := mh_ifp hc65 h
                                refine mw_iload dL_law_430 8 rfl ?_
                                refine mw_goto (tgt := 454) dL_law_432 (by decide) ?_
                                refine mw_loc [1, 2, 3, 4, 5, 6] rfl ?_
                                exact hJ63 _ h
                            · replace h := mh_ifn hc66 h
                              refine mw_iconst (v := 0) dL_law_421 (by decide) ?_
                              refine mw_goto (tgt := 454) dL_law_422 (by decide) ?_
                              refine mw_loc [1, 2, 3, 4, 5, 6] rfl ?_
                              exact hJ63 _ h
                      · refine mw_if_ne (tgt := 345) dL_law_338 (by decide) (fun hc59 => ?_) (fun hc59 => ?_)
                        · replace h := mh_ifn hc59 h
                          refine mw_iload dL_law_345 8 rfl ?_
                          refine mw_iload dL_law_347 0 rfl ?_
                          refine mh_jw (fun J55 => J55 = some res → w_L_law sc sl (SHX T ++ ext) (mh_ans res) (mh_mx 46 q49.2.1 (mh_mx 46 q48.2.1 (mh_mx 46 q47.2.1 (mh_mx 46 q46.2.1 (mh_mx 46 q45.2.1 (mh_mx 46 q44.2.1 I42)))))) (mh_mx 46 q49.2.2 (mh_mx 46 q48.2.2 (mh_mx 46 q47.2.2 (mh_mx 46 q46.2.2 (mh_mx 46 q45.2.2 (mh_mx 46 q44.2.2 L43)))))) 371 [(0, .ref 1040), (1, .ref 0), (2, .ref u2), (3, .int u3), (4, .int u4), (5, .int u5), (6, .int s5), (12, .int v40), (14, .int s50)] []) h (fun h => ?_) (fun J55 hJ55 h => ?_)
                          · refine mw_iload dL_law_371 8 rfl ?_
                            refine mw_i2l dL_law_373 ?_
                            refine mw_ldc2 dL_law_374 wd_724 ?_
                            refine mw_aload_n dL_law_377 2 rfl ?_
                            refine mw_bipush (v := 48) dL_law_378 (by decide) ?_
                            refine mw_xlald (kx := 48) dL_law_380 hf2 (by decide) (by decide) ?_
                            refine mw_ladd dL_law_381 ?_
                            refine mw_lcmp dL_law_382 ?_
                            refine mw_if_gt (tgt := 390) dL_law_383 (by decide) (fun hc58 => ?_) (fun hc58 => ?_)
                            · replace h := mh_ifp hc58 h
                              refine mw_iconst (v := 2) dL_law_390 (by decide) ?_
                              refine mw_loc [0, 1, 2, 3, 4, 5, 6, 7, 8] rfl ?_
                              exact hJ54 _ h
                            · replace h := mh_ifn hc58 h
                              refine mw_iconst (v := 1) dL_law_386 (by decide) ?_
                              refine mw_goto (tgt := 391) dL_law_387 (by decide) ?_
                              refine mw_loc [0, 1, 2, 3, 4, 5, 6, 7, 8] rfl ?_
                              exact hJ54 _ h
                          · refine mw_icmp_gt (tgt := 371) dL_law_349 (by decide) (fun hc57 => ?_) (fun hc57 => ?_)
                            · replace h := mh_ifp hc57 h
                              refine mw_loc [1, 2, 3, 4, 5, 6, 7, 8, 0] rfl ?_
                              exact hJ55  h
                            · replace h := mh_ifn hc57 h
                              refine mw_iload dL_law_352 8 rfl ?_
                              refine mw_i2l dL_law_354 ?_
                              refine mw_ldc2 dL_law_355 wd_724 ?_
                              refine mw_aload_n dL_law_358 3 rfl ?_
                              refine mw_bipush (v := 48) dL_law_359 (by decide) ?_
                              refine mw_xlald (kx := 48) dL_law_361 hf2 (by decide) (by decide) ?_
                              refine mw_ladd dL_law_362 ?_
                              refine mw_lcmp dL_law_363 ?_
                              refine mw_if_gt (tgt := 371) dL_law_364 (by decide) (fun hc56 => ?_) (fun hc56 => ?_)
                              · replace h := mh_ifp hc56 h
                                refine mw_loc [1, 2, 3, 4, 5, 6, 7, 8, 0] rfl ?_
                                exact hJ55  h
                              · replace h := mh_ifn hc56 h
                                refine mw_iconst (v := 0) dL_law_367 (by decide) ?_
                                refine mw_goto (tgt := 391) dL_law_368 (by decide) ?_
                                refine mw_loc [1, 2, 3, 4, 5, 6, 7, 8, 0] rfl ?_
                                exact hJ54 _ h
                        · replace h := mh_ifp hc59 h
                          refine mw_iconst (v := -1) dL_law_341 (by decide) ?_
                          refine mw_goto (tgt := 391) dL_law_342 (by decide) ?_
                          refine mw_loc [1, 2, 3, 4, 5, 6, 7, 8, 0] rfl ?_
                          exact hJ54 _ h
                    · refine mw_if_ge (tgt := 322) dL_law_315 (by decide) (fun hc52 => ?_) (fun hc52 => ?_)
                      · replace h := mh_ifp hc52 h
                        refine mw_bipush (v := 24) dL_law_322 (by decide) ?_
                        refine mw_bipush (v := 8) dL_law_324 (by decide) ?_
                        refine mw_iload dL_law_326 9 rfl ?_
                        refine mw_isub dL_law_328 ?_
                        refine mw_imul dL_law_329 ?_
                        refine mw_loc [0, 1, 2, 3, 4, 5, 6, 10] rfl ?_
                        exact hJ51 _ h
                      · replace h := mh_ifn hc52 h
                        refine mw_iconst (v := 0) dL_law_318 (by decide) ?_
                        refine mw_goto (tgt := 330) dL_law_319 (by decide) ?_
                        refine mw_loc [0, 1, 2, 3, 4, 5, 6, 10] rfl ?_
                        exact hJ51 _ h
                  · replace h := mh_ifn hc70 h
                    refine mw_iconst (v := 0) dL_law_311 (by decide) ?_
                    obtain rfl := Option.some.inj h
                    exact mw_zret dL_law_312 rfl (Or.inl rfl) hcs.1 hcs.2 rfl
      · refine mw_if_ne (tgt := 58) dL_law_51 (by decide) (fun hc7 => ?_) (fun hc7 => ?_)
        · replace h := mh_ifn hc7 h
          refine mw_bipush (v := 47) dL_law_58 (by decide) ?_
          refine mw_iload_n dL_law_60 3 rfl ?_
          refine mw_iload dL_law_61 5 rfl ?_
          refine mw_bipush (v := 7) dL_law_63 (by decide) ?_
          refine mw_imul dL_law_65 ?_
          refine mw_iadd dL_law_66 ?_
          refine mw_bipush (v := 12) dL_law_67 (by decide) ?_
          refine mw_irem dL_law_69 (by decide) ?_
          refine mw_isub dL_law_70 ?_
          refine mw_loc [0, 1, 2, 3, 4, 5] rfl ?_
          exact hJ6 _ h
        · replace h := mh_ifp hc7 h
          refine mw_iload_n dL_law_54 3 rfl ?_
          refine mw_goto (tgt := 71) dL_law_55 (by decide) ?_
          refine mw_loc [0, 1, 2, 3, 4, 5] rfl ?_
          exact hJ6 _ h
def L_law_l488 (sc : mh_Sc) (u5 : Int32) (k516 : (Int64 → Option (Int32))) : Nat → Int64 → Int32 → Option (Int32)
  | 0, _, _ => none
  | n + 1, u6, u8 => if (8 : Int32) ≤ u8 then (k516 u6) else mh_b (u6 ||| ((1 : Int64) <<< ((((6 : Int32) * u8) + u5).toInt64 &&& 63))) (fun b81 => mh_b (u8 + (1 : Int32)) (fun b82 => (L_law_l488 sc u5 k516 n b81 b82)))
set_option maxHeartbeats 4000000 in
set_option maxRecDepth 100000 in
theorem t_L_law_l488 {sc : mh_Sc} {T : Option Nat} {ext : List mh_C} {sl : Nat} (hT : ∀ t, T = some t → t < 46) (hcs : (SHX T ++ ext).length - 0 ≤ room_1.cells ∧ sl ≤ room_1.slots) {u2 : Nat} (hf2 : (SHX T ++ ext)[u2]? = some (.inr (1, 50, mh_n))) {u3 : Int32} {u4 : Int32} {u5 : Int32} {k516 : (Int64 → Option (Int32))} {I : mh_I} {L : mh_L} {res : Int32} (n : Nat) (u6 : Int64) (u8 : Int32) (h : L_law_l488 sc u5 k516 n u6 u8 = some res) (hk516 : ∀ (u6 : Int64), k516 u6 = some res → w_L_law sc sl (SHX T ++ ext) (mh_ans res) I L 516 [(0, .ref 1040), (1, .ref 0), (2, .ref u2), (3, .int u3), (4, .int u4), (5, .int u5), (6, .long u6)] []) : w_L_law sc sl (SHX T ++ ext) (mh_ans res) I L 488 [(0, .ref 1040), (1, .ref 0), (2, .ref u2), (3, .int u3), (4, .int u4), (5, .int u5), (6, .long u6), (8, .int u8)] [] := by
  induction n generalizing u6 u8 with
  | zero => rw [L_law_l488] at h; cases h
  | succ n ih =>
    rw [L_law_l488] at h
    refine mw_iload dL_law_488 7 rfl ?_
    refine mw_bipush (v := 8) dL_law_490 (by decide) ?_
    refine mw_icmp_ge (tgt := 516) dL_law_492 (by decide) (fun hc83 => ?_) (fun hc83 => ?_)
    · replace h := mh_ifp hc83 h
      refine mw_loc [0, 1, 2, 3, 4, 5, 6] rfl ?_
      exact hk516 _ h
    · replace h := mh_ifn hc83 h
      refine mw_lload dL_law_495 6 rfl ?_
      refine mw_lconst (v := 1) dL_law_497 (by decide) ?_
      refine mw_bipush (v := 6) dL_law_498 (by decide) ?_
      refine mw_iload dL_law_500 7 rfl ?_
      refine mw_imul dL_law_502 ?_
      refine mw_iload dL_law_503 5 rfl ?_
      refine mw_iadd dL_law_505 ?_
      refine mw_lshl dL_law_506 ?_
      refine mw_lor dL_law_507 ?_
      obtain ⟨b81, eb81, h⟩ := mh_b_some h
      refine mw_nml eb81 ?_
      refine mw_lstore dL_law_508 (by decide) rfl ?_
      obtain ⟨b82, eb82, h⟩ := mh_b_some h
      refine mw_iinc (v := b82) dL_law_510 7 rfl (by rw [← eb82]; rfl) (by decide) rfl ?_
      refine mw_goto (tgt := 488) dL_law_513 (by decide) ?_
      refine mw_loc [2, 3, 4, 5, 6, 7, 1, 0] rfl ?_
      exact ih _ _ h
def L_law_l532 (sc : mh_Sc) (u2 : Nat) (u5 : Int32) (L : mh_L) (k574 : (Int32 → Option (Int32))) : Nat → Int32 → Int32 → Option (Int32)
  | 0, _, _ => none
  | n + 1, u8, u9 => if (48 : Int32) ≤ u9 then (k574 u8) else mh_j (fun (s86 : Int32) => mh_b (u8 + s86) (fun b93 => mh_b (u9 + (1 : Int32)) (fun b94 => (L_law_l532 sc u2 u5 L k574 n b93 b94)))) (fun J87 => mh_j ((J87 (0 : Int32))) (fun J88 => if (mh_rem u9 (6 : Int32)) = u5 then J88 else mh_ix u9 50 (fun k89 => if (lg_cmp (L u2 k89) (0 : Int64)) < 0 then J88 else (J87 (1 : Int32)))))
set_option maxHeartbeats 4000000 in
set_option maxRecDepth 100000 in
theorem t_L_law_l532 {sc : mh_Sc} {T : Option Nat} {ext : List mh_C} {sl : Nat} (hT : ∀ t, T = some t → t < 46) (hcs : (SHX T ++ ext).length - 0 ≤ room_1.cells ∧ sl ≤ room_1.slots) {u2 : Nat} (hf2 : (SHX T ++ ext)[u2]? = some (.inr (1, 50, mh_n))) {u3 : Int32} {u4 : Int32} {u5 : Int32} {k574 : (Int32 → Option (Int32))} {I : mh_I} {L : mh_L} {res : Int32} (n : Nat) (u8 : Int32) (u9 : Int32) (h : L_law_l532 sc u2 u5 L k574 n u8 u9 = some res) (hk574 : ∀ (u8 : Int32), k574 u8 = some res → w_L_law sc sl (SHX T ++ ext) (mh_ans res) I L 574 [(1, .ref 0), (2, .ref u2), (3, .int u3), (4, .int u4), (5, .int u5), (8, .int u8)] []) : w_L_law sc sl (SHX T ++ ext) (mh_ans res) I L 532 [(1, .ref 0), (2, .ref u2), (3, .int u3), (4, .int u4), (5, .int u5), (8, .int u8), (9, .int u9)] [] := by
  induction n generalizing u8 u9 with
  | zero => rw [L_law_l532] at h; cases h
  | succ n ih =>
    rw [L_law_l532] at h
    refine mw_iload dL_law_532 6 rfl ?_
    refine mw_bipush (v := 48) dL_law_534 (by decide) ?_
    refine mw_icmp_ge (tgt := 574) dL_law_536 (by decide) (fun hc95 => ?_) (fun hc95 => ?_)
    · replace h := mh_ifp hc95 h
      refine mw_loc [0, 1, 2, 3, 4, 5] rfl ?_
      exact hk574 _ h
    · replace h := mh_ifn hc95 h
      refine mw_iload dL_law_539 5 rfl ?_
      refine mw_iload dL_law_541 6 rfl ?_
      refine mw_bipush (v := 6) dL_law_543 (by decide) ?_
      refine mw_irem dL_law_545 (by decide) ?_
      refine mw_iload dL_law_546 4 rfl ?_
      refine mh_jw (fun J87 => ∀ (s86 : Int32), J87 s86 = some res → w_L_law sc sl (SHX T ++ ext) (mh_ans res) I L 565 [(1, .ref 0), (2, .ref u2), (3, .int u3), (4, .int u4), (5, .int u5), (9, .int u9)] [.int s86, .int u8]) h (fun s86 h => ?_) (fun J87 hJ87 h => ?_)
      · refine mw_iadd dL_law_565 ?_
        obtain ⟨b93, eb93, h⟩ := mh_b_some h
        refine mw_nmi eb93 ?_
        refine mw_istore dL_law_566 (by decide) rfl ?_
        obtain ⟨b94, eb94, h⟩ := mh_b_some h
        refine mw_iinc (v := b94) dL_law_568 6 rfl (by rw [← eb94]; rfl) (by decide) rfl ?_
        refine mw_goto (tgt := 532) dL_law_571 (by decide) ?_
        refine mw_loc [2, 3, 4, 5, 6, 1, 0] rfl ?_
        exact ih _ _ h
      · refine mh_jw (fun J88 => J88 = some res → w_L_law sc sl (SHX T ++ ext) (mh_ans res) I L 564 [(1, .ref 0), (2, .ref u2), (3, .int u3), (4, .int u4), (5, .int u5), (9, .int u9)] [.int u8]) h (fun h => ?_) (fun J88 hJ88 h => ?_)
        · refine mw_iconst (v := 0) dL_law_564 (by decide) ?_
          refine mw_loc [0, 1, 2, 3, 4, 5] rfl ?_
          exact hJ87 _ h
        · refine mw_icmp_eq (tgt := 564) dL_law_548 (by decide) (fun hc92 => ?_) (fun hc92 => ?_)
          · replace h := mh_ifp hc92 h
            refine mw_loc [0, 1, 2, 3, 4, 6] rfl ?_
            exact hJ88  h
          · replace h := mh_ifn hc92 h
            refine mw_aload_n dL_law_551 1 rfl ?_
            refine mw_iload dL_law_552 6 rfl ?_
            obtain ⟨k89, hk90, hk90n, hk90l, h⟩ := mh_ix_some h
            refine mw_xlald dL_law_554 hf2 hk90 hk90n ?_
            refine mw_lconst (v := 0) dL_law_555 (by decide) ?_
            refine mw_lcmp dL_law_556 ?_
            refine mw_if_lt (tgt := 564) dL_law_557 (by decide) (fun hc91 => ?_) (fun hc91 => ?_)
            · replace h := mh_ifp hc91 h
              refine mw_loc [0, 1, 2, 3, 4, 6] rfl ?_
              exact hJ88  h
            · replace h := mh_ifn hc91 h
              refine mw_iconst (v := 1) dL_law_560 (by decide) ?_
              refine mw_goto (tgt := 565) dL_law_561 (by decide) ?_
              refine mw_loc [0, 1, 2, 3, 4, 6] rfl ?_
              exact hJ87 _ h
def L_law (sc : mh_Sc) (hh : Nat) (I : mh_I) (L : mh_L) : Option Int32 := (L_at sc (9 : Int32)).bind (fun q1 => mh_b (mh_rem (q1 &&& (63 : Int32)) (48 : Int32)) (fun b2 => (L_at sc (9 : Int32)).bind (fun q3 => mh_b (mh_rem ((q3 >>> ((6 : Int32) &&& 31)) &&& (127 : Int32)) (100 : Int32)) (fun b4 => L_law_l43 sc hh b2 b4 (fun (I77 : mh_I) (L78 : mh_L) => (L_at sc (9 : Int32)).bind (fun q79 => mh_b (mh_rem ((q79 >>> ((13 : Int32) &&& 31)) &&& (7 : Int32)) (6 : Int32)) (fun b80 => L_law_l488 sc b80 (fun (v84 : Int64) => (L_run sc hh v84 b4 (0 : Int64) L78).bind (fun q85 => L_law_l532 sc hh b80 q85 (fun (v96 : Int32) => (X5_column b80 b4 (0 : Int32) I77 q85).bind (fun q97 => if (lg_cmp (q97.1.toInt64) ((mh_mx 46 q97.2.2 q85) hh 48)) = 0 then (X5_column b80 b4 (1 : Int32) (mh_mx 46 q97.2.1 I77) (mh_mx 46 q97.2.2 q85)).bind (fun q98 => if q98.1 = v96 then (X5_pinned b2 b4 (2 : Int32) (0 : Int32) (mh_mx 46 q98.2.1 (mh_mx 46 q97.2.1 I77)) (mh_mx 46 q98.2.2 (mh_mx 46 q97.2.2 q85))).bind (fun q99 => mh_b q99.1 (fun b100 => mh_j (fun (I101 : mh_I) (L102 : mh_L) => (X5_run (48 : Int32) (0 : Int32) (0 : Int32) I101 L102).bind (fun q123 => if q123.1 = (-5 : Int32) then (X5_run (0 : Int32) (100 : Int32) (0 : Int32) (mh_mx 46 q123.2.1 I101) (mh_mx 46 q123.2.2 L102)).bind (fun q124 => if q124.1 = (-7 : Int32) then (X5_run (0 : Int32) (0 : Int32) (4 : Int32) (mh_mx 46 q124.2.1 (mh_mx 46 q123.2.1 I101)) (mh_mx 46 q124.2.2 (mh_mx 46 q123.2.2 L102))).bind (fun q125 => if q125.1 = (-7 : Int32) then (X5_goes (48 : Int32) (0 : Int32) (0 : Int32) (mh_mx 46 q125.2.1 (mh_mx 46 q124.2.1 (mh_mx 46 q123.2.1 I101))) (mh_mx 46 q125.2.2 (mh_mx 46 q124.2.2 (mh_mx 46 q123.2.2 L102)))).bind (fun q126 => if (lg_cmp q126.1 (-4611686018427387904 : Int64)) = 0 then (X5_goes (0 : Int32) (-1 : Int32) (0 : Int32) (mh_mx 46 q126.2.1 (mh_mx 46 q125.2.1 (mh_mx 46 q124.2.1 (mh_mx 46 q123.2.1 I101)))) (mh_mx 46 q126.2.2 (mh_mx 46 q125.2.2 (mh_mx 46 q124.2.2 (mh_mx 46 q123.2.2 L102))))).bind (fun q127 => if (lg_cmp q127.1 (-4611686018427387904 : Int64)) = 0 then (X5_goes (0 : Int32) (0 : Int32) (2 : Int32) (mh_mx 46 q127.2.1 (mh_mx 46 q126.2.1 (mh_mx 46 q125.2.1 (mh_mx 46 q124.2.1 (mh_mx 46 q123.2.1 I101))))) (mh_mx 46 q127.2.2 (mh_mx 46 q126.2.2 (mh_mx 46 q125.2.2 (mh_mx 46 q124.2.2 (mh_mx 46 q123.2.2 L102)))))).bind (fun q128 => if (lg_cmp q128.1 (-4611686018427387904 : Int64)) = 0 then (X5_left (0 : Int32) (0 : Int32) (48 : Int32) (mh_mx 46 q128.2.1 (mh_mx 46 q127.2.1 (mh_mx 46 q126.2.1 (mh_mx 46 q125.2.1 (mh_mx 46 q124.2.1 (mh_mx 46 q123.2.1 I101)))))) (mh_mx 46 q128.2.2 (mh_mx 46 q127.2.2 (mh_mx 46 q126.2.2 (mh_mx 46 q125.2.2 (mh_mx 46 q124.2.2 (mh_mx 46 q123.2.2 L102))))))).bind (fun q129 => if q129.1 = (-5 : Int32) then (X5_left (0 : Int32) (100 : Int32) (0 : Int32) (mh_mx 46 q129.2.1 (mh_mx 46 q128.2.1 (mh_mx 46 q127.2.1 (mh_mx 46 q126.2.1 (mh_mx 46 q125.2.1 (mh_mx 46 q124.2.1 (mh_mx 46 q123.2.1 I101))))))) (mh_mx 46 q129.2.2 (mh_mx 46 q128.2.2 (mh_mx 46 q127.2.2 (mh_mx 46 q126.2.2 (mh_mx 46 q125.2.2 (mh_mx 46 q124.2.2 (mh_mx 46 q123.2.2 L102)))))))).bind (fun q130 => if q130.1 = (-7 : Int32) then (X5_column (6 : Int32) (0 : Int32) (0 : Int32) (mh_mx 46 q130.2.1 (mh_mx 46 q129.2.1 (mh_mx 46 q128.2.1 (mh_mx 46 q127.2.1 (mh_mx 46 q126.2.1 (mh_mx 46 q125.2.1 (mh_mx 46 q124.2.1 (mh_mx 46 q123.2.1 I101)))))))) (mh_mx 46 q130.2.2 (mh_mx 46 q129.2.2 (mh_mx 46 q128.2.2 (mh_mx 46 q127.2.2 (mh_mx 46 q126.2.2 (mh_mx 46 q125.2.2 (mh_mx 46 q124.2.2 (mh_mx 46 q123.2.2 L102))))))))).bind (fun q131 => if q131.1 = (-5 : Int32) then (X5_column (0 : Int32) (100 : Int32) (0 : Int32) (mh_mx 46 q131.2.1 (mh_mx 46 q130.2.1 (mh_mx 46 q129.2.1 (mh_mx 46 q128.2.1 (mh_mx 46 q127.2.1 (mh_mx 46 q126.2.1 (mh_mx 46 q125.2.1 (mh_mx 46 q124.2.1 (mh_mx 46 q123.2.1 I101))))))))) (mh_mx 46 q131.2.2 (mh_mx 46 q130.2.2 (mh_mx 46 q129.2.2 (mh_mx 46 q128.2.2 (mh_mx 46 q127.2.2 (mh_mx 46 q126.2.2 (mh_mx 46 q125.2.2 (mh_mx 46 q124.2.2 (mh_mx 46 q123.2.2 L102)))))))))).bind (fun q132 => if q132.1 = (-7 : Int32) then (X5_column (0 : Int32) (0 : Int32) (2 : Int32) (mh_mx 46 q132.2.1 (mh_mx 46 q131.2.1 (mh_mx 46 q130.2.1 (mh_mx 46 q129.2.1 (mh_mx 46 q128.2.1 (mh_mx 46 q127.2.1 (mh_mx 46 q126.2.1 (mh_mx 46 q125.2.1 (mh_mx 46 q124.2.1 (mh_mx 46 q123.2.1 I101)))))))))) (mh_mx 46 q132.2.2 (mh_mx 46 q131.2.2 (mh_mx 46 q130.2.2 (mh_mx 46 q129.2.2 (mh_mx 46 q128.2.2 (mh_mx 46 q127.2.2 (mh_mx 46 q126.2.2 (mh_mx 46 q125.2.2 (mh_mx 46 q124.2.2 (mh_mx 46 q123.2.2 L102))))))))))).bind (fun q133 => if q133.1 = (-7 : Int32) then (X5_mending (48 : Int32) (0 : Int32) (0 : Int32) (mh_mx 46 q133.2.1 (mh_mx 46 q132.2.1 (mh_mx 46 q131.2.1 (mh_mx 46 q130.2.1 (mh_mx 46 q129.2.1 (mh_mx 46 q128.2.1 (mh_mx 46 q127.2.1 (mh_mx 46 q126.2.1 (mh_mx 46 q125.2.1 (mh_mx 46 q124.2.1 (mh_mx 46 q123.2.1 I101))))))))))) (mh_mx 46 q133.2.2 (mh_mx 46 q132.2.2 (mh_mx 46 q131.2.2 (mh_mx 46 q130.2.2 (mh_mx 46 q129.2.2 (mh_mx 46 q128.2.2 (mh_mx 46 q127.2.2 (mh_mx 46 q126.2.2 (mh_mx 46 q125.2.2 (mh_mx 46 q124.2.2 (mh_mx 46 q123.2.2 L102)))))))))))).bind (fun q134 => if q134.1 = (-5 : Int32) then (X5_mending (0 : Int32) (0 : Int32) (2 : Int32) (mh_mx 46 q134.2.1 (mh_mx 46 q133.2.1 (mh_mx 46 q132.2.1 (mh_mx 46 q131.2.1 (mh_mx 46 q130.2.1 (mh_mx 46 q129.2.1 (mh_mx 46 q128.2.1 (mh_mx 46 q127.2.1 (mh_mx 46 q126.2.1 (mh_mx 46 q125.2.1 (mh_mx 46 q124.2.1 (mh_mx 46 q123.2.1 I101)))))))))))) (mh_mx 46 q134.2.2 (mh_mx 46 q133.2.2 (mh_mx 46 q132.2.2 (mh_mx 46 q131.2.2 (mh_mx 46 q130.2.2 (mh_mx 46 q129.2.2 (mh_mx 46 q128.2.2 (mh_mx 46 q127.2.2 (mh_mx 46 q126.2.2 (mh_mx 46 q125.2.2 (mh_mx 46 q124.2.2 (mh_mx 46 q123.2.2 L102))))))))))))).bind (fun q135 => if q135.1 = (-7 : Int32) then some (1 : Int32) else some (0 : Int32)) else some (0 : Int32)) else some (0 : Int32)) else some (0 : Int32)) else some (0 : Int32)) else some (0 : Int32)) else some (0 : Int32)) else some (0 : Int32)) else some (0 : Int32)) else some (0 : Int32)) else some (0 : Int32)) else some (0 : Int32)) else some (0 : Int32))) (fun J103 => if b100 ≤ 0 then (J103 (mh_mx 46 q99.2.1 (mh_mx 46 q98.2.1 (mh_mx 46 q97.2.1 I77))) (mh_mx 46 q99.2.2 (mh_mx 46 q98.2.2 (mh_mx 46 q97.2.2 q85)))) else (X5_pinned b2 b4 (2 : Int32) (1 : Int32) (mh_mx 46 q99.2.1 (mh_mx 46 q98.2.1 (mh_mx 46 q97.2.1 I77))) (mh_mx 46 q99.2.2 (mh_mx 46 q98.2.2 (mh_mx 46 q97.2.2 q85)))).bind (fun q104 => mh_b q104.1 (fun b105 => (X5_pinned b2 b4 (2 : Int32) (2 : Int32) (mh_mx 46 q104.2.1 (mh_mx 46 q99.2.1 (mh_mx 46 q98.2.1 (mh_mx 46 q97.2.1 I77)))) (mh_mx 46 q104.2.2 (mh_mx 46 q99.2.2 (mh_mx 46 q98.2.2 (mh_mx 46 q97.2.2 q85))))).bind (fun q106 => mh_b q106.1 (fun b107 => (X5_pin b105 (1 : Int32) (mh_mx 46 q106.2.2 (mh_mx 46 q104.2.2 (mh_mx 46 q99.2.2 (mh_mx 46 q98.2.2 (mh_mx 46 q97.2.2 q85)))))).bind (fun q108 => mh_b q108.1 (fun b109 => mh_j (fun (s110 : Int32) (L111 : mh_L) => (X5_run b2 b4 (0 : Int32) (mh_mx 46 q106.2.1 (mh_mx 46 q104.2.1 (mh_mx 46 q99.2.1 (mh_mx 46 q98.2.1 (mh_mx 46 q97.2.1 I77))))) L111).bind (fun q115 => if q115.1 ≤ (2 : Int32) then mh_j (fun (L116 : mh_L) => (X5_pin b105 b109 L116).bind (fun q120 => (J103 (mh_mx 46 q115.2.1 (mh_mx 46 q106.2.1 (mh_mx 46 q104.2.1 (mh_mx 46 q99.2.1 (mh_mx 46 q98.2.1 (mh_mx 46 q97.2.1 I77)))))) (mh_mx 46 q120.2 L116)))) (fun J117 => if b107 < 0 then (J117 (mh_mx 46 q115.2.2 L111)) else (X5_pin b107 s110 (mh_mx 46 q115.2.2 L111)).bind (fun q118 => (J117 (mh_mx 46 q118.2 (mh_mx 46 q115.2.2 L111))))) else some (0 : Int32))) (fun J112 => if 0 ≤ b107 then (X5_pin b107 (1 : Int32) (mh_mx 46 q108.2 (mh_mx 46 q106.2.2 (mh_mx 46 q104.2.2 (mh_mx 46 q99.2.2 (mh_mx 46 q98.2.2 (mh_mx 46 q97.2.2 q85))))))).bind (fun q113 => (J112 q113.1 (mh_mx 46 q113.2 (mh_mx 46 q108.2 (mh_mx 46 q106.2.2 (mh_mx 46 q104.2.2 (mh_mx 46 q99.2.2 (mh_mx 46 q98.2.2 (mh_mx 46 q97.2.2 q85))))))))) else (J112 (0 : Int32) (mh_mx 46 q108.2 (mh_mx 46 q106.2.2 (mh_mx 46 q104.2.2 (mh_mx 46 q99.2.2 (mh_mx 46 q98.2.2 (mh_mx 46 q97.2.2 q85))))))))))))))))) else some (0 : Int32)) else some (0 : Int32))) mh_fuel (0 : Int32) (0 : Int32))) mh_fuel (0 : Int64) (0 : Int32)))) mh_fuel (0 : Int32) I L))))
set_option maxHeartbeats 4000000 in
set_option maxRecDepth 100000 in
theorem t_L_law {sc : mh_Sc} {T : Option Nat} {ext : List mh_C} {sl : Nat} (hT : ∀ t, T = some t → t < 46) (hcs : (SHX T ++ ext).length - 0 ≤ room_1.cells ∧ sl ≤ room_1.slots) {hh : Nat} (hf2 : (SHX T ++ ext)[hh]? = some (.inr (1, 50, mh_n))) {I : mh_I} {L : mh_L} {res : Int32} (h : L_law sc hh I L = some res) : w_L_law sc sl (SHX T ++ ext) (mh_ans res) I L 10 [(2, .ref hh), (1, .ref 0), (0, .ref 1040)] [] := by
  unfold L_law at h
  refine mw_aload_n dL_law_10 2 rfl ?_
  refine mw_bipush (v := 9) dL_law_11 (by decide) ?_
  obtain ⟨q1, hq1, h⟩ := mh_bind h
  refine mws_r (dc := 0) cs_L_58 wd_169 dL_law_13 [.ref 1040, .int (9 : Int32)] [.int (9 : Int32), .ref 1040] rfl rfl (t_L_at hq1) ⟨Nat.le_of_ble_eq_true rfl, Nat.le_of_ble_eq_true rfl⟩ (Nat.le_of_ble_eq_true rfl) hcs rfl ?_
  refine mw_bipush (v := 63) dL_law_16 (by decide) ?_
  refine mw_iand dL_law_18 ?_
  refine mw_bipush (v := 48) dL_law_19 (by decide) ?_
  refine mw_irem dL_law_21 (by decide) ?_
  obtain ⟨b2, eb2, h⟩ := mh_b_some h
  refine mw_nmi eb2 ?_
  refine mw_istore_n dL_law_22 (by decide) rfl ?_
  refine mw_aload_n dL_law_23 3 rfl ?_
  refine mw_bipush (v := 9) dL_law_24 (by decide) ?_
  obtain ⟨q3, hq3, h⟩ := mh_bind h
  refine mws_r (dc := 0) cs_L_58 wd_169 dL_law_26 [.ref 1040, .int (9 : Int32)] [.int (9 : Int32), .ref 1040] rfl rfl (t_L_at hq3) ⟨Nat.le_of_ble_eq_true rfl, Nat.le_of_ble_eq_true rfl⟩ (Nat.le_of_ble_eq_true rfl) hcs rfl ?_
  refine mw_bipush (v := 6) dL_law_29 (by decide) ?_
  refine mw_ishr dL_law_31 ?_
  refine mw_bipush (v := 127) dL_law_32 (by decide) ?_
  refine mw_iand dL_law_34 ?_
  refine mw_bipush (v := 100) dL_law_35 (by decide) ?_
  refine mw_irem dL_law_37 (by decide) ?_
  obtain ⟨b4, eb4, h⟩ := mh_b_some h
  refine mw_nmi eb4 ?_
  refine mw_istore dL_law_38 (by decide) rfl ?_
  refine mw_iconst (v := 0) dL_law_40 (by decide) ?_
  refine mw_istore dL_law_41 (by decide) rfl ?_
  refine mw_loc [5, 4, 3, 2, 1, 0] rfl ?_
  refine t_L_law_l43 hT hcs hf2 _ _ _ _ h (fun I77 L78 h => ?_)
  refine mw_aload_n dL_law_465 0 rfl ?_
  refine mw_bipush (v := 9) dL_law_466 (by decide) ?_
  obtain ⟨q79, hq79, h⟩ := mh_bind h
  refine mws_r (dc := 0) cs_L_58 wd_169 dL_law_468 [.ref 1040, .int (9 : Int32)] [.int (9 : Int32), .ref 1040] rfl rfl (t_L_at hq79) ⟨Nat.le_of_ble_eq_true rfl, Nat.le_of_ble_eq_true rfl⟩ (Nat.le_of_ble_eq_true rfl) hcs rfl ?_
  refine mw_bipush (v := 13) dL_law_471 (by decide) ?_
  refine mw_ishr dL_law_473 ?_
  refine mw_bipush (v := 7) dL_law_474 (by decide) ?_
  refine mw_iand dL_law_476 ?_
  refine mw_bipush (v := 6) dL_law_477 (by decide) ?_
  refine mw_irem dL_law_479 (by decide) ?_
  obtain ⟨b80, eb80, h⟩ := mh_b_some h
  refine mw_nmi eb80 ?_
  refine mw_istore dL_law_480 (by decide) rfl ?_
  refine mw_lconst (v := 0) dL_law_482 (by decide) ?_
  refine mw_lstore dL_law_483 (by decide) rfl ?_
  refine mw_iconst (v := 0) dL_law_485 (by decide) ?_
  refine mw_istore dL_law_486 (by decide) rfl ?_
  refine mw_loc [3, 4, 5, 6, 7, 2, 1, 0] rfl ?_
  refine t_L_law_l488 hT hcs hf2 _ _ _ h (fun v84 h => ?_)
  refine mw_aload_n dL_law_516 0 rfl ?_
  refine mw_aload_n dL_law_517 2 rfl ?_
  refine mw_lload dL_law_518 6 rfl ?_
  refine mw_iload dL_law_520 4 rfl ?_
  refine mw_lconst (v := 0) dL_law_522 (by decide) ?_
  obtain ⟨q85, hq85, h⟩ := mh_bind h
  refine mws_v (dc := 5) cs_L_123 wd_707 dL_law_523 [.ref 1040, .ref hh, .long v84, .int b4, .long (0 : Int64)] [.long (0 : Int64), .int b4, .long v84, .ref hh, .ref 1040] rfl rfl (t_L_run hf2 hq85) ⟨Nat.le_of_ble_eq_true rfl, Nat.le_of_ble_eq_true rfl⟩ (Nat.le_of_ble_eq_true rfl) hcs rfl ?_
  refine mw_iconst (v := 0) dL_law_526 (by decide) ?_
  refine mw_istore dL_law_527 (by decide) rfl ?_
  refine mw_iconst (v := 0) dL_law_529 (by decide) ?_
  refine mw_istore dL_law_530 (by decide) rfl ?_
  refine mw_loc [3, 4, 5, 6, 7, 1, 0] rfl ?_
  refine t_L_law_l532 hT hcs hf2 _ _ _ h (fun v96 h => ?_)
  refine mw_aload_n dL_law_574 0 rfl ?_
  refine mw_iload dL_law_575 4 rfl ?_
  refine mw_iload dL_law_577 3 rfl ?_
  refine mw_iconst (v := 0) dL_law_579 (by decide) ?_
  obtain ⟨q97, hq97, h⟩ := mh_bind h
  refine mwg_vr (dc := 5) (ci := 5) (fs := fsX5) (T := TX5) (N := 9) cv_L_141 wd_154 dL_law_580 [.int b80, .int b4, .int (0 : Int32)] [.int (0 : Int32), .int b4, .int b80, .ref 0] rfl rfl rfl rfl (mh_frX ext hT hT (by simp [mh_lo]) (fun v hv => by cases hv; exact trivial) (t_X5_column hq97)) ⟨Nat.le_of_ble_eq_true rfl, Nat.le_of_ble_eq_true rfl⟩ (Nat.le_of_ble_eq_true rfl) hcs rfl ?_
  refine mw_i2l dL_law_583 ?_
  refine mw_aload_n dL_law_584 1 rfl ?_
  refine mw_bipush (v := 48) dL_law_585 (by decide) ?_
  refine mw_xlald (kx := 48) dL_law_587 hf2 (by decide) (by decide) ?_
  refine mw_lcmp dL_law_588 ?_
  refine mw_if_ne (tgt := 606) dL_law_589 (by decide) (fun hc150 => ?_) (fun hc150 => ?_)
  · replace h := mh_ifn hc150 h
    refine mw_iconst (v := 0) dL_law_606 (by decide) ?_
    obtain rfl := Option.some.inj h
    exact mw_zret dL_law_607 rfl (Or.inl rfl) hcs.1 hcs.2 rfl
  · replace h := mh_ifp hc150 h
    refine mw_aload_n dL_law_592 0 rfl ?_
    refine mw_iload dL_law_593 4 rfl ?_
    refine mw_iload dL_law_595 3 rfl ?_
    refine mw_iconst (v := 1) dL_law_597 (by decide) ?_
    obtain ⟨q98, hq98, h⟩ := mh_bind h
    refine mwg_vr (dc := 5) (ci := 5) (fs := fsX5) (T := TX5) (N := 9) cv_L_141 wd_154 dL_law_598 [.int b80, .int b4, .int (1 : Int32)] [.int (1 : Int32), .int b4, .int b80, .ref 0] rfl rfl rfl rfl (mh_frX ext hT hT (by simp [mh_lo]) (fun v hv => by cases hv; exact trivial) (t_X5_column hq98)) ⟨Nat.le_of_ble_eq_true rfl, Nat.le_of_ble_eq_true rfl⟩ (Nat.le_of_ble_eq_true rfl) hcs rfl ?_
    refine mw_iload dL_law_601 5 rfl ?_
    refine mw_icmp_eq (tgt := 608) dL_law_603 (by decide) (fun hc149 => ?_) (fun hc149 => ?_)
    · replace h := mh_ifp hc149 h
      refine mw_aload_n dL_law_608 0 rfl ?_
      refine mw_iload_n dL_law_609 2 rfl ?_
      refine mw_iload dL_law_610 3 rfl ?_
      refine mw_iconst (v := 2) dL_law_612 (by decide) ?_
      refine mw_iconst (v := 0) dL_law_613 (by decide) ?_
      obtain ⟨q99, hq99, h⟩ := mh_bind h
      refine mwg_vr (dc := 6) (ci := 5) (fs := fsX5) (T := TX5) (N := 9) cv_L_144 wd_158 dL_law_614 [.int b2, .int b4, .int (2 : Int32), .int (0 : Int32)] [.int (0 : Int32), .int (2 : Int32), .int b4, .int b2, .ref 0] rfl rfl rfl rfl (mh_frX ext hT hT (by simp [mh_lo]) (fun v hv => by cases hv; exact trivial) (t_X5_pinned hq99)) ⟨Nat.le_of_ble_eq_true rfl, Nat.le_of_ble_eq_true rfl⟩ (Nat.le_of_ble_eq_true rfl) hcs rfl ?_
      obtain ⟨b100, eb100, h⟩ := mh_b_some h
      refine mw_nmi eb100 ?_
      refine mw_istore dL_law_617 (by decide) rfl ?_
      refine mw_iload dL_law_619 0 rfl ?_
      refine mh_jw (fun J103 => ∀ (I101 : mh_I) (L102 : mh_L), J103 I101 L102 = some res → w_L_law sc sl (SHX T ++ ext) (mh_ans res) I101 L102 710 [(1, .ref 0)] []) h (fun I101 L102 h => ?_) (fun J103 hJ103 h => ?_)
      · refine mw_aload_n dL_law_710 0 rfl ?_
        refine mw_bipush (v := 48) dL_law_711 (by decide) ?_
        refine mw_iconst (v := 0) dL_law_713 (by decide) ?_
        refine mw_iconst (v := 0) dL_law_714 (by decide) ?_
        obtain ⟨q123, hq123, h⟩ := mh_bind h
        refine mwg_vr (dc := 6) (ci := 5) (fs := fsX5) (T := TX5) (N := 9) cv_L_134 wd_39 dL_law_715 [.int (48 : Int32), .int (0 : Int32), .int (0 : Int32)] [.int (0 : Int32), .int (0 : Int32), .int (48 : Int32), .ref 0] rfl rfl rfl rfl (mh_frX ext hT hT (by simp [mh_lo]) (fun v hv => by cases hv; exact trivial) (t_X5_run hq123)) ⟨Nat.le_of_ble_eq_true rfl, Nat.le_of_ble_eq_true rfl⟩ (Nat.le_of_ble_eq_true rfl) hcs rfl ?_
        refine mw_bipush (v := -5) dL_law_718 (by decide) ?_
        refine mw_icmp_ne (tgt := 884) dL_law_720 (by decide) (fun hc148 => ?_) (fun hc148 => ?_)
        · replace h := mh_ifn hc148 h
          refine mw_iconst (v := 0) dL_law_884 (by decide) ?_
          obtain rfl := Option.some.inj h
          exact mw_zret dL_law_885 rfl (Or.inl rfl) hcs.1 hcs.2 rfl
        · replace h := mh_ifp hc148 h
          refine mw_aload_n dL_law_723 0 rfl ?_
          refine mw_iconst (v := 0) dL_law_724 (by decide) ?_
          refine mw_bipush (v := 100) dL_law_725 (by decide) ?_
          refine mw_iconst (v := 0) dL_law_727 (by decide) ?_
          obtain ⟨q124, hq124, h⟩ := mh_bind h
          refine mwg_vr (dc := 6) (ci := 5) (fs := fsX5) (T := TX5) (N := 9) cv_L_134 wd_39 dL_law_728 [.int (0 : Int32), .int (100 : Int32), .int (0 : Int32)] [.int (0 : Int32), .int (100 : Int32), .int (0 : Int32), .ref 0] rfl rfl rfl rfl (mh_frX ext hT hT (by simp [mh_lo]) (fun v hv => by cases hv; exact trivial) (t_X5_run hq124)) ⟨Nat.le_of_ble_eq_true rfl, Nat.le_of_ble_eq_true rfl⟩ (Nat.le_of_ble_eq_true rfl) hcs rfl ?_
          refine mw_bipush (v := -7) dL_law_731 (by decide) ?_
          refine mw_icmp_ne (tgt := 884) dL_law_733 (by decide) (fun hc147 => ?_) (fun hc147 => ?_)
          · replace h := mh_ifn hc147 h
            refine mw_iconst (v := 0) dL_law_884 (by decide) ?_
            obtain rfl := Option.some.inj h
            exact mw_zret dL_law_885 rfl (Or.inl rfl) hcs.1 hcs.2 rfl
          · replace h := mh_ifp hc147 h
            refine mw_aload_n dL_law_736 0 rfl ?_
            refine mw_iconst (v := 0) dL_law_737 (by decide) ?_
            refine mw_iconst (v := 0) dL_law_738 (by decide) ?_
            refine mw_iconst (v := 4) dL_law_739 (by decide) ?_
            obtain ⟨q125, hq125, h⟩ := mh_bind h
            refine mwg_vr (dc := 6) (ci := 5) (fs := fsX5) (T := TX5) (N := 9) cv_L_134 wd_39 dL_law_740 [.int (0 : Int32), .int (0 : Int32), .int (4 : Int32)] [.int (4 : Int32), .int (0 : Int32), .int (0 : Int32), .ref 0] rfl rfl rfl rfl (mh_frX ext hT hT (by simp [mh_lo]) (fun v hv => by cases hv; exact trivial) (t_X5_run hq125)) ⟨Nat.le_of_ble_eq_true rfl, Nat.le_of_ble_eq_true rfl⟩ (Nat.le_of_ble_eq_true rfl) hcs rfl ?_
            refine mw_bipush (v := -7) dL_law_743 (by decide) ?_
            refine mw_icmp_ne (tgt := 884) dL_law_745 (by decide) (fun hc146 => ?_) (fun hc146 => ?_)
            · replace h := mh_ifn hc146 h
              refine mw_iconst (v := 0) dL_law_884 (by decide) ?_
              obtain rfl := Option.some.inj h
              exact mw_zret dL_law_885 rfl (Or.inl rfl) hcs.1 hcs.2 rfl
            · replace h := mh_ifp hc146 h
              refine mw_aload_n dL_law_748 0 rfl ?_
              refine mw_bipush (v := 48) dL_law_749 (by decide) ?_
              refine mw_iconst (v := 0) dL_law_751 (by decide) ?_
              refine mw_iconst (v := 0) dL_law_752 (by decide) ?_
              obtain ⟨q126, hq126, h⟩ := mh_bind h
              refine mwg_vr (dc := 6) (ci := 5) (fs := fsX5) (T := TX5) (N := 9) cv_L_130 wd_145 dL_law_753 [.int (48 : Int32), .int (0 : Int32), .int (0 : Int32)] [.int (0 : Int32), .int (0 : Int32), .int (48 : Int32), .ref 0] rfl rfl rfl rfl (mh_frX ext hT hT (by simp [mh_lo]) (fun v hv => by cases hv; exact trivial) (t_X5_goes hq126)) ⟨Nat.le_of_ble_eq_true rfl, Nat.le_of_ble_eq_true rfl⟩ (Nat.le_of_ble_eq_true rfl) hcs rfl ?_
              refine mw_ldc2 dL_law_756 wd_725 ?_
              refine mw_lcmp dL_law_759 ?_
              refine mw_if_ne (tgt := 884) dL_law_760 (by decide) (fun hc145 => ?_) (fun hc145 => ?_)
              · replace h := mh_ifn hc145 h
                refine mw_iconst (v := 0) dL_law_884 (by decide) ?_
                obtain rfl := Option.some.inj h
                exact mw_zret dL_law_885 rfl (Or.inl rfl) hcs.1 hcs.2 rfl
              · replace h := mh_ifp hc145 h
                refine mw_aload_n dL_law_763 0 rfl ?_
                refine mw_iconst (v := 0) dL_law_764 (by decide) ?_
                refine mw_iconst (v := -1) dL_law_765 (by decide) ?_
                refine mw_iconst (v := 0) dL_law_766 (by decide) ?_
                obtain ⟨q127, hq127, h⟩ := mh_bind h
                refine mwg_vr (dc := 6) (ci := 5) (fs := fsX5) (T := TX5) (N := 9) cv_L_130 wd_145 dL_law_767 [.int (0 : Int32), .int (-1 : Int32), .int (0 : Int32)] [.int (0 : Int32), .int (-1 : Int32), .int (0 : Int32), .ref 0] rfl rfl rfl rfl (mh_frX ext hT hT (by simp [mh_lo]) (fun v hv => by cases hv; exact trivial) (t_X5_goes hq127)) ⟨Nat.le_of_ble_eq_true rfl, Nat.le_of_ble_eq_true rfl⟩ (Nat.le_of_ble_eq_true rfl) hcs rfl ?_
                refine mw_ldc2 dL_law_770 wd_725 ?_
                refine mw_lcmp dL_law_773 ?_
                refine mw_if_ne (tgt := 884) dL_law_774 (by decide) (fun hc144 => ?_) (fun hc144 => ?_)
                · replace h := mh_ifn hc144 h
                  refine mw_iconst (v := 0) dL_law_884 (by decide) ?_
                  obtain rfl := Option.some.inj h
                  exact mw_zret dL_law_885 rfl (Or.inl rfl) hcs.1 hcs.2 rfl
                · replace h := mh_ifp hc144 h
                  refine mw_aload_n dL_law_777 0 rfl ?_
                  refine mw_iconst (v := 0) dL_law_778 (by decide) ?_
                  refine mw_iconst (v := 0) dL_law_779 (by decide) ?_
                  refine mw_iconst (v := 2) dL_law_780 (by decide) ?_
                  obtain ⟨q128, hq128, h⟩ := mh_bind h
                  refine mwg_vr (dc := 6) (ci := 5) (fs := fsX5) (T := TX5) (N := 9) cv_L_130 wd_145 dL_law_781 [.int (0 : Int32), .int (0 : Int32), .int (2 : Int32)] [.int (2 : Int32), .int (0 : Int32), .int (0 : Int32), .ref 0] rfl rfl rfl rfl (mh_frX ext hT hT (by simp [mh_lo]) (fun v hv => by cases hv; exact trivial) (t_X5_goes hq128)) ⟨Nat.le_of_ble_eq_true rfl, Nat.le_of_ble_eq_true rfl⟩ (Nat.le_of_ble_eq_true rfl) hcs rfl ?_
                  refine mw_ldc2 dL_law_784 wd_725 ?_
                  refine mw_lcmp dL_law_787 ?_
                  refine mw_if_ne (tgt := 884) dL_law_788 (by decide) (fun hc143 => ?_) (fun hc143 => ?_)
                  · replace h := mh_ifn hc143 h
                    refine mw_iconst (v := 0) dL_law_884 (by decide) ?_
                    obtain rfl := Option.some.inj h
                    exact mw_zret dL_law_885 rfl (Or.inl rfl) hcs.1 hcs.2 rfl
                  · replace h := mh_ifp hc143 h
                    refine mw_aload_n dL_law_791 0 rfl ?_
                    refine mw_iconst (v := 0) dL_law_792 (by decide) ?_
                    refine mw_iconst (v := 0) dL_law_793 (by decide) ?_
                    refine mw_bipush (v := 48) dL_law_794 (by decide) ?_
                    obtain ⟨q129, hq129, h⟩ := mh_bind h
                    refine mwg_vr (dc := 6) (ci := 5) (fs := fsX5) (T := TX5) (N := 9) cv_L_127 wd_150 dL_law_796 [.int (0 : Int32), .int (0 : Int32), .int (48 : Int32)] [.int (48 : Int32), .int (0 : Int32), .int (0 : Int32), .ref 0] rfl rfl rfl rfl (mh_frX ext hT hT (by simp [mh_lo]) (fun v hv => by cases hv; exact trivial) (t_X5_left hq129)) ⟨Nat.le_of_ble_eq_true rfl, Nat.le_of_ble_eq_true rfl⟩ (Nat.le_of_ble_eq_true rfl) hcs rfl ?_
                    refine mw_bipush (v := -5) dL_law_799 (by decide) ?_
                    refine mw_icmp_ne (tgt := 884) dL_law_801 (by decide) (fun hc142 => ?_) (fun hc142 => ?_)
                    · replace h := mh_ifn hc142 h
                      refine mw_iconst (v := 0) dL_law_884 (by decide) ?_
                      obtain rfl := Option.some.inj h
                      exact mw_zret dL_law_885 rfl (Or.inl rfl) hcs.1 hcs.2 rfl
                    · replace h := mh_ifp hc142 h
                      refine mw_aload_n dL_law_804 0 rfl ?_
                      refine mw_iconst (v := 0) dL_law_805 (by decide) ?_
                      refine mw_bipush (v := 100) dL_law_806 (by decide) ?_
                      refine mw_iconst (v := 0) dL_law_808 (by decide) ?_
                      obtain ⟨q130, hq130, h⟩ := mh_bind h
                      refine mwg_vr (dc := 6) (ci := 5) (fs := fsX5) (T := TX5) (N := 9) cv_L_127 wd_150 dL_law_809 [.int (0 : Int32), .int (100 : Int32), .int (0 : Int32)] [.int (0 : Int32), .int (100 : Int32), .int (0 : Int32), .ref 0] rfl rfl rfl rfl (mh_frX ext hT hT (by simp [mh_lo]) (fun v hv => by cases hv; exact trivial) (t_X5_left hq130)) ⟨Nat.le_of_ble_eq_true rfl, Nat.le_of_ble_eq_true rfl⟩ (Nat.le_of_ble_eq_true rfl) hcs rfl ?_
                      refine mw_bipush (v := -7) dL_law_812 (by decide) ?_
                      refine mw_icmp_ne (tgt := 884) dL_law_814 (by decide) (fun hc141 => ?_) (fun hc141 => ?_)
                      · replace h := mh_ifn hc141 h
                        refine mw_iconst (v := 0) dL_law_884 (by decide) ?_
                        obtain rfl := Option.some.inj h
                        exact mw_zret dL_law_885 rfl (Or.inl rfl) hcs.1 hcs.2 rfl
                      · replace h := mh_ifp hc141 h
                        refine mw_aload_n dL_law_817 0 rfl ?_
                        refine mw_bipush (v := 6) dL_law_818 (by decide) ?_
                        refine mw_iconst (v := 0) dL_law_820 (by decide) ?_
                        refine mw_iconst (v := 0) dL_law_821 (by decide) ?_
                        obtain ⟨q131, hq131, h⟩ := mh_bind h
                        refine mwg_vr (dc := 5) (ci := 5) (fs := fsX5) (T := TX5) (N := 9) cv_L_141 wd_154 dL_law_822 [.int (6 : Int32), .int (0 : Int32), .int (0 : Int32)] [.int (0 : Int32), .int (0 : Int32), .int (6 : Int32), .ref 0] rfl rfl rfl rfl (mh_frX ext hT hT (by simp [mh_lo]) (fun v hv => by cases hv; exact trivial) (t_X5_column hq131)) ⟨Nat.le_of_ble_eq_true rfl, Nat.le_of_ble_eq_true rfl⟩ (Nat.le_of_ble_eq_true rfl) hcs rfl ?_
                        refine mw_bipush (v := -5) dL_law_825 (by decide) ?_
                        refine mw_icmp_ne (tgt := 884) dL_law_827 (by decide) (fun hc140 => ?_) (fun hc140 => ?_)
                        · replace h := mh_ifn hc140 h
                          refine mw_iconst (v := 0) dL_law_884 (by decide) ?_
                          obtain rfl := Option.some.inj h
                          exact mw_zret dL_law_885 rfl (Or.inl rfl) hcs.1 hcs.2 rfl
                        · replace h := mh_ifp hc140 h
                          refine mw_aload_n dL_law_830 0 rfl ?_
                          refine mw_iconst (v := 0) dL_law_831 (by decide) ?_
                          refine mw_bipush (v := 100) dL_law_832 (by decide) ?_
                          refine mw_iconst (v := 0) dL_law_834 (by decide) ?_
                          obtain ⟨q132, hq132, h⟩ := mh_bind h
                          refine mwg_vr (dc := 5) (ci := 5) (fs := fsX5) (T := TX5) (N := 9) cv_L_141 wd_154 dL_law_835 [.int (0 : Int32), .int (100 : Int32), .int (0 : Int32)] [.int (0 : Int32), .int (100 : Int32), .int (0 : Int32), .ref 0] rfl rfl rfl rfl (mh_frX ext hT hT (by simp [mh_lo]) (fun v hv => by cases hv; exact trivial) (t_X5_column hq132)) ⟨Nat.le_of_ble_eq_true rfl, Nat.le_of_ble_eq_true rfl⟩ (Nat.le_of_ble_eq_true rfl) hcs rfl ?_
                          refine mw_bipush (v := -7) dL_law_838 (by decide) ?_
                          refine mw_icmp_ne (tgt := 884) dL_law_840 (by decide) (fun hc139 => ?_) (fun hc139 => ?_)
                          · replace h := mh_ifn hc139 h
                            refine mw_iconst (v := 0) dL_law_884 (by decide) ?_
                            obtain rfl := Option.some.inj h
                            exact mw_zret dL_law_885 rfl (Or.inl rfl) hcs.1 hcs.2 rfl
                          · replace h := mh_ifp hc139 h
                            refine mw_aload_n dL_law_843 0 rfl ?_
                            refine mw_iconst (v := 0) dL_law_844 (by decide) ?_
                            refine mw_iconst (v := 0) dL_law_845 (by decide) ?_
                            refine mw_iconst (v := 2) dL_law_846 (by decide) ?_
                            obtain ⟨q133, hq133, h⟩ := mh_bind h
                            refine mwg_vr (dc := 5) (ci := 5) (fs := fsX5) (T := TX5) (N := 9) cv_L_141 wd_154 dL_law_847 [.int (0 : Int32), .int (0 : Int32), .int (2 : Int32)] [.int (2 : Int32), .int (0 : Int32), .int (0 : Int32), .ref 0] rfl rfl rfl rfl (mh_frX ext hT hT (by simp [mh_lo]) (fun v hv => by cases hv; exact trivial) (t_X5_column hq133)) ⟨Nat.le_of_ble_eq_true rfl, Nat.le_of_ble_eq_true rfl⟩ (Nat.le_of_ble_eq_true rfl) hcs rfl ?_
                            refine mw_bipush (v := -7) dL_law_850 (by decide) ?_
                            refine mw_icmp_ne (tgt := 884) dL_law_852 (by decide) (fun hc138 => ?_) (fun hc138 => ?_)
                            · replace h := mh_ifn hc138 h
                              refine mw_iconst (v := 0) dL_law_884 (by decide) ?_
                              obtain rfl := Option.some.inj h
                              exact mw_zret dL_law_885 rfl (Or.inl rfl) hcs.1 hcs.2 rfl
                            · replace h := mh_ifp hc138 h
                              refine mw_aload_n dL_law_855 0 rfl ?_
                              refine mw_bipush (v := 48) dL_law_856 (by decide) ?_
                              refine mw_iconst (v := 0) dL_law_858 (by decide) ?_
                              refine mw_iconst (v := 0) dL_law_859 (by decide) ?_
                              obtain ⟨q134, hq134, h⟩ := mh_bind h
                              refine mwg_vr (dc := 6) (ci := 5) (fs := fsX5) (T := TX5) (N := 9) cv_L_138 wd_166 dL_law_860 [.int (48 : Int32), .int (0 : Int32), .int (0 : Int32)] [.int (0 : Int32), .int (0 : Int32), .int (48 : Int32), .ref 0] rfl rfl rfl rfl (mh_frX ext hT hT (by simp [mh_lo]) (fun v hv => by cases hv; exact trivial) (t_X5_mending hq134)) ⟨Nat.le_of_ble_eq_true rfl, Nat.le_of_ble_eq_true rfl⟩ (Nat.le_of_ble_eq_true rfl) hcs rfl ?_
                              refine mw_bipush (v := -5) dL_law_863 (by decide) ?_
                              refine mw_icmp_ne (tgt := 884) dL_law_865 (by decide) (fun hc137 => ?_) (fun hc137 => ?_)
                              · replace h := mh_ifn hc137 h
                                refine mw_iconst (v := 0) dL_law_884 (by decide) ?_
                                obtain rfl := Option.some.inj h
                                exact mw_zret dL_law_885 rfl (Or.inl rfl) hcs.1 hcs.2 rfl
                              · replace h := mh_ifp hc137 h
                                refine mw_aload_n dL_law_868 0 rfl ?_
                                refine mw_iconst (v := 0) dL_law_869 (by decide) ?_
                                refine mw_iconst (v := 0) dL_law_870 (by decide) ?_
                                refine mw_iconst (v := 2) dL_law_871 (by decide) ?_
                                obtain ⟨q135, hq135, h⟩ := mh_bind h
                                refine mwg_vr (dc := 6) (ci := 5) (fs := fsX5) (T := TX5) (N := 9) cv_L_138 wd_166 dL_law_872 [.int (0 : Int32), .int (0 : Int32), .int (2 : Int32)] [.int (2 : Int32), .int (0 : Int32), .int (0 : Int32), .ref 0] rfl rfl rfl rfl (mh_frX ext hT hT (by simp [mh_lo]) (fun v hv => by cases hv; exact trivial) (t_X5_mending hq135)) ⟨Nat.le_of_ble_eq_true rfl, Nat.le_of_ble_eq_true rfl⟩ (Nat.le_of_ble_eq_true rfl) hcs rfl ?_
                                refine mw_bipush (v := -7) dL_law_875 (by decide) ?_
                                refine mw_icmp_ne (tgt := 884) dL_law_877 (by decide) (fun hc136 => ?_) (fun hc136 => ?_)
                                · replace h := mh_ifn hc136 h
                                  refine mw_iconst (v := 0) dL_law_884 (by decide) ?_
                                  obtain rfl := Option.some.inj h
                                  exact mw_zret dL_law_885 rfl (Or.inl rfl) hcs.1 hcs.2 rfl
                                · replace h := mh_ifp hc136 h
                                  refine mw_iconst (v := 1) dL_law_880 (by decide) ?_
                                  refine mw_goto (tgt := 885) dL_law_881 (by decide) ?_
                                  obtain rfl := Option.some.inj h
                                  exact mw_zret dL_law_885 rfl (Or.inr rfl) hcs.1 hcs.2 rfl
      · refine mw_if_le (tgt := 710) dL_law_621 (by decide) (fun hc122 => ?_) (fun hc122 => ?_)
        · replace h := mh_ifp hc122 h
          refine mw_loc [1] rfl ?_
          exact hJ103 _ _ h
        · replace h := mh_ifn hc122 h
          refine mw_aload_n dL_law_624 1 rfl ?_
          refine mw_iload_n dL_law_625 3 rfl ?_
          refine mw_iload dL_law_626 4 rfl ?_
          refine mw_iconst (v := 2) dL_law_628 (by decide) ?_
          refine mw_iconst (v := 1) dL_law_629 (by decide) ?_
          obtain ⟨q104, hq104, h⟩ := mh_bind h
          refine mwg_vr (dc := 6) (ci := 5) (fs := fsX5) (T := TX5) (N := 9) cv_L_144 wd_158 dL_law_630 [.int b2, .int b4, .int (2 : Int32), .int (1 : Int32)] [.int (1 : Int32), .int (2 : Int32), .int b4, .int b2, .ref 0] rfl rfl rfl rfl (mh_frX ext hT hT (by simp [mh_lo]) (fun v hv => by cases hv; exact trivial) (t_X5_pinned hq104)) ⟨Nat.le_of_ble_eq_true rfl, Nat.le_of_ble_eq_true rfl⟩ (Nat.le_of_ble_eq_true rfl) hcs rfl ?_
          obtain ⟨b105, eb105, h⟩ := mh_b_some h
          refine mw_nmi eb105 ?_
          refine mw_istore dL_law_633 (by decide) rfl ?_
          refine mw_aload_n dL_law_635 2 rfl ?_
          refine mw_iload_n dL_law_636 4 rfl ?_
          refine mw_iload dL_law_637 5 rfl ?_
          refine mw_iconst (v := 2) dL_law_639 (by decide) ?_
          refine mw_iconst (v := 2) dL_law_640 (by decide) ?_
          obtain ⟨q106, hq106, h⟩ := mh_bind h
          refine mwg_vr (dc := 6) (ci := 5) (fs := fsX5) (T := TX5) (N := 9) cv_L_144 wd_158 dL_law_641 [.int b2, .int b4, .int (2 : Int32), .int (2 : Int32)] [.int (2 : Int32), .int (2 : Int32), .int b4, .int b2, .ref 0] rfl rfl rfl rfl (mh_frX ext hT hT (by simp [mh_lo]) (fun v hv => by cases hv; exact trivial) (t_X5_pinned hq106)) ⟨Nat.le_of_ble_eq_true rfl, Nat.le_of_ble_eq_true rfl⟩ (Nat.le_of_ble_eq_true rfl) hcs rfl ?_
          obtain ⟨b107, eb107, h⟩ := mh_b_some h
          refine mw_nmi eb107 ?_
          refine mw_istore dL_law_644 (by decide) rfl ?_
          refine mw_aload_n dL_law_646 3 rfl ?_
          refine mw_iload dL_law_647 1 rfl ?_
          refine mw_iconst (v := 1) dL_law_649 (by decide) ?_
          obtain ⟨q108, hq108, h⟩ := mh_bind h
          refine mwg_vr (dc := 2) (ci := 5) (fs := fsX5) (T := TX5) (N := 9) cv_L_41 wd_22 dL_law_650 [.int b105, .int (1 : Int32)] [.int (1 : Int32), .int b105, .ref 0] rfl rfl rfl rfl (mh_frXL ext hT hT (by simp [mh_lo]) (fun v hv => by cases hv; exact trivial) (t_X5_pin hq108)) ⟨Nat.le_of_ble_eq_true rfl, Nat.le_of_ble_eq_true rfl⟩ (Nat.le_of_ble_eq_true rfl) hcs rfl ?_
          obtain ⟨b109, eb109, h⟩ := mh_b_some h
          refine mw_nmi eb109 ?_
          refine mw_istore dL_law_653 (by decide) rfl ?_
          refine mw_iload dL_law_655 1 rfl ?_
          refine mh_jw (fun J112 => ∀ (s110 : Int32) (L111 : mh_L), J112 s110 L111 = some res → w_L_law sc sl (SHX T ++ ext) (mh_ans res) (mh_mx 46 q106.2.1 (mh_mx 46 q104.2.1 (mh_mx 46 q99.2.1 (mh_mx 46 q98.2.1 (mh_mx 46 q97.2.1 I77))))) L111 671 [(1, .ref 0), (3, .int b2), (4, .int b4), (10, .int b105), (11, .int b107), (12, .int b109)] [.int s110]) h (fun s110 L111 h => ?_) (fun J112 hJ112 h => ?_)
          · refine mw_istore dL_law_671 (by decide) rfl ?_
            refine mw_aload_n dL_law_673 1 rfl ?_
            refine mw_iload_n dL_law_674 2 rfl ?_
            refine mw_iload dL_law_675 3 rfl ?_
            refine mw_iconst (v := 0) dL_law_677 (by decide) ?_
            obtain ⟨q115, hq115, h⟩ := mh_bind h
            refine mwg_vr (dc := 6) (ci := 5) (fs := fsX5) (T := TX5) (N := 9) cv_L_134 wd_39 dL_law_678 [.int b2, .int b4, .int (0 : Int32)] [.int (0 : Int32), .int b4, .int b2, .ref 0] rfl rfl rfl rfl (mh_frX ext hT hT (by simp [mh_lo]) (fun v hv => by cases hv; exact trivial) (t_X5_run hq115)) ⟨Nat.le_of_ble_eq_true rfl, Nat.le_of_ble_eq_true rfl⟩ (Nat.le_of_ble_eq_true rfl) hcs rfl ?_
            refine mw_iconst (v := 2) dL_law_681 (by decide) ?_
            refine mw_icmp_le (tgt := 687) dL_law_682 (by decide) (fun hc121 => ?_) (fun hc121 => ?_)
            · replace h := mh_ifp hc121 h
              refine mw_iload dL_law_687 5 rfl ?_
              refine mh_jw (fun J117 => ∀ (L116 : mh_L), J117 L116 = some res → w_L_law sc sl (SHX T ++ ext) (mh_ans res) (mh_mx 46 q115.2.1 (mh_mx 46 q106.2.1 (mh_mx 46 q104.2.1 (mh_mx 46 q99.2.1 (mh_mx 46 q98.2.1 (mh_mx 46 q97.2.1 I77)))))) L116 701 [(1, .ref 0), (10, .int b105), (12, .int b109)] []) h (fun L116 h => ?_) (fun J117 hJ117 h => ?_)
              · refine mw_aload_n dL_law_701 0 rfl ?_
                refine mw_iload dL_law_702 1 rfl ?_
                refine mw_iload dL_law_704 2 rfl ?_
                obtain ⟨q120, hq120, h⟩ := mh_bind h
                refine mwg_vr (dc := 2) (ci := 5) (fs := fsX5) (T := TX5) (N := 9) cv_L_41 wd_22 dL_law_706 [.int b105, .int b109] [.int b109, .int b105, .ref 0] rfl rfl rfl rfl (mh_frXL ext hT hT (by simp [mh_lo]) (fun v hv => by cases hv; exact trivial) (t_X5_pin hq120)) ⟨Nat.le_of_ble_eq_true rfl, Nat.le_of_ble_eq_true rfl⟩ (Nat.le_of_ble_eq_true rfl) hcs rfl ?_
                refine mw_pop dL_law_709 rfl ?_
                refine mw_loc [0] rfl ?_
                exact hJ103 _ _ h
              · refine mw_if_lt (tgt := 701) dL_law_689 (by decide) (fun hc119 => ?_) (fun hc119 => ?_)
                · replace h := mh_ifp hc119 h
                  refine mw_loc [1, 4, 6] rfl ?_
                  exact hJ117 _ h
                · replace h := mh_ifn hc119 h
                  refine mw_aload_n dL_law_692 1 rfl ?_
                  refine mw_iload dL_law_693 5 rfl ?_
                  refine mw_iload dL_law_695 0 rfl ?_
                  obtain ⟨q118, hq118, h⟩ := mh_bind h
                  refine mwg_vr (dc := 2) (ci := 5) (fs := fsX5) (T := TX5) (N := 9) cv_L_41 wd_22 dL_law_697 [.int b107, .int s110] [.int s110, .int b107, .ref 0] rfl rfl rfl rfl (mh_frXL ext hT hT (by simp [mh_lo]) (fun v hv => by cases hv; exact trivial) (t_X5_pin hq118)) ⟨Nat.le_of_ble_eq_true rfl, Nat.le_of_ble_eq_true rfl⟩ (Nat.le_of_ble_eq_true rfl) hcs rfl ?_
                  refine mw_pop dL_law_700 rfl ?_
                  refine mw_loc [1, 4, 6] rfl ?_
                  exact hJ117 _ h
            · replace h := mh_ifn hc121 h
              refine mw_iconst (v := 0) dL_law_685 (by decide) ?_
              obtain rfl := Option.some.inj h
              exact mw_zret dL_law_686 rfl (Or.inl rfl) hcs.1 hcs.2 rfl
          · refine mw_if_ge (tgt := 664) dL_law_657 (by decide) (fun hc114 => ?_) (fun hc114 => ?_)
            · replace h := mh_ifp hc114 h
              refine mw_aload_n dL_law_664 4 rfl ?_
              refine mw_iload dL_law_665 1 rfl ?_
              refine mw_iconst (v := 1) dL_law_667 (by decide) ?_
              obtain ⟨q113, hq113, h⟩ := mh_bind h
              refine mwg_vr (dc := 2) (ci := 5) (fs := fsX5) (T := TX5) (N := 9) cv_L_41 wd_22 dL_law_668 [.int b107, .int (1 : Int32)] [.int (1 : Int32), .int b107, .ref 0] rfl rfl rfl rfl (mh_frXL ext hT hT (by simp [mh_lo]) (fun v hv => by cases hv; exact trivial) (t_X5_pin hq113)) ⟨Nat.le_of_ble_eq_true rfl, Nat.le_of_ble_eq_true rfl⟩ (Nat.le_of_ble_eq_true rfl) hcs rfl ?_
              refine mw_loc [4, 6, 7, 2, 1, 0] rfl ?_
              exact hJ112 _ _ h
            · replace h := mh_ifn hc114 h
              refine mw_iconst (v := 0) dL_law_660 (by decide) ?_
              refine mw_goto (tgt := 671) dL_law_661 (by decide) ?_
              refine mw_loc [4, 6, 7, 2, 1, 0] rfl ?_
              exact hJ112 _ _ h
    · replace h := mh_ifn hc149 h
      refine mw_iconst (v := 0) dL_law_606 (by decide) ?_
      obtain rfl := Option.some.inj h
      exact mw_zret dL_law_607 rfl (Or.inl rfl) hcs.1 hcs.2 rfl
