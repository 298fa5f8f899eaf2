abbrev w_L_build (sc : mh_Sc) (c s sl : Nat) (sh : List mh_C) (Φ : mh_P) (I : mh_I) (L : mh_L) (pc : Nat) (lv : List (Nat × Value)) (st : List Value) : Prop := mh_W RL cL_build 3 (some (.object RX5)) false (mh_rmc 110 c s) 0 c s (mh_scr sc) Φ sl sh I L pc lv st
def L_build_l10 (sc : mh_Sc) (k53 : (mh_I → mh_L → Option (mh_I × mh_L))) : Nat → Int32 → mh_I → mh_L → Option (mh_I × mh_L)
  | 0, _, _, _ => none
  | n + 1, u2, I, L => if (48 : Int32) ≤ u2 then (k53 I L) else (L_kind sc u2).bind (fun q1 => (L_more sc u2).bind (fun q2 => (X5_knit u2 q1 q2 I).bind (fun q3 => (L_pinned sc u2).bind (fun q4 => mh_j (fun (L5 : mh_L) => mh_b (u2 + (1 : Int32)) (fun b9 => (L_build_l10 sc k53 n b9 (mh_mx 46 q3.2 I) L5))) (fun J6 => if q4 = 0 then (J6 L) else (X5_pin u2 (1 : Int32) L).bind (fun q7 => (J6 (mh_mx 46 q7.2 L))))))))
set_option maxHeartbeats 4000000 in
set_option maxRecDepth 100000 in
theorem t_L_build_l10 {sc : mh_Sc} {T : Option Nat} {ext : List mh_C} {c s sl : Nat} {Φ : mh_P} (hT : ∀ t, T = some t → t < 46) (hcs : (SHX T ++ ext).length - 0 ≤ (mh_rmc 110 c s).cells ∧ sl ≤ (mh_rmc 110 c s).slots) {k53 : (mh_I → mh_L → Option (mh_I × mh_L))} {res : mh_I × mh_L} (n : Nat) (u2 : Int32) (I : mh_I) (L : mh_L) (h : L_build_l10 sc k53 n u2 I L = some res) (hk53 : ∀ (I : mh_I) (L : mh_L), k53 I L = some res → w_L_build sc c s sl (SHX T ++ ext) Φ I L 53 [(0, .ref 1040), (1, .ref 0)] []) : w_L_build sc c s sl (SHX T ++ ext) Φ I L 10 [(0, .ref 1040), (1, .ref 0), (2, .int u2)] [] := by
  induction n generalizing u2 I L with
  | zero => rw [L_build_l10] at h; cases h
  | succ n ih =>
    rw [L_build_l10] at h
    refine mw_iload_n dL_build_10 2 rfl ?_
    refine mw_bipush (v := 48) dL_build_11 (by decide) ?_
    refine mw_icmp_ge (tgt := 53) dL_build_13 (by decide) (fun hc10 => ?_) (fun hc10 => ?_)
    · replace h := mh_ifp hc10 h
      refine mw_loc [0, 1] rfl ?_
      exact hk53 _ _ h
    · replace h := mh_ifn hc10 h
      refine mw_aload_n dL_build_16 1 rfl ?_
      refine mw_iload_n dL_build_17 2 rfl ?_
      refine mw_aload_n dL_build_18 0 rfl ?_
      refine mw_iload_n dL_build_19 2 rfl ?_
      obtain ⟨q1, hq1, h⟩ := mh_bind h
      refine mws_r (dc := 1) cs_L_24 wd_441 dL_build_20 [.ref 1040, .int u2] [.int u2, .ref 1040, .int u2, .ref 0] rfl rfl (t_L_kind hq1) ⟨Nat.le_of_ble_eq_true rfl, Nat.le_of_ble_eq_true rfl⟩ (Nat.le_of_ble_eq_true rfl) hcs rfl ?_
      refine mw_aload_n dL_build_23 0 rfl ?_
      refine mw_iload_n dL_build_24 2 rfl ?_
      obtain ⟨q2, hq2, h⟩ := mh_bind h
      refine mws_r (dc := 1) cs_L_30 wd_444 dL_build_25 [.ref 1040, .int u2] [.int u2, .ref 1040, .int q1, .int u2, .ref 0] rfl rfl (t_L_more hq2) ⟨Nat.le_of_ble_eq_true rfl, Nat.le_of_ble_eq_true rfl⟩ (Nat.le_of_ble_eq_true rfl) hcs rfl ?_
      obtain ⟨q3, hq3, h⟩ := mh_bind h
      refine mwg_vr (dc := 2) (ci := 5) (fs := fsX5) (T := TX5) (N := 9) cv_L_33 wd_448 dL_build_28 [.int u2, .int q1, .int q2] [.int q2, .int q1, .int u2, .ref 0] rfl rfl rfl rfl (mh_frXI ext hT hT (by simp [mh_lo]) (fun v hv => by cases hv; exact trivial) (t_X5_knit hq3)) ⟨Nat.le_of_ble_eq_true rfl, Nat.le_of_ble_eq_true rfl⟩ (Nat.le_of_ble_eq_true rfl) hcs rfl ?_
      refine mw_pop dL_build_31 rfl ?_
      refine mw_aload_n dL_build_32 0 rfl ?_
      refine mw_iload_n dL_build_33 2 rfl ?_
      obtain ⟨q4, hq4, h⟩ := mh_bind h
      refine mws_z (dc := 1) cs_L_37 wd_458 dL_build_34 [.ref 1040, .int u2] [.int u2, .ref 1040] rfl rfl (t_L_pinned hq4) ⟨Nat.le_of_ble_eq_true rfl, Nat.le_of_ble_eq_true rfl⟩ (Nat.le_of_ble_eq_true rfl) hcs rfl (fun zq4 => ?_)
      refine mh_jw (fun J6 => ∀ (L5 : mh_L), J6 L5 = some res → w_L_build sc c s sl (SHX T ++ ext) Φ (mh_mx 46 q3.2 I) L5 47 [(0, .ref 1040), (1, .ref 0), (2, .int u2)] []) h (fun L5 h => ?_) (fun J6 hJ6 h => ?_)
      · obtain ⟨b9, eb9, h⟩ := mh_b_some h
        refine mw_iinc (v := b9) dL_build_47 2 rfl (by rw [← eb9]; rfl) (by decide) rfl ?_
        refine mw_goto (tgt := 10) dL_build_50 (by decide) ?_
        refine mw_loc [1, 2, 0] rfl ?_
        exact ih _ _ _ h
      · refine mw_if_eq (tgt := 47) dL_build_37 (by decide) (fun hc8 => ?_) (fun hc8 => ?_)
        · replace h := mh_ifp hc8 h
          refine mw_loc [0, 1, 2] rfl ?_
          exact hJ6 _ h
        · replace h := mh_ifn hc8 h
          refine mw_aload_n dL_build_40 1 rfl ?_
          refine mw_iload_n dL_build_41 2 rfl ?_
          refine mw_iconst (v := 1) dL_build_42 (by decide) ?_
          obtain ⟨q7, hq7, h⟩ := mh_bind h
          refine mwg_vr (dc := 2) (ci := 5) (fs := fsX5) (T := TX5) (N := 9) cv_L_41 wd_22 dL_build_43 [.int u2, .int (1 : Int32)] [.int (1 : Int32), .int u2, .ref 0] rfl rfl rfl rfl (mh_frXL ext hT hT (by simp [mh_lo]) (fun v hv => by cases hv; exact trivial) (t_X5_pin hq7)) ⟨Nat.le_of_ble_eq_true rfl, Nat.le_of_ble_eq_true rfl⟩ (Nat.le_of_ble_eq_true rfl) hcs rfl ?_
          refine mw_pop dL_build_46 rfl ?_
          refine mw_loc [0, 1, 2] rfl ?_
          exact hJ6 _ h
theorem nw_L_18 : mh_nw RL 18 5 fs0X5 := ⟨RX5, TX5, 9, tyX5, rfl, in_X5, tyX5_ok, wd_173, wd_46, wd_1, rfl, fun j hj => by rcases (show j = 0 ∨ j = 1 ∨ j = 2 ∨ j = 3 ∨ j = 4 ∨ j = 5 ∨ j = 6 ∨ j = 7 ∨ j = 8 by omega) with rfl | rfl | rfl | rfl | rfl | rfl | rfl | rfl | rfl <;> rfl, by decide⟩
