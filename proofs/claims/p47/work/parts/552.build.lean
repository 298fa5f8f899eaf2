def Z0 : mh_I := fun _ _ => 0
def ZL : mh_L := fun _ _ => 0
theorem Z0_z : mh_z Z0 0 = Z0 := by
  funext b
  unfold mh_z
  split <;> rfl
theorem ZL_z : mh_zl ZL 0 = ZL := by
  funext b
  unfold mh_zl
  split <;> rfl
theorem su_s (I : mh_I) (a k : Nat) (x : Int32) : mh_u I a k x a k = x := if_pos ⟨rfl, rfl⟩
theorem su_k {I : mh_I} {a k b j : Nat} {x : Int32} (h : j ≠ k) : mh_u I a k x b j = I b j := if_neg (fun e => h e.2)
theorem su_a {I : mh_I} {a k b : Nat} {x : Int32} (h : b ≠ a) : mh_u I a k x b = I b := by
  funext j
  exact if_neg (fun e => h e.1)
theorem ct_a {I : mh_I} {i a1 sp dp n b : Nat} (h : b ≠ a1) : mh_ct I i a1 sp dp n b = I b := if_neg h
theorem ct_s {I : mh_I} {i a1 sp dp n : Nat} : mh_ct I i a1 sp dp n a1 = va_cpy (fun j => (mh_byt.getD i []).getD j 0) (I a1) sp dp n := if_pos rfl
theorem cy_a {I : mh_I} {a0 a1 sp dp n b : Nat} (h : b ≠ a1) : mh_cpy I a0 a1 sp dp n b = I b := if_neg h
theorem cy_s {I : mh_I} {a0 a1 sp dp n : Nat} : mh_cpy I a0 a1 sp dp n a1 = va_cpy (I a0) (I a1) sp dp n := if_pos rfl
theorem zz_a {I : mh_I} {a b : Nat} (h : b ≠ a) : mh_z I a b = I b := if_neg h
theorem zz_s {I : mh_I} {a : Nat} : mh_z I a a = fun _ => 0 := if_pos rfl
theorem mw_cL {own : String} {cc : ByteArray} {nL : Nat} {rt : Option FieldType} {ini : Bool} {R : Room} {n0 mc ms : Nat} {Ex : mh_X} {Φ : mh_P} {slots : Nat} {sh : List mh_C} {I : mh_I} {L L' : mh_L} {pc : Nat} {lv : List (Nat × Value)} {st : List Value} (e : L = L') (k : mh_W own cc nL rt ini R n0 mc ms Ex Φ slots sh I L' pc lv st) : mh_W own cc nL rt ini R n0 mc ms Ex Φ slots sh I L pc lv st := by
  subst e; exact k
set_option maxHeartbeats 1000000 in
theorem t_bpre {sc : mh_Sc} {c s : Nat} {Φ : mh_P} {r5 : mh_I × mh_L × Option Nat} {q : mh_I × mh_L} (h5 : X5_init Z0 ZL = some r5) (hT : ∀ t, r5.2.2 = some t → t < 46) (hl : L_build_l10 sc (fun I L => some (I, L)) mh_fuel (0 : Int32) r5.1 r5.2.1 = some q) (hc : 46 ≤ c) (hs : 1939 ≤ s) (k : w_L_build sc c s 1939 (SHX r5.2.2 ++ []) Φ q.1 q.2 53 [(0, .ref 1040), (1, .ref 0)] []) : w_L_build sc c s 0 [] Φ Z0 ZL 0 [(0, .ref 1040)] [] := by
  refine mw_newE (a := 0) rfl nw_L_18 dL_build_0 (Nat.le_of_ble_eq_true rfl) ⟨(show 0 - 0 + 1 ≤ c by omega), (show 0 + 9 ≤ s by omega)⟩ ?_
  refine mw_conv (slots' := 9) (sh' := [.inl (5, fs0X5)]) (by decide) rfl ?_
  refine mw_cI Z0_z ?_
  refine mw_cL ZL_z ?_
  refine mw_dup dL_build_3 rfl ?_
  refine mw_ir (Rc := mh_rmc 103 45 1930) ci_L_23 wd_176 dL_build_4 [] [.ref 0, .ref 0] rfl rfl (t_X5_init h5) ⟨Nat.le_of_ble_eq_true rfl, Nat.le_of_ble_eq_true rfl⟩ (Nat.le_of_ble_eq_true rfl) ⟨(show 1 - 0 + 45 ≤ c by omega), (show 9 + 1930 ≤ s by omega)⟩ rfl ?_
  refine mw_conv (slots' := 1939) (sh' := SHX r5.2.2 ++ []) (by decide) (List.append_nil _).symm ?_
  refine mw_astore_n dL_build_7 (by decide) rfl ?_
  refine mw_iconst (v := 0) dL_build_8 (by decide) ?_
  refine mw_istore_n dL_build_9 (by decide) rfl ?_
  refine mw_loc [2, 1, 0] rfl ?_
  refine t_L_build_l10 hT ⟨(by rw [List.append_nil]; show 46 - 0 ≤ c; omega), hs⟩ _ _ _ _ hl (fun I L h => ?_)
  obtain rfl := Option.some.inj h
  exact k
theorem t_L_build0 {sc : mh_Sc} {r5 : mh_I × mh_L × Option Nat} {q : mh_I × mh_L} (h5 : X5_init Z0 ZL = some r5) (hT : ∀ t, r5.2.2 = some t → t < 46) (hl : L_build_l10 sc (fun I L => some (I, L)) mh_fuel (0 : Int32) r5.1 r5.2.1 = some q) (hp : L_plain sc = some (1 : Int32)) : mh_CTs sc yL_build cL_build 3 (some (.object RX5)) (mh_rmc 110 46 1939) [] Z0 ZL [.ref 1040] (mh_ret (some (.ref 0)) (SHX r5.2.2 ++ []) q.1 q.2) := by
  refine mh_ofWs (ini := false) RL rfl (by decide) (fun h => by cases h) (Nat.le_of_ble_eq_true rfl) ?_
  show w_L_build sc 46 1939 0 [] (mh_ret (some (.ref 0)) (SHX r5.2.2 ++ []) q.1 q.2) Z0 ZL 0 [(0, .ref 1040)] []
  refine t_bpre h5 hT hl (Nat.le_refl _) (Nat.le_refl _) ?_
  have hz : (SHX r5.2.2 ++ []).length - 0 ≤ (mh_rmc 110 46 1939).cells := by rw [List.append_nil]; exact Nat.le_of_ble_eq_true rfl
  refine mw_aload_n dL_build_53 0 rfl ?_
  refine mws_z (dc := 1) cs_L_45 wd_461 dL_build_54 [.ref 1040] [.ref 1040] rfl rfl (t_L_plain hp) ⟨Nat.le_of_ble_eq_true rfl, Nat.le_of_ble_eq_true rfl⟩ (Nat.le_of_ble_eq_true rfl) ⟨hz, Nat.le_of_ble_eq_true rfl⟩ rfl (fun _ => ?_)
  refine mw_if_ne (tgt := 121) dL_build_57 (by decide) (fun hc => ?_) (fun hc => absurd hc (by decide))
  refine mw_aload_n dL_build_121 1 rfl ?_
  exact mw_aret dL_build_122 rfl (Or.inl ⟨_, rfl⟩) hz (Nat.le_of_ble_eq_true rfl) mh_ret_rfl
def sbI0 (_d1 _d2 : Nat) (I : mh_I) : mh_I := mh_z I 46
theorem sbI0_46_1 {d1 d2 : Nat} {I : mh_I} : sbI0 d1 d2 I 46 1 = (0 : Int32) := by
  unfold sbI0
  rw [zz_s]
theorem sbI0_46_2 {d1 d2 : Nat} {I : mh_I} : sbI0 d1 d2 I 46 2 = (0 : Int32) := by
  unfold sbI0
  rw [zz_s]
theorem sbI0_46_3 {d1 d2 : Nat} {I : mh_I} : sbI0 d1 d2 I 46 3 = (0 : Int32) := by
  unfold sbI0
  rw [zz_s]
def sbI1 (d1 d2 : Nat) (I : mh_I) : mh_I := (mh_u (mh_z (sbI0 d1 d2 I) 47) 46 1 (0 : Int32))
theorem sbI1_46_1 {d1 d2 : Nat} {I : mh_I} : sbI1 d1 d2 I 46 1 = (0 : Int32) := by
  unfold sbI1
  simp (disch := decide) only [su_s, su_a, su_k, ct_a, ct_s, cy_a, cy_s, zz_a, zz_s]
theorem sbI1_46_2 {d1 d2 : Nat} {I : mh_I} : sbI1 d1 d2 I 46 2 = (0 : Int32) := by
  unfold sbI1
  simp (disch := decide) only [su_s, su_a, su_k, ct_a, ct_s, cy_a, cy_s, zz_a, zz_s, sbI0_46_2]
theorem sbI1_46_3 {d1 d2 : Nat} {I : mh_I} : sbI1 d1 d2 I 46 3 = (0 : Int32) := by
  unfold sbI1
  simp (disch := decide) only [su_s, su_a, su_k, ct_a, ct_s, cy_a, cy_s, zz_a, zz_s, sbI0_46_3]
theorem sbI1_f47 {d1 d2 : Nat} {I : mh_I} (hd1 : d1 < 8) (hd2 : d2 < 8) : sb_Fit (sbI1 d1 d2 I 47) := by
  unfold sbI1
  simp (disch := decide) only [su_s, su_a, su_k, ct_a, ct_s, cy_a, cy_s, zz_a, zz_s]
  exact sb_fit0
def sbI2 (d1 d2 : Nat) (I : mh_I) : mh_I := (mh_u (mh_ct (sbI1 d1 d2 I) 2 47 0 0 9) 46 3 (9 : Int32))
theorem sbI2_46_1 {d1 d2 : Nat} {I : mh_I} : sbI2 d1 d2 I 46 1 = (0 : Int32) := by
  unfold sbI2
  simp (disch := decide) only [su_s, su_a, su_k, ct_a, ct_s, cy_a, cy_s, zz_a, zz_s, sbI1_46_1]
theorem sbI2_46_2 {d1 d2 : Nat} {I : mh_I} : sbI2 d1 d2 I 46 2 = (0 : Int32) := by
  unfold sbI2
  simp (disch := decide) only [su_s, su_a, su_k, ct_a, ct_s, cy_a, cy_s, zz_a, zz_s, sbI1_46_2]
theorem sbI2_46_3 {d1 d2 : Nat} {I : mh_I} : sbI2 d1 d2 I 46 3 = (9 : Int32) := by
  unfold sbI2
  simp (disch := decide) only [su_s, su_a, su_k, ct_a, ct_s, cy_a, cy_s, zz_a, zz_s]
theorem sbI2_f47 {d1 d2 : Nat} {I : mh_I} (hd1 : d1 < 8) (hd2 : d2 < 8) : sb_Fit (sbI2 d1 d2 I 47) := by
  unfold sbI2
  simp (disch := decide) only [su_s, su_a, su_k, ct_a, ct_s, cy_a, cy_s, zz_a, zz_s]
  exact sb_fitC sb_fS2 ((sbI1_f47 hd1 hd2))
def sbI3 (d1 d2 : Nat) (I : mh_I) : mh_I := (mh_u (mh_u (sbI2 d1 d2 I) 47 9 (vp_nar .byte (nI (48 + d1)))) 46 3 (10 : Int32))
theorem sbI3_46_1 {d1 d2 : Nat} {I : mh_I} : sbI3 d1 d2 I 46 1 = (0 : Int32) := by
  unfold sbI3
  simp (disch := decide) only [su_s, su_a, su_k, ct_a, ct_s, cy_a, cy_s, zz_a, zz_s, sbI2_46_1]
theorem sbI3_46_2 {d1 d2 : Nat} {I : mh_I} : sbI3 d1 d2 I 46 2 = (0 : Int32) := by
  unfold sbI3
  simp (disch := decide) only [su_s, su_a, su_k, ct_a, ct_s, cy_a, cy_s, zz_a, zz_s, sbI2_46_2]
theorem sbI3_46_3 {d1 d2 : Nat} {I : mh_I} : sbI3 d1 d2 I 46 3 = (10 : Int32) := by
  unfold sbI3
  simp (disch := decide) only [su_s, su_a, su_k, ct_a, ct_s, cy_a, cy_s, zz_a, zz_s]
theorem sbI3_f47 {d1 d2 : Nat} {I : mh_I} (hd1 : d1 < 8) (hd2 : d2 < 8) : sb_Fit (sbI3 d1 d2 I 47) := by
  unfold sbI3
  simp (disch := decide) only [su_s, su_a, su_k, ct_a, ct_s, cy_a, cy_s, zz_a, zz_s]
  exact sb_uf (sbI2_f47 hd1 hd2) ((by decide : ∀ d : Nat, d < 8 → fits .byte (.int (vp_nar .byte (nI (48 + d)))) = true) d1 hd1)
def sbI4 (d1 d2 : Nat) (I : mh_I) : mh_I := (mh_u (mh_ct (mh_cpy (mh_z (sbI3 d1 d2 I) 48) 47 48 0 0 16) 3 48 0 10 50) 46 3 (60 : Int32))
theorem sbI4_46_1 {d1 d2 : Nat} {I : mh_I} : sbI4 d1 d2 I 46 1 = (0 : Int32) := by
  unfold sbI4
  simp (disch := decide) only [su_s, su_a, su_k, ct_a, ct_s, cy_a, cy_s, zz_a, zz_s, sbI3_46_1]
theorem sbI4_46_2 {d1 d2 : Nat} {I : mh_I} : sbI4 d1 d2 I 46 2 = (0 : Int32) := by
  unfold sbI4
  simp (disch := decide) only [su_s, su_a, su_k, ct_a, ct_s, cy_a, cy_s, zz_a, zz_s, sbI3_46_2]
theorem sbI4_46_3 {d1 d2 : Nat} {I : mh_I} : sbI4 d1 d2 I 46 3 = (60 : Int32) := by
  unfold sbI4
  simp (disch := decide) only [su_s, su_a, su_k, ct_a, ct_s, cy_a, cy_s, zz_a, zz_s]
theorem sbI4_f47 {d1 d2 : Nat} {I : mh_I} (hd1 : d1 < 8) (hd2 : d2 < 8) : sb_Fit (sbI4 d1 d2 I 47) := by
  unfold sbI4
  simp (disch := decide) only [su_s, su_a, su_k, ct_a, ct_s, cy_a, cy_s, zz_a, zz_s]
  exact (sbI3_f47 hd1 hd2)
theorem sbI4_f48 {d1 d2 : Nat} {I : mh_I} (hd1 : d1 < 8) (hd2 : d2 < 8) : sb_Fit (sbI4 d1 d2 I 48) := by
  unfold sbI4
  simp (disch := decide) only [su_s, su_a, su_k, ct_a, ct_s, cy_a, cy_s, zz_a, zz_s]
  exact sb_fitC sb_fS3 ((sb_fitC ((sbI3_f47 hd1 hd2)) (sb_fit0)))
def sbI5 (d1 d2 : Nat) (I : mh_I) : mh_I := (mh_u (mh_u (mh_cpy (mh_z (sbI4 d1 d2 I) 49) 48 49 0 0 60) 49 60 (vp_nar .byte (nI (48 + d2)))) 46 3 (61 : Int32))
theorem sbI5_46_1 {d1 d2 : Nat} {I : mh_I} : sbI5 d1 d2 I 46 1 = (0 : Int32) := by
  unfold sbI5
  simp (disch := decide) only [su_s, su_a, su_k, ct_a, ct_s, cy_a, cy_s, zz_a, zz_s, sbI4_46_1]
theorem sbI5_46_2 {d1 d2 : Nat} {I : mh_I} : sbI5 d1 d2 I 46 2 = (0 : Int32) := by
  unfold sbI5
  simp (disch := decide) only [su_s, su_a, su_k, ct_a, ct_s, cy_a, cy_s, zz_a, zz_s, sbI4_46_2]
theorem sbI5_46_3 {d1 d2 : Nat} {I : mh_I} : sbI5 d1 d2 I 46 3 = (61 : Int32) := by
  unfold sbI5
  simp (disch := decide) only [su_s, su_a, su_k, ct_a, ct_s, cy_a, cy_s, zz_a, zz_s]
theorem sbI5_f47 {d1 d2 : Nat} {I : mh_I} (hd1 : d1 < 8) (hd2 : d2 < 8) : sb_Fit (sbI5 d1 d2 I 47) := by
  unfold sbI5
  simp (disch := decide) only [su_s, su_a, su_k, ct_a, ct_s, cy_a, cy_s, zz_a, zz_s]
  exact (sbI4_f47 hd1 hd2)
theorem sbI5_f48 {d1 d2 : Nat} {I : mh_I} (hd1 : d1 < 8) (hd2 : d2 < 8) : sb_Fit (sbI5 d1 d2 I 48) := by
  unfold sbI5
  simp (disch := decide) only [su_s, su_a, su_k, ct_a, ct_s, cy_a, cy_s, zz_a, zz_s]
  exact (sbI4_f48 hd1 hd2)
theorem sbI5_f49 {d1 d2 : Nat} {I : mh_I} (hd1 : d1 < 8) (hd2 : d2 < 8) : sb_Fit (sbI5 d1 d2 I 49) := by
  unfold sbI5
  simp (disch := decide) only [su_s, su_a, su_k, ct_a, ct_s, cy_a, cy_s, zz_a, zz_s]
  exact sb_uf ((sb_fitC ((sbI4_f48 hd1 hd2)) (sb_fit0))) ((by decide : ∀ d : Nat, d < 8 → fits .byte (.int (vp_nar .byte (nI (48 + d)))) = true) d2 hd2)
def sbI6 (d1 d2 : Nat) (I : mh_I) : mh_I := (mh_u (mh_ct (sbI5 d1 d2 I) 4 49 0 61 1) 46 3 (62 : Int32))
theorem sbI6_46_1 {d1 d2 : Nat} {I : mh_I} : sbI6 d1 d2 I 46 1 = (0 : Int32) := by
  unfold sbI6
  simp (disch := decide) only [su_s, su_a, su_k, ct_a, ct_s, cy_a, cy_s, zz_a, zz_s, sbI5_46_1]
theorem sbI6_46_2 {d1 d2 : Nat} {I : mh_I} : sbI6 d1 d2 I 46 2 = (0 : Int32) := by
  unfold sbI6
  simp (disch := decide) only [su_s, su_a, su_k, ct_a, ct_s, cy_a, cy_s, zz_a, zz_s, sbI5_46_2]
theorem sbI6_46_3 {d1 d2 : Nat} {I : mh_I} : sbI6 d1 d2 I 46 3 = (62 : Int32) := by
  unfold sbI6
  simp (disch := decide) only [su_s, su_a, su_k, ct_a, ct_s, cy_a, cy_s, zz_a, zz_s]
theorem sbI6_f47 {d1 d2 : Nat} {I : mh_I} (hd1 : d1 < 8) (hd2 : d2 < 8) : sb_Fit (sbI6 d1 d2 I 47) := by
  unfold sbI6
  simp (disch := decide) only [su_s, su_a, su_k, ct_a, ct_s, cy_a, cy_s, zz_a, zz_s]
  exact (sbI5_f47 hd1 hd2)
theorem sbI6_f48 {d1 d2 : Nat} {I : mh_I} (hd1 : d1 < 8) (hd2 : d2 < 8) : sb_Fit (sbI6 d1 d2 I 48) := by
  unfold sbI6
  simp (disch := decide) only [su_s, su_a, su_k, ct_a, ct_s, cy_a, cy_s, zz_a, zz_s]
  exact (sbI5_f48 hd1 hd2)
theorem sbI6_f49 {d1 d2 : Nat} {I : mh_I} (hd1 : d1 < 8) (hd2 : d2 < 8) : sb_Fit (sbI6 d1 d2 I 49) := by
  unfold sbI6
  simp (disch := decide) only [su_s, su_a, su_k, ct_a, ct_s, cy_a, cy_s, zz_a, zz_s]
  exact sb_fitC sb_fS4 ((sbI5_f49 hd1 hd2))
def sbI7 (d1 d2 : Nat) (I : mh_I) : mh_I := (mh_cpy (mh_z (mh_u (mh_z (sbI6 d1 d2 I) 50) 50 1 (0 : Int32)) 51) 49 51 0 0 62)
theorem sbI7_46_1 {d1 d2 : Nat} {I : mh_I} : sbI7 d1 d2 I 46 1 = (0 : Int32) := by
  unfold sbI7
  simp (disch := decide) only [su_s, su_a, su_k, ct_a, ct_s, cy_a, cy_s, zz_a, zz_s, sbI6_46_1]
theorem sbI7_46_2 {d1 d2 : Nat} {I : mh_I} : sbI7 d1 d2 I 46 2 = (0 : Int32) := by
  unfold sbI7
  simp (disch := decide) only [su_s, su_a, su_k, ct_a, ct_s, cy_a, cy_s, zz_a, zz_s, sbI6_46_2]
theorem sbI7_46_3 {d1 d2 : Nat} {I : mh_I} : sbI7 d1 d2 I 46 3 = (62 : Int32) := by
  unfold sbI7
  simp (disch := decide) only [su_s, su_a, su_k, ct_a, ct_s, cy_a, cy_s, zz_a, zz_s, sbI6_46_3]
theorem sbI7_50_1 {d1 d2 : Nat} {I : mh_I} : sbI7 d1 d2 I 50 1 = (0 : Int32) := by
  unfold sbI7
  simp (disch := decide) only [su_s, su_a, su_k, ct_a, ct_s, cy_a, cy_s, zz_a, zz_s]
theorem sbI7_50_2 {d1 d2 : Nat} {I : mh_I} : sbI7 d1 d2 I 50 2 = (0 : Int32) := by
  unfold sbI7
  simp (disch := decide) only [su_s, su_a, su_k, ct_a, ct_s, cy_a, cy_s, zz_a, zz_s]
theorem sbI7_50_3 {d1 d2 : Nat} {I : mh_I} : sbI7 d1 d2 I 50 3 = (0 : Int32) := by
  unfold sbI7
  simp (disch := decide) only [su_s, su_a, su_k, ct_a, ct_s, cy_a, cy_s, zz_a, zz_s]
theorem sbI7_f47 {d1 d2 : Nat} {I : mh_I} (hd1 : d1 < 8) (hd2 : d2 < 8) : sb_Fit (sbI7 d1 d2 I 47) := by
  unfold sbI7
  simp (disch := decide) only [su_s, su_a, su_k, ct_a, ct_s, cy_a, cy_s, zz_a, zz_s]
  exact (sbI6_f47 hd1 hd2)
theorem sbI7_f48 {d1 d2 : Nat} {I : mh_I} (hd1 : d1 < 8) (hd2 : d2 < 8) : sb_Fit (sbI7 d1 d2 I 48) := by
  unfold sbI7
  simp (disch := decide) only [su_s, su_a, su_k, ct_a, ct_s, cy_a, cy_s, zz_a, zz_s]
  exact (sbI6_f48 hd1 hd2)
theorem sbI7_f49 {d1 d2 : Nat} {I : mh_I} (hd1 : d1 < 8) (hd2 : d2 < 8) : sb_Fit (sbI7 d1 d2 I 49) := by
  unfold sbI7
  simp (disch := decide) only [su_s, su_a, su_k, ct_a, ct_s, cy_a, cy_s, zz_a, zz_s]
  exact (sbI6_f49 hd1 hd2)
theorem sbI7_f51 {d1 d2 : Nat} {I : mh_I} (hd1 : d1 < 8) (hd2 : d2 < 8) : sb_Fit (sbI7 d1 d2 I 51) := by
  unfold sbI7
  simp (disch := decide) only [su_s, su_a, su_k, ct_a, ct_s, cy_a, cy_s, zz_a, zz_s]
  exact sb_fitC ((sbI6_f49 hd1 hd2)) (sb_fit0)
def sbI (d1 d2 : Nat) (I : mh_I) : mh_I := sbI7 d1 d2 I
def sbL (L : mh_L) : mh_L := (mh_zl (mh_zl (mh_zl (mh_zl (mh_zl (mh_zl L 46) 47) 48) 49) 50) 51)
set_option maxHeartbeats 400000 in
set_option maxRecDepth 100000 in
theorem t_L_build1 {sc : mh_Sc} {r5 : mh_I × mh_L × Option Nat} {q : mh_I × mh_L} {a0 : Int32} {d1 d2 : Nat} {It : mh_I} {qt : Int32 × mh_I × Option Nat} {qf : Int32 × mh_I} (h5 : X5_init Z0 ZL = some r5) (hT : ∀ t, r5.2.2 = some t → t < 46) (hl : L_build_l10 sc (fun I L => some (I, L)) mh_fuel (0 : Int32) r5.1 r5.2.1 = some q) (hp : L_plain sc = some (0 : Int32)) (ha : L_at sc (0 : Int32) = some a0) (ed1 : a0 &&& (1 : Int32) = nI d1) (hd1 : d1 < 8) (ed2 : (a0 >>> ((3 : Int32) &&& 31)) &&& (7 : Int32) = nI d2) (hd2 : d2 < 8)
    (htx : L_text (sbI d1 d2 q.1) = some It) (hqt : X5_text It r5.2.2 = some qt) (hT2 : ∀ t, qt.2.2 = some t → t < 46) (hqf : X5_force qt.1 (mh_mx 46 qt.2.1 It) = some qf) : mh_CTs sc yL_build cL_build 3 (some (.object RX5)) (mh_rmc 110 52 2207) [] Z0 ZL [.ref 1040] (mh_ret (some (.ref 0)) (SHX qt.2.2 ++ E6) (mh_mx 46 qf.2 (mh_mx 46 qt.2.1 It)) (sbL q.2)) := by
  refine mh_ofWs (ini := false) RL rfl (by decide) (fun h => by cases h) (Nat.le_of_ble_eq_true rfl) ?_
  show w_L_build sc 52 2207 0 [] (mh_ret (some (.ref 0)) (SHX qt.2.2 ++ E6) (mh_mx 46 qf.2 (mh_mx 46 qt.2.1 It)) (sbL q.2)) Z0 ZL 0 [(0, .ref 1040)] []
  refine t_bpre h5 hT hl (Nat.le_of_ble_eq_true rfl) (Nat.le_of_ble_eq_true rfl) ?_
  have hz : (SHX r5.2.2 ++ []).length - 0 ≤ (mh_rmc 110 52 2207).cells := by rw [List.append_nil]; exact Nat.le_of_ble_eq_true rfl
  refine mw_aload_n dL_build_53 0 rfl ?_
  refine mws_z (dc := 1) cs_L_45 wd_461 dL_build_54 [.ref 1040] [.ref 1040] rfl rfl (t_L_plain hp) ⟨Nat.le_of_ble_eq_true rfl, Nat.le_of_ble_eq_true rfl⟩ (Nat.le_of_ble_eq_true rfl) ⟨hz, Nat.le_of_ble_eq_true rfl⟩ rfl (fun _ => ?_)
  refine mw_if_ne (tgt := 121) dL_build_57 (by decide) (fun hc => absurd rfl hc) (fun hc => ?_)
  refine mw_aload_n dL_build_60 1 rfl ?_
  refine mw_newE (a := 46) (by rw [sx_ln (SHX_len r5.2.2)]; rfl) nw_L_49 dL_build_61 (Nat.le_of_ble_eq_true rfl) ⟨Nat.le_of_ble_eq_true rfl, Nat.le_of_ble_eq_true rfl⟩ ?_
  refine mw_conv (slots' := 1943) (sh' := (SHX r5.2.2 ++ ([.inl (7, [.inr none, .inl 0, .inl 0, .inl 0])] : List mh_C))) (by decide) (List.append_assoc _ _ _) ?_
  refine mw_dup dL_build_64 rfl ?_
  refine mw_ir (Rc := mh_rmc 2 1 16) ci_L_51 wd_466 dL_build_65 [] [.ref 46, .ref 46, .ref 0] rfl rfl (t_sb1_J4_init_da8c8 (SHX_len r5.2.2) ) ⟨Nat.le_of_ble_eq_true rfl, Nat.le_of_ble_eq_true rfl⟩ (Nat.le_of_ble_eq_true rfl) ⟨sx_c (SHX_len r5.2.2) (rfl : 0 = 0) (Nat.le_of_ble_eq_true rfl), Nat.le_of_ble_eq_true rfl⟩ (sx_l (SHX_len r5.2.2) rfl) ?_
  refine mw_cI (I' := sbI1 d1 d2 q.1) rfl ?_
  refine mw_conv (slots' := 1959) (sh' := (SHX r5.2.2 ++ ([.inl (7, [.inr (some 47), .inl 0, .inl 0, .inl 0]), .inr (2, 16, mh_n)] : List mh_C))) (by decide) rfl ?_
  refine mw_ldcS (index := 52) (i := 2) (by simp [mh_ldc]) dL_build_68 ?_
  refine mwx_v (Rc := mh_rmc 4 0 0) (ci := 7) (fs := [.inr (some 47), .inl 0, .inl 0, .inl 0]) (T := TJ4) (N := 4) cv_L_54 wd_496 dL_build_70 [.ref 1002] [.ref 1002, .ref 46, .ref 0] rfl rfl (sx_at (SHX_len r5.2.2) (k := 0) rfl rfl) rfl (t_sb3_J4_append_15ec4 (SHX_len r5.2.2) sbI1_46_1 sbI1_46_3) ⟨Nat.le_of_ble_eq_true rfl, Nat.le_of_ble_eq_true rfl⟩ (Nat.le_of_ble_eq_true rfl) ⟨sx_c (SHX_len r5.2.2) (rfl : 0 = 0) (Nat.le_of_ble_eq_true rfl), Nat.le_of_ble_eq_true rfl⟩ (sx_l (SHX_len r5.2.2) rfl) ?_
  refine mw_cI (I' := sbI2 d1 d2 q.1) rfl ?_
  refine mw_conv (slots' := 1959) (sh' := (SHX r5.2.2 ++ ([.inl (7, [.inr (some 47), .inl 0, .inl 0, .inl 0]), .inr (2, 16, mh_n)] : List mh_C))) (by decide) rfl ?_
  refine mw_aload_n dL_build_73 0 rfl ?_
  refine mw_iconst (v := 0) dL_build_74 (by decide) ?_
  refine mws_r (dc := 0) cs_L_58 wd_169 dL_build_75 [.ref 1040, .int (0 : Int32)] [.int (0 : Int32), .ref 1040, .ref 46, .ref 0] rfl rfl (t_L_at ha) ⟨Nat.le_of_ble_eq_true rfl, Nat.le_of_ble_eq_true rfl⟩ (Nat.le_of_ble_eq_true rfl) ⟨sx_c0 (SHX_len r5.2.2) (rfl : 0 = 0) (Nat.le_of_ble_eq_true rfl), Nat.le_of_ble_eq_true rfl⟩ rfl ?_
  refine mw_iconst (v := 1) dL_build_78 (by decide) ?_
  refine mw_iand dL_build_79 ?_
  refine mw_nmi ed1 ?_
  refine mwx_v (Rc := mh_rmc 2 0 0) (ci := 7) (fs := [.inr (some 47), .inl 0, .inl 0, .inl 0]) (T := TJ4) (N := 4) cv_L_61 wd_593 dL_build_80 [.int (nI d1)] [.int (nI d1), .ref 46, .ref 0] rfl rfl (sx_at (SHX_len r5.2.2) (k := 0) rfl rfl) rfl (t_sb9_J4_append_bf812 (SHX_len r5.2.2) sbI2_46_1 sbI2_46_3 hd1) ⟨Nat.le_of_ble_eq_true rfl, Nat.le_of_ble_eq_true rfl⟩ (Nat.le_of_ble_eq_true rfl) ⟨sx_c (SHX_len r5.2.2) (rfl : 0 = 0) (Nat.le_of_ble_eq_true rfl), Nat.le_of_ble_eq_true rfl⟩ (sx_l (SHX_len r5.2.2) rfl) ?_
  refine mw_cI (I' := sbI3 d1 d2 q.1) rfl ?_
  refine mw_conv (slots' := 1959) (sh' := (SHX r5.2.2 ++ ([.inl (7, [.inr (some 47), .inl 0, .inl 0, .inl 0]), .inr (2, 16, mh_n)] : List mh_C))) (by decide) rfl ?_
  refine mw_ldcS (index := 64) (i := 3) (by simp [mh_ldc]) dL_build_83 ?_
  refine mwx_v (Rc := mh_rmc 5 1 60) (ci := 7) (fs := [.inr (some 47), .inl 0, .inl 0, .inl 0]) (T := TJ4) (N := 4) cv_L_54 wd_496 dL_build_85 [.ref 1003] [.ref 1003, .ref 46, .ref 0] rfl rfl (sx_at (SHX_len r5.2.2) (k := 0) rfl rfl) rfl (t_sb15_J4_append_15ec4 (SHX_len r5.2.2) sbI3_46_1 sbI3_46_3 (sbI3_f47 hd1 hd2)) ⟨Nat.le_of_ble_eq_true rfl, Nat.le_of_ble_eq_true rfl⟩ (Nat.le_of_ble_eq_true rfl) ⟨sx_c (SHX_len r5.2.2) (rfl : 0 = 0) (Nat.le_of_ble_eq_true rfl), Nat.le_of_ble_eq_true rfl⟩ (sx_l (SHX_len r5.2.2) rfl) ?_
  refine mw_cI (I' := sbI4 d1 d2 q.1) rfl ?_
  refine mw_conv (slots' := 2019) (sh' := (SHX r5.2.2 ++ ([.inl (7, [.inr (some 48), .inl 0, .inl 0, .inl 0]), .inr (2, 16, mh_n), .inr (2, 60, mh_n)] : List mh_C))) (by decide) rfl ?_
  refine mw_aload_n dL_build_88 0 rfl ?_
  refine mw_iconst (v := 0) dL_build_89 (by decide) ?_
  refine mws_r (dc := 0) cs_L_58 wd_169 dL_build_90 [.ref 1040, .int (0 : Int32)] [.int (0 : Int32), .ref 1040, .ref 46, .ref 0] rfl rfl (t_L_at ha) ⟨Nat.le_of_ble_eq_true rfl, Nat.le_of_ble_eq_true rfl⟩ (Nat.le_of_ble_eq_true rfl) ⟨sx_c0 (SHX_len r5.2.2) (rfl : 0 = 0) (Nat.le_of_ble_eq_true rfl), Nat.le_of_ble_eq_true rfl⟩ rfl ?_
  refine mw_iconst (v := 3) dL_build_93 (by decide) ?_
  refine mw_ishr dL_build_94 ?_
  refine mw_bipush (v := 7) dL_build_95 (by decide) ?_
  refine mw_iand dL_build_97 ?_
  refine mw_nmi ed2 ?_
  refine mwx_v (Rc := mh_rmc 5 1 122) (ci := 7) (fs := [.inr (some 48), .inl 0, .inl 0, .inl 0]) (T := TJ4) (N := 4) cv_L_61 wd_593 dL_build_98 [.int (nI d2)] [.int (nI d2), .ref 46, .ref 0] rfl rfl (sx_at (SHX_len r5.2.2) (k := 0) rfl rfl) rfl (t_sb24_J4_append_bf812 (SHX_len r5.2.2) sbI4_46_1 sbI4_46_3 (sbI4_f48 hd1 hd2) hd2) ⟨Nat.le_of_ble_eq_true rfl, Nat.le_of_ble_eq_true rfl⟩ (Nat.le_of_ble_eq_true rfl) ⟨sx_c (SHX_len r5.2.2) (rfl : 0 = 0) (Nat.le_of_ble_eq_true rfl), Nat.le_of_ble_eq_true rfl⟩ (sx_l (SHX_len r5.2.2) rfl) ?_
  refine mw_cI (I' := sbI5 d1 d2 q.1) rfl ?_
  refine mw_conv (slots' := 2141) (sh' := (SHX r5.2.2 ++ ([.inl (7, [.inr (some 49), .inl 0, .inl 0, .inl 0]), .inr (2, 16, mh_n), .inr (2, 60, mh_n), .inr (2, 122, mh_n)] : List mh_C))) (by decide) rfl ?_
  refine mw_ldcS (index := 66) (i := 4) (by simp [mh_ldc]) dL_build_101 ?_
  refine mwx_v (Rc := mh_rmc 4 0 0) (ci := 7) (fs := [.inr (some 49), .inl 0, .inl 0, .inl 0]) (T := TJ4) (N := 4) cv_L_54 wd_496 dL_build_103 [.ref 1004] [.ref 1004, .ref 46, .ref 0] rfl rfl (sx_at (SHX_len r5.2.2) (k := 0) rfl rfl) rfl (t_sb33_J4_append_15ec4 (SHX_len r5.2.2) sbI5_46_1 sbI5_46_3) ⟨Nat.le_of_ble_eq_true rfl, Nat.le_of_ble_eq_true rfl⟩ (Nat.le_of_ble_eq_true rfl) ⟨sx_c (SHX_len r5.2.2) (rfl : 0 = 0) (Nat.le_of_ble_eq_true rfl), Nat.le_of_ble_eq_true rfl⟩ (sx_l (SHX_len r5.2.2) rfl) ?_
  refine mw_cI (I' := sbI6 d1 d2 q.1) rfl ?_
  refine mw_conv (slots' := 2141) (sh' := (SHX r5.2.2 ++ ([.inl (7, [.inr (some 49), .inl 0, .inl 0, .inl 0]), .inr (2, 16, mh_n), .inr (2, 60, mh_n), .inr (2, 122, mh_n)] : List mh_C))) (by decide) rfl ?_
  refine mwx_v (Rc := mh_rmc 5 2 66) (ci := 7) (fs := [.inr (some 49), .inl 0, .inl 0, .inl 0]) (T := TJ4) (N := 4) cv_L_68 wd_620 dL_build_106 [] [.ref 46, .ref 0] rfl rfl (sx_at (SHX_len r5.2.2) (k := 0) rfl rfl) rfl (t_sb39_J4_toString_0e30d (SHX_len r5.2.2) sbI6_46_1 sbI6_46_3 (sbI6_f49 hd1 hd2)) ⟨Nat.le_of_ble_eq_true rfl, Nat.le_of_ble_eq_true rfl⟩ (Nat.le_of_ble_eq_true rfl) ⟨sx_c (SHX_len r5.2.2) (rfl : 0 = 0) (Nat.le_of_ble_eq_true rfl), Nat.le_of_ble_eq_true rfl⟩ (sx_l (SHX_len r5.2.2) rfl) ?_
  refine mw_cI (I' := sbI7 d1 d2 q.1) rfl ?_
  refine mw_conv (slots' := 2207) (sh' := (SHX r5.2.2 ++ ([.inl (7, [.inr (some 49), .inl 0, .inl 0, .inl 0]), .inr (2, 16, mh_n), .inr (2, 60, mh_n), .inr (2, 122, mh_n), .inl (6, [.inr (some 51), .inl 0, .inl 0, .inl 0]), .inr (2, 62, mh_n)] : List mh_C))) (by decide) rfl ?_
  refine mw_conv (slots' := 2207) (sh' := (SHX r5.2.2 ++ E6)) (by decide) rfl ?_
  refine mw_cI (I' := sbI d1 d2 q.1) rfl ?_
  refine mw_cL (L' := sbL q.2) rfl ?_
  refine mwx_s (Rc := mh_rm 5) cs_L_72 wd_676 dL_build_109 [.ref 0, .ref 50] [.ref 50, .ref 0] rfl rfl (t_L_text hT (sbI7_50_1) htx) ⟨Nat.le_of_ble_eq_true rfl, Nat.le_of_ble_eq_true rfl⟩ (Nat.le_of_ble_eq_true rfl) ⟨by rw [List.length_append]; exact Nat.le_of_ble_eq_true rfl, Nat.le_of_ble_eq_true rfl⟩ rfl ?_
  refine mw_aload_n dL_build_112 1 rfl ?_
  refine mw_aload_n dL_build_113 1 rfl ?_
  refine mwx_v (Rc := mh_rm 103) (ci := 5) (fs := fsX5) (T := TX5) (N := 9) cv_L_76 wd_689 dL_build_114 [] [.ref 0, .ref 0] rfl rfl rfl rfl (mh_frXI E6 hT hT2 (by simp [mh_lo]) (fun v hv => by cases hv; exact trivial) (t_X5_text hqt)) ⟨Nat.le_of_ble_eq_true rfl, Nat.le_of_ble_eq_true rfl⟩ (Nat.le_of_ble_eq_true rfl) ⟨by rw [List.length_append]; exact Nat.le_of_ble_eq_true rfl, Nat.le_of_ble_eq_true rfl⟩ (by rw [List.length_append, List.length_append]; rfl) ?_
  refine mwx_v (Rc := mh_rm 1) (ci := 5) (fs := fsX5) (T := TX5) (N := 9) cv_L_78 wd_693 dL_build_117 [.int qt.1] [.int qt.1, .ref 0] rfl rfl rfl rfl (mh_frXI E6 hT2 hT2 (by simp [mh_lo]) (fun v hv => by cases hv; exact trivial) (t_X5_force hqf)) ⟨Nat.le_of_ble_eq_true rfl, Nat.le_of_ble_eq_true rfl⟩ (Nat.le_of_ble_eq_true rfl) ⟨by rw [List.length_append]; exact Nat.le_of_ble_eq_true rfl, Nat.le_of_ble_eq_true rfl⟩ rfl ?_
  refine mw_pop dL_build_120 rfl ?_
  refine mw_aload_n dL_build_121 1 rfl ?_
  exact mw_aret dL_build_122 rfl (Or.inl ⟨_, rfl⟩) (by rw [List.length_append]; exact Nat.le_of_ble_eq_true rfl) (Nat.le_of_ble_eq_true rfl) mh_ret_rfl
