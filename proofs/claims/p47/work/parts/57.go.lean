/-! the law, from its entry -/
set_option maxHeartbeats 1000000 in
theorem t_law_go {sc : mh_Sc} {T : Option Nat} {ext : List mh_C} {c s : Nat} {I : mh_I} {L : mh_L} (hT : ∀ t, T = some t → t < 46) (hB : mh_CTs sc yL_build cL_build 3 (some (.object RX5)) (mh_rmc 110 c s) [] Z0 ZL [.ref 1040] (mh_ret (some (.ref 0)) (SHX T ++ ext) I L)) (hlen : (SHX T ++ ext).length = c) (hc : c ≤ 100) (hs : s ≤ 10000) (hlaw : L_law sc c (mh_z I c) (mh_zl L c) = some (1 : Int32)) : mh_W RL code 16 (some .boolean) false room_1 0 600000 7302250 (mh_scr sc) (mh_ans 1) 0 [] Z0 ZL 0 [(0, .ref 1040)] [] := by
  refine mw_aload_n dL_law_0 0 rfl ?_
  refine mw_callSs (Rc := mh_rmc 110 c s) cs_L_119 wd_172 dL_law_1 [.ref 1040] [.ref 1040] rfl rfl hB ⟨Nat.le_of_ble_eq_true rfl, Nat.le_of_ble_eq_true rfl⟩ (Nat.le_of_ble_eq_true rfl) ⟨(show 0 - 0 + c ≤ 600000 by omega), (show 0 + s ≤ 7302250 by omega)⟩ (fun r s1 J1 K1 hφ => ?_)
  obtain ⟨rfl, rfl, rfl, rfl⟩ := hφ
  refine ⟨hlen.trans (Nat.zero_add c).symm, ?_⟩
  refine mw_conv (slots' := s) (sh' := SHX T ++ ext) (Nat.zero_add s) rfl ?_
  refine mw_astore_n dL_law_4 (by decide) rfl ?_
  refine mw_bipush (v := 50) dL_law_5 (by decide) ?_
  refine mw_newaE (a := c) (t := 1) (N := 50) hlen (Or.inr (Or.inl ⟨rfl, rfl⟩)) wd_279 dL_law_7 (by decide) (by decide) (by decide) (by omega) ⟨(show c - 0 + 1 ≤ 600000 by omega), (show s + 50 ≤ 7302250 by omega)⟩ ?_
  refine mw_conv (slots' := s + 50) (sh' := SHX T ++ (ext ++ [.inr (1, 50, mh_n)])) rfl (List.append_assoc _ _ _) ?_
  refine mw_astore_n dL_law_9 (by decide) rfl ?_
  have hl2 : (SHX T ++ (ext ++ [(.inr (1, 50, mh_n) : mh_C)])).length = c + 1 := by rw [← List.append_assoc, List.length_append, hlen]; rfl
  refine t_L_law (sl := s + 50) hT ⟨by rw [hl2]; show c + 1 - 0 ≤ 600000; omega, by show s + 50 ≤ 7302250; omega⟩ (hh := c) ?_ hlaw
  rw [← List.append_assoc, ← hlen, List.getElem?_append_right (Nat.le_refl _), Nat.sub_self]
  rfl
