theorem mh_E.congr40 {A : Nat → Prop} {ad ad' : Nat → Nat} {U : State} (h : mh_E A ad U) (e : ∀ a, 1000 ≤ a → a ≠ 1040 → ad' a = ad a) : mh_E A ad' U := by
  obtain ⟨h1, h2, h3, h4, h5, h6, h7, h8, h9⟩ := h
  refine ⟨h1, fun q hq => ?_, ⟨fun i hi => ?_, fun i j hi hj h => ?_⟩, h4, ?_, h6, h7, ?_, ?_⟩
  · have hq2 : q.2.2 < 5 := by
      simp only [mh_ldc, List.mem_cons, List.not_mem_nil, or_false] at hq
      rcases hq with rfl | rfl | rfl | rfl | rfl <;> decide
    rw [e _ (by omega) (by omega)]
    exact h2 q hq
  · dsimp only
    rw [e (1000 + i) (by omega) (by omega), e (1010 + i) (by omega) (by omega)]
    exact h3.1 i hi
  · dsimp only at h
    rw [e (1000 + i) (by omega) (by omega), e (1000 + j) (by omega) (by omega)] at h
    exact h3.2 i j hi hj h
  · rw [e 1020 (by decide) (by decide)]
    exact h5
  · rw [e 1030 (by decide) (by decide)]
    exact h8
  · rw [e 1030 (by decide) (by decide)]
    exact h9
/-! what holds at the law's entry -/
def cs_tm : Nat → Term := fun i => match i with
  | 0 => .string RX5 51
  | 1 => .string RX3 84
  | 2 => .string RL 52
  | 3 => .string RL 64
  | _ => .string RL 66
theorem cs_isRef {t : Term} {args : Array Value} {s : State} (h : (Cond.isRef t).before args s = true) : t.eval args s none [] s = some .null ∨ ∃ a : Nat, t.eval args s none [] s = some (.ref a) := by
  cases hv : t.eval args s none [] s with
  | none => simp [Cond.before, Cond.holds, Cond.value, hv] at h
  | some w =>
    cases w with
    | ref a => exact Or.inr ⟨a, rfl⟩
    | null => exact Or.inl rfl
    | _ => simp [Cond.before, Cond.holds, Cond.value, hv] at h
theorem cs_slice {l : List Cond} {k n : Nat} {f : Nat → Cond} (h : (l.drop k).take n = (List.range n).map f) : ∀ j, j < n → f j ∈ l := fun j hj => List.mem_of_mem_drop (List.mem_of_mem_take (h ▸ List.mem_map.mpr ⟨j, List.mem_range.mpr hj, rfl⟩ : f j ∈ (l.drop k).take n))
theorem cs_el0 : ((flatC (Jvm.Cond.and given_1 narrow_1)).drop 233).take 61 = (List.range 61).map (fun j => Cond.eq (.elem (.field (cs_tm 0) "java/lang/String" "value" "[B") (.int (Int32.ofNat j))) (.int ((mh_byt.getD 0 []).getD j 0))) := by decide +kernel
theorem cs_el1 : ((flatC (Jvm.Cond.and given_1 narrow_1)).drop 298).take 61 = (List.range 61).map (fun j => Cond.eq (.elem (.field (cs_tm 1) "java/lang/String" "value" "[B") (.int (Int32.ofNat j))) (.int ((mh_byt.getD 1 []).getD j 0))) := by decide +kernel
theorem cs_el2 : ((flatC (Jvm.Cond.and given_1 narrow_1)).drop 364).take 9 = (List.range 9).map (fun j => Cond.eq (.elem (.field (cs_tm 2) "java/lang/String" "value" "[B") (.int (Int32.ofNat j))) (.int ((mh_byt.getD 2 []).getD j 0))) := by decide +kernel
theorem cs_el3 : ((flatC (Jvm.Cond.and given_1 narrow_1)).drop 379).take 50 = (List.range 50).map (fun j => Cond.eq (.elem (.field (cs_tm 3) "java/lang/String" "value" "[B") (.int (Int32.ofNat j))) (.int ((mh_byt.getD 3 []).getD j 0))) := by decide +kernel
theorem cs_el4 : ((flatC (Jvm.Cond.and given_1 narrow_1)).drop 436).take 1 = (List.range 1).map (fun j => Cond.eq (.elem (.field (cs_tm 4) "java/lang/String" "value" "[B") (.int (Int32.ofNat j))) (.int ((mh_byt.getD 4 []).getD j 0))) := by decide +kernel
theorem cs_dig : ((flatC (Jvm.Cond.and given_1 narrow_1)).drop 12).take 100 = (List.range 100).map (fun j => Cond.eq (.elem (.static "java/lang/Integer" "DigitOnes" "[B") (.int (Int32.ofNat j))) (.int (nI (48 + j % 10)))) := by decide +kernel
theorem lt_5 {P : Nat → Prop} (h0 : P 0) (h1 : P 1) (h2 : P 2) (h3 : P 3) (h4 : P 4) : ∀ i, i < 5 → P i := fun i hi => by
  rcases (show i = 0 ∨ i = 1 ∨ i = 2 ∨ i = 3 ∨ i = 4 by omega) with rfl | rfl | rfl | rfl | rfl
  · exact h0
  · exact h1
  · exact h2
  · exact h3
  · exact h4
theorem cs_n01 : Cond.not (.eq (cs_tm 0) (cs_tm 1)) ∈ flatC (Jvm.Cond.and given_1 narrow_1) := (List.mem_of_getElem? (i := 359) (by decide +kernel))
theorem cs_n02 : Cond.not (.eq (cs_tm 0) (cs_tm 2)) ∈ flatC (Jvm.Cond.and given_1 narrow_1) := (List.mem_of_getElem? (i := 373) (by decide +kernel))
theorem cs_n03 : Cond.not (.eq (cs_tm 0) (cs_tm 3)) ∈ flatC (Jvm.Cond.and given_1 narrow_1) := (List.mem_of_getElem? (i := 429) (by decide +kernel))
theorem cs_n04 : Cond.not (.eq (cs_tm 0) (cs_tm 4)) ∈ flatC (Jvm.Cond.and given_1 narrow_1) := (List.mem_of_getElem? (i := 437) (by decide +kernel))
theorem cs_n12 : Cond.not (.eq (cs_tm 1) (cs_tm 2)) ∈ flatC (Jvm.Cond.and given_1 narrow_1) := (List.mem_of_getElem? (i := 374) (by decide +kernel))
theorem cs_n13 : Cond.not (.eq (cs_tm 1) (cs_tm 3)) ∈ flatC (Jvm.Cond.and given_1 narrow_1) := (List.mem_of_getElem? (i := 430) (by decide +kernel))
theorem cs_n14 : Cond.not (.eq (cs_tm 1) (cs_tm 4)) ∈ flatC (Jvm.Cond.and given_1 narrow_1) := (List.mem_of_getElem? (i := 438) (by decide +kernel))
theorem cs_n23 : Cond.not (.eq (cs_tm 2) (cs_tm 3)) ∈ flatC (Jvm.Cond.and given_1 narrow_1) := (List.mem_of_getElem? (i := 431) (by decide +kernel))
theorem cs_n24 : Cond.not (.eq (cs_tm 2) (cs_tm 4)) ∈ flatC (Jvm.Cond.and given_1 narrow_1) := (List.mem_of_getElem? (i := 439) (by decide +kernel))
theorem cs_n34 : Cond.not (.eq (cs_tm 3) (cs_tm 4)) ∈ flatC (Jvm.Cond.and given_1 narrow_1) := (List.mem_of_getElem? (i := 440) (by decide +kernel))
set_option maxRecDepth 100000 in
set_option maxHeartbeats 4000000 in
theorem cs_E {b : Nat} {s : State} (hts : ∀ w ∈ lw_tbl, w.before #[Value.ref b] s = true) (hgv : (Jvm.Cond.and given_1 narrow_1).before #[Value.ref b] s = true) : ∃ ad : Nat → Nat, mh_E (fun q => s.heap.size ≤ q) ad s := by
  have hs := flat_of_before _ hgv
  have hA : ∀ a : Nat, a < s.heap.size → ¬ (fun q => s.heap.size ≤ q) a := fun a h => Nat.not_le.mpr h
  obtain ⟨adK, adV, hS, hK⟩ := vk_Sof (s := s) (args := #[Value.ref b]) (N := 5) (tm := cs_tm) (len := mh_len) (byt := mh_byt) (A := fun q => s.heap.size ≤ q)
    (lt_5 (by decide +kernel) (by decide +kernel) (by decide +kernel) (by decide +kernel) (by decide +kernel)) (lt_5 (hs _ (List.mem_of_getElem? (i := 229) (by decide +kernel))) (hs _ (List.mem_of_getElem? (i := 294) (by decide +kernel))) (hs _ (List.mem_of_getElem? (i := 360) (by decide +kernel))) (hs _ (List.mem_of_getElem? (i := 375) (by decide +kernel))) (hs _ (List.mem_of_getElem? (i := 432) (by decide +kernel)))) (lt_5 (hs _ (List.mem_of_getElem? (i := 230) (by decide +kernel))) (hs _ (List.mem_of_getElem? (i := 295) (by decide +kernel))) (hs _ (List.mem_of_getElem? (i := 361) (by decide +kernel))) (hs _ (List.mem_of_getElem? (i := 376) (by decide +kernel))) (hs _ (List.mem_of_getElem? (i := 433) (by decide +kernel)))) (lt_5 (hs _ (List.mem_of_getElem? (i := 231) (by decide +kernel))) (hs _ (List.mem_of_getElem? (i := 296) (by decide +kernel))) (hs _ (List.mem_of_getElem? (i := 362) (by decide +kernel))) (hs _ (List.mem_of_getElem? (i := 377) (by decide +kernel))) (hs _ (List.mem_of_getElem? (i := 434) (by decide +kernel)))) (lt_5 (hs _ (List.mem_of_getElem? (i := 232) (by decide +kernel))) (hs _ (List.mem_of_getElem? (i := 297) (by decide +kernel))) (hs _ (List.mem_of_getElem? (i := 363) (by decide +kernel))) (hs _ (List.mem_of_getElem? (i := 378) (by decide +kernel))) (hs _ (List.mem_of_getElem? (i := 435) (by decide +kernel))))
    (lt_5 (fun j hj => hs _ (cs_slice cs_el0 j hj)) (fun j hj => hs _ (cs_slice cs_el1 j hj)) (fun j hj => hs _ (cs_slice cs_el2 j hj)) (fun j hj => hs _ (cs_slice cs_el3 j hj)) (fun j hj => hs _ (cs_slice cs_el4 j hj)))
    (fun i j hi hj hij => by
      rcases (show i = 0 ∨ i = 1 ∨ i = 2 ∨ i = 3 ∨ i = 4 by omega) with rfl | rfl | rfl | rfl | rfl <;> rcases (show j = 0 ∨ j = 1 ∨ j = 2 ∨ j = 3 ∨ j = 4 by omega) with rfl | rfl | rfl | rfl | rfl
      · exact absurd rfl hij
      · exact Or.inl (hs _ cs_n01)
      · exact Or.inl (hs _ cs_n02)
      · exact Or.inl (hs _ cs_n03)
      · exact Or.inl (hs _ cs_n04)
      · exact Or.inr (hs _ cs_n01)
      · exact absurd rfl hij
      · exact Or.inl (hs _ cs_n12)
      · exact Or.inl (hs _ cs_n13)
      · exact Or.inl (hs _ cs_n14)
      · exact Or.inr (hs _ cs_n02)
      · exact Or.inr (hs _ cs_n12)
      · exact absurd rfl hij
      · exact Or.inl (hs _ cs_n23)
      · exact Or.inl (hs _ cs_n24)
      · exact Or.inr (hs _ cs_n03)
      · exact Or.inr (hs _ cs_n13)
      · exact Or.inr (hs _ cs_n23)
      · exact absurd rfl hij
      · exact Or.inl (hs _ cs_n34)
      · exact Or.inr (hs _ cs_n04)
      · exact Or.inr (hs _ cs_n14)
      · exact Or.inr (hs _ cs_n24)
      · exact Or.inr (hs _ cs_n34)
      · exact absurd rfl hij) hA
  obtain ⟨t, ht⟩ : ∃ t : Nat, (Term.static "jdk/internal/util/Preconditions" "SIOOBE_FORMATTER" "Ljava/util/function/BiFunction;").eval #[Value.ref b] s none [] s = some .null ∨ (Term.static "jdk/internal/util/Preconditions" "SIOOBE_FORMATTER" "Ljava/util/function/BiFunction;").eval #[Value.ref b] s none [] s = some (.ref t) := (cs_isRef (hs (Cond.isRef (.static "jdk/internal/util/Preconditions" "SIOOBE_FORMATTER" "Ljava/util/function/BiFunction;")) (by decide +kernel))).elim (fun h => ⟨0, Or.inl h⟩) (fun h => h.elim fun t h => ⟨t, Or.inr h⟩)
  have hc := va_eqt (hs (Cond.eq (.static "java/lang/String" "COMPACT_STRINGS" "Z") (.int 1)) (by decide +kernel))
  obtain ⟨t3, ht3, hT3⟩ := va_Tof (s := s) (args := #[Value.ref b]) (tm := .static "java/lang/Integer" "DigitOnes" "[B") (ty := .byte) (N := 100) (f := fun j => .int (nI (48 + j % 10))) (A := fun q => s.heap.size ≤ q) (by decide) (hs _ (by decide +kernel)) (va_eqt (hs (Cond.eq (.length (.static "java/lang/Integer" "DigitOnes" "[B")) (.int 100)) (by decide +kernel))) (fun j hj => va_eqt (hs _ (cs_slice cs_dig j hj))) hA
  refine ⟨fun a => if a = 1030 then t3 else if a = 1020 then t else if 1010 ≤ a then adV (a - 1010) else adK (a - 1000), ⟨fun w hw => ?_, ?_, ?_, ?_, ?_, ?_, ?_, ?_, ?_⟩⟩
  · have hm := List.mem_filter.mp hw
    refine va_Nw.of ?_ (hts w (List.mem_append_right _ hm.1))
    have h1 := hm.2
    cases w with
    | fieldLinkNest a b c d e f => rfl
    | methodLinkNest a b c d => rfl
    | _ => cases h1
  · intro q hq
    simp only [mh_ldc, List.mem_cons, List.not_mem_nil, or_false] at hq
    rcases hq with rfl | rfl | rfl | rfl | rfl
    · exact vk_R.of (hts (.stringRef RX5 51 (mh_tx.getD 0 "")) (List.mem_append_right _ (mh_t2 (List.mem_of_getElem? (i := 54) rfl)))) (hK 0 (by decide))
    · exact vk_R.of (hts (.stringRef RX3 84 (mh_tx.getD 1 "")) (List.mem_append_right _ (mh_t2 (List.mem_of_getElem? (i := 131) rfl)))) (hK 1 (by decide))
    · exact vk_R.of (hts (.stringRef RL 52 (mh_tx.getD 2 "")) (List.mem_append_right _ (mh_t3 (List.mem_of_getElem? (i := 12) rfl)))) (hK 2 (by decide))
    · exact vk_R.of (hts (.stringRef RL 64 (mh_tx.getD 3 "")) (List.mem_append_right _ (mh_t3 (List.mem_of_getElem? (i := 135) rfl)))) (hK 3 (by decide))
    · exact vk_R.of (hts (.stringRef RL 66 (mh_tx.getD 4 "")) (List.mem_append_right _ (mh_t3 (List.mem_of_getElem? (i := 136) rfl)))) (hK 4 (by decide))
  · refine ⟨lt_5 (hS.1 0 (by decide)) (hS.1 1 (by decide)) (hS.1 2 (by decide)) (hS.1 3 (by decide)) (hS.1 4 (by decide)), fun i j hi hj h => ?_⟩
    have e : ∀ i, i < 5 → (fun a => if a = 1030 then t3 else if a = 1020 then t else if 1010 ≤ a then adV (a - 1010) else adK (a - 1000)) (1000 + i) = adK i := fun i hi => by
      show (if 1000 + i = 1030 then t3 else if 1000 + i = 1020 then t else if 1010 ≤ 1000 + i then adV (1000 + i - 1010) else adK (1000 + i - 1000)) = adK i
      rw [if_neg (by omega), if_neg (by omega), if_neg (by omega), Nat.add_sub_cancel_left]
    exact hS.2 i j hi hj ((e i hi).symm.trans (h.trans (e j hj)))
  · exact va_Zof (hts (.laysStatic "java/lang/String" "COMPACT_STRINGS" "Z") (List.mem_append_right _ (mh_t2 (List.mem_of_getElem? (i := 64) rfl)))) (hts (.initialized "java/lang/String") (List.mem_append_right _ (mh_t1 (List.mem_of_getElem? (i := 7) rfl)))) hc hA
  · rcases ht with ht | ht
    · exact Or.inl (va_Zof (hts (.laysStatic "jdk/internal/util/Preconditions" "SIOOBE_FORMATTER" "Ljava/util/function/BiFunction;") (List.mem_append_right _ (mh_t2 (List.mem_of_getElem? (i := 80) rfl)))) (hts (.initialized "jdk/internal/util/Preconditions") (List.mem_append_right _ (mh_t1 (List.mem_of_getElem? (i := 9) rfl)))) ht hA)
    · exact Or.inr (va_Zof (hts (.laysStatic "jdk/internal/util/Preconditions" "SIOOBE_FORMATTER" "Ljava/util/function/BiFunction;") (List.mem_append_right _ (mh_t2 (List.mem_of_getElem? (i := 80) rfl)))) (hts (.initialized "jdk/internal/util/Preconditions") (List.mem_append_right _ (mh_t1 (List.mem_of_getElem? (i := 9) rfl)))) ht hA)
  · exact va_AO.of (hts (.arrayOver (.object RX2)) (List.mem_append_right _ (mh_t2 (List.mem_of_getElem? (i := 18) rfl))))
  · exact va_AO.of (hts (.arrayOver (.object RX4)) (List.mem_append_right _ (mh_t1 (List.mem_of_getElem? (i := 238) rfl))))
  · exact va_Zof (hts (.laysStatic "java/lang/Integer" "DigitOnes" "[B") (List.mem_append_right _ (mh_t3 (List.mem_of_getElem? (i := 124) rfl)))) (hts (.initialized "java/lang/Integer") (List.mem_append_right _ (mh_t1 (List.mem_of_getElem? (i := 17) rfl)))) ht3 hA
  · exact hT3
theorem cs_sup {b : Nat} {s : State} (hts : ∀ w ∈ lw_tbl, w.before #[Value.ref b] s = true) : ∀ w ∈ lw_sup, w.before #[Value.ref b] s = true := by
  intro w hw
  have h0 := hts (.selects RJ4 yJ5_isLatin1_aae02 yJ5_isLatin1_aae02) (List.mem_append_right _ (mh_t3 (List.mem_of_getElem? (i := 58) rfl)))
  have hi := hts (.instantiable RJ4 4) (List.mem_append_right _ (mh_t2 (List.mem_of_getElem? (i := 223) rfl)))
  simp only [lw_sup, List.mem_cons, List.not_mem_nil, or_false] at hw
  rcases hw with rfl | rfl | rfl | rfl
  · exact lw_selsup ⟨by decide, by decide⟩ h0 rfl ⟨4, hi⟩ (hts (.privateMethod yJ5_ensureCapacityInternal_d00df) (List.mem_append_right _ (mh_t3 (List.mem_of_getElem? (i := 25) rfl)))) (hts (.instanceMethod yJ5_ensureCapacityInternal_d00df) (List.mem_append_right _ (mh_t3 (List.mem_of_getElem? (i := 26) rfl))))
  · exact lw_selsup ⟨by decide, by decide⟩ h0 rfl ⟨4, hi⟩ (hts (.privateMethod yJ5_newCapacity_0f7a4) (List.mem_append_right _ (mh_t3 (List.mem_of_getElem? (i := 29) rfl)))) (hts (.instanceMethod yJ5_newCapacity_0f7a4) (List.mem_append_right _ (mh_t3 (List.mem_of_getElem? (i := 30) rfl))))
  · exact lw_selsup ⟨by decide, by decide⟩ h0 rfl ⟨4, hi⟩ (hts (.privateMethod yJ5_putStringAt_47b60) (List.mem_append_right _ (mh_t3 (List.mem_of_getElem? (i := 77) rfl)))) (hts (.instanceMethod yJ5_putStringAt_47b60) (List.mem_append_right _ (mh_t3 (List.mem_of_getElem? (i := 78) rfl))))
  · exact lw_selsup ⟨by decide, by decide⟩ h0 rfl ⟨4, hi⟩ (hts (.privateMethod yJ5_inflateIfNeededFor_a7421) (List.mem_append_right _ (mh_t3 (List.mem_of_getElem? (i := 81) rfl)))) (hts (.instanceMethod yJ5_inflateIfNeededFor_a7421) (List.mem_append_right _ (mh_t3 (List.mem_of_getElem? (i := 82) rfl))))
theorem cs_K {b : Nat} {s : State} (tb : ∀ w ∈ mh_TB, w.before #[Value.ref b] s = true) : ∃ D : va_G, va_K D vwCl [] s := by
  obtain ⟨c0, i0, k0⟩ := u_known (C := RX0) (T := TX0) (N := 3) (n := 3) tb in_X0 (tb (.instantiable RX0 3) wd_55)
  obtain ⟨c1, i1, k1⟩ := u_known (C := RX1) (T := TX1) (N := 5) (n := 5) tb in_X1 (tb (.instantiable RX1 5) wd_60)
  obtain ⟨c2, i2, k2⟩ := u_known (C := RX2) (T := TX2) (N := 3) (n := 3) tb in_X2 (tb (.instantiable RX2 3) wd_280)
  obtain ⟨c3, i3, k3⟩ := u_known (C := RX3) (T := TX3) (N := 7) (n := 7) tb in_X3 (tb (.instantiable RX3 7) wd_209)
  obtain ⟨c4, i4, k4⟩ := u_known (C := RX4) (T := TX4) (N := 5) (n := 5) tb in_X4 (tb (.instantiable RX4 5) wd_85)
  obtain ⟨c5, i5, k5⟩ := u_known (C := RX5) (T := TX5) (N := 9) (n := 9) tb in_X5 (tb (.instantiable RX5 9) wd_46)
  obtain ⟨c6, i6, k6⟩ := u_known (C := RJ0) (T := TJ0) (N := 4) (n := 4) tb in_J0 (tb (.instantiable RJ0 4) wd_622)
  obtain ⟨c7, i7, k7⟩ := u_known (C := RJ4) (T := TJ4) (N := 4) (n := 4) tb in_J4 (tb (.instantiable RJ4 4) wd_463)
  refine ⟨(fun k => match k with | 0 => c0 | 1 => c1 | 2 => c2 | 3 => c3 | 4 => c4 | 5 => c5 | 6 => c6 | _ => c7, fun k => match k with | 0 => i0 | 1 => i1 | 2 => i2 | 3 => i3 | 4 => i4 | 5 => i5 | 6 => i6 | _ => i7), fun k q hq => ?_, fun k q h => by simp at h⟩
  match k, hq with
  | 0, hq => cases hq; exact k0
  | 1, hq => cases hq; exact k1
  | 2, hq => cases hq; exact k2
  | 3, hq => cases hq; exact k3
  | 4, hq => cases hq; exact k4
  | 5, hq => cases hq; exact k5
  | 6, hq => cases hq; exact k6
  | 7, hq => cases hq; exact k7
  | k + 8, hq => simp [vwCl] at hq
def R_law : String := "StitchLetFallLaw"
def lw_Q (_ : Array Value) (s : State) (o : Outcome) (t : State) : Prop := o = .returned (some (.int 1)) ∧ Framed s o t [] 600000 7302250
def lw_Z (below : List Frame) (a : Array Value) (s : State) : State → Prop := fun t => ∃ o, t.status = .running ∧ Ended t below o ∧ lw_Q a s o t
def lw_At (p : Program) (s : State) (m : MethodId) (meth : Method) (c : Code) (b L : Nat) (xs : Nat → Int32) : Prop :=
  p.tables.exec = Jvm.exec ∧ c.code = code ∧ meth.sig.returnType = ret ∧ c.maxLocals = 16 ∧ s.vm.findClass R_law = some m.cls ∧ (∀ w ∈ lw_tbl, w.before #[Value.ref b] s = true) ∧ va_X b L xs s s.heap ∧ b < s.heap.size ∧ meth.locks = false ∧ (Jvm.Cond.and given_1 narrow_1).before #[Value.ref b] s = true
def go_all : Prop := ∀ sc : mh_Sc, sc.1 ≤ 260 → mh_W RL code 16 (some .boolean) false room_1 0 600000 7302250 (mh_scr sc) (mh_ans 1) 0 [] Z0 ZL 0 [(0, .ref 1040)] []
theorem fr_drop {s t : State} {o : Outcome} {Lc : List Loc} {k n : Nat} (h : FrameEnd s o t Lc k n) (hf : ∀ q ∈ Lc, s.heap.size ≤ q.base) : Framed s o t [] k n := by
  obtain ⟨h1, h2, h3⟩ := h
  refine ⟨h1, h2, ?_⟩
  unfold State.sameButNew at h3 ⊢
  refine ⟨h3.1, h3.2.1, h3.2.2.1, h3.2.2.2.1, h3.2.2.2.2.1, fun a c ha => ?_⟩
  obtain ⟨c', g1, g2, g3, g4⟩ := h3.2.2.2.2.2 a c ha
  refine ⟨c', g1, g2, g3, fun i _ => g4 i (fun hm => ?_)⟩
  have h9 := hf _ hm
  have h8 := (Array.getElem?_eq_some_iff.mp ha).1
  exact absurd h8 (Nat.not_lt.mpr h9)
set_option maxHeartbeats 1000000 in
theorem whole_of (hgo : go_all) {p : Program} {e : Env} {s : State} {m : MethodId} {below : List Frame} {meth : Method} {c : Code} (l : Launch) {b L : Nat} {xs : Nat → Int32} (hL : L ≤ 260) (C0 : lw_At p s m meth c b L xs) : W p l e room_1 s m #[Value.ref b] below meth c s.heap [] 0 0 (lw_Z below #[Value.ref b] s) (entryFrame m ([Value.ref b] : List Value).toArray 16) := by
  obtain ⟨hx, hb, hr, hml, hown, hts, hX, hbl, hlocks, hgv⟩ := C0
  have tb : ∀ w ∈ mh_TB, w.before #[Value.ref b] s = true := fun w hw => (List.mem_append.mp (List.mem_filter.mp hw).1).elim (cs_sup hts w) (hts w)
  obtain ⟨ad0, hE⟩ := cs_E hts hgv
  obtain ⟨D, hK⟩ := cs_K tb
  have hl := lv_entry ([.ref b]) (n := 16) (Nat.le_of_ble_eq_true rfl)
  rw [lg_entry_eq]
  generalize (lg_sl ([.ref b]) ++ List.replicate (16 - (lg_sl ([.ref b])).length) Slot.unset).toArray = ls at hl ⊢
  have hl : lv_has ls 16 [(0, .ref b)] := hl
  have hk := hgo (L, xs) hL p l e s m #[Value.ref b] below meth c D (fun a => if a < 1000 then s.heap.size + a else if a = 1040 then b else ad0 a) (fun q => s.heap.size ≤ q) (fun _ => 0) s.heap [] ls
    ⟨hx, hb, hml, hr, hlocks, (fun h => by cases h), hown, tb, hE.congr40 (fun a h1 h2 => (if_neg (Nat.not_lt.mpr h1)).trans (if_neg h2)), fun q => ⟨fun h => Or.inr h, fun h => h.elim (fun ⟨a, h1, _⟩ => absurd h1 (Nat.not_lt_zero a)) id⟩, fun a _ h2 => by dsimp only; rw [if_pos h2]; rfl, ⟨hX, hbl, fun h => absurd h (Nat.not_le.mpr hbl)⟩⟩
    ⟨⟨fun k q h => by simp [mh_ws] at h, ⟨fun i j p q h => by simp [mh_ws] at h, fun k q h => by simp [mh_ws] at h⟩, hK, fun a t n r h => by simp at h⟩, va_S.rf, hl, Nat.le_refl 0, by decide⟩
  intro T hT X
  obtain ⟨t, h1, o, h2, h3, ⟨⟨r, cA, sh, I1, L1, ho, hφ, -⟩, -⟩, Lc, hF, hfree⟩ := hk T hT X
  refine ⟨t, h1, o, h2, h3, ?_, fr_drop hF hfree⟩
  rw [ho, show r = some (.int 1) from hφ]
  rfl
