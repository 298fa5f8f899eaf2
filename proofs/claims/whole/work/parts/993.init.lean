/-! PURE: the start -/
def z5 : mh_I := cI_X5 (fun _ _ => 0)
def zL : mh_L := cL_X5 (fun _ _ => 0)
def z6 : mh_I := cI_X6 (fun _ _ => 0)
theorem i_len : J0_length_8abf5 0 = some (nI 61) := by decide +kernel
theorem i_at : ∀ u, u < 61 → J0_charAt_5068e 0 (nI u) = some (nI (fB.getD u 0)) := by decide +kernel
theorem i_b : ∀ u, u < 61 → fB.getD u 0 < 256 := by decide +kernel
theorem z5_23 : ∀ c, c < 48 → z5 2 c = 0 ∧ z5 3 c = 0 := by decide +kernel
theorem z5_0 : z5 1 4 = 0 ∧ z5 0 2 = 0 ∧ z5 0 5 = 0 ∧ z5 7 1 = 0 := by decide +kernel
theorem z5_s : ∀ s, s < 4 → z5 (38 + 2 * s) 1 = -1 ∧ z5 (38 + 2 * s) 2 = 0 := by decide +kernel
theorem z5_n : ∀ s, s < 4 → ∀ i, i < 48 → z5 (39 + 2 * s) i = 0 := by decide +kernel
theorem zL_0 : zL 1 2 = qS (fun _ => false) ∧ zL 1 3 = qS (fun _ => false) := by decide +kernel
theorem z6_1 : ∀ c, c < 48 → z6 1 c = 0 ∧ z6 2 c = 0 ∧ z6 3 c = 0 ∧ z6 4 c = 0 := by decide +kernel
theorem z6_0 : z6 0 9 = 0 ∧ z6 0 10 = 0 ∧ z6 0 8 = 0 := by decide +kernel
theorem z6_s : ∀ s, s < 4 → z6 9 s = -1 ∧ z6 10 s = 0 := by decide +kernel
theorem z6_n : ∀ s, s < 4 → ∀ i, i < 48 → z6 11 (48 * s + i) = 0 := by decide +kernel
theorem z6_w : ∀ k, k < 96 → z6 13 k = wT.getD k 0 := by decide +kernel
theorem z6_f : ∀ k, k < 61 → z6 12 k = nI (fB.getD k 0) := by decide +kernel
theorem i_ne : ∀ s, s < 161 → ((-100 : Int32) - nI s = 0) = False := by decide +kernel
theorem i_5 : ∃ I1, X5_init_l128 mh_fuel 0 z5 = some I1 ∧ I1 7 1 = nI 61 ∧ (∀ i, i < 61 → I1 8 i = nI (fB.getD i 0)) ∧ ∀ a i, a ≠ 8 → ¬ (a = 7 ∧ i = 1) → I1 a i = z5 a i := by
  obtain ⟨F, hF, eF⟩ := fuel_ex
  rw [eF]
  refine pl_up (fun f j I => X5_init_l128 f j I) 61 (fun r => ∃ I1, r = some I1 ∧ I1 7 1 = nI 61 ∧ (∀ i, i < 61 → I1 8 i = nI (fB.getD i 0)) ∧ ∀ a i, a ≠ 8 → ¬ (a = 7 ∧ i = 1) → I1 a i = z5 a i) (fun j I1 => I1 7 1 = nI j ∧ (∀ i, i < j → I1 8 i = nI (fB.getD i 0)) ∧ ∀ a i, a ≠ 8 → ¬ (a = 7 ∧ i = 1) → I1 a i = z5 a i) (fun f I1 h => ?_) (fun f j I1 hj h => ?_) F 0 z5 (by omega) (by omega) ⟨z5_0.2.2.2, fun i hi => by omega, fun _ _ _ _ => rfl⟩
  · refine ⟨I1, ?_, h⟩
    show X5_init_l128 (f + 1) (nI 61) I1 = some I1
    rw [X5_init_l128, i_len, po_b, if_pos (Int32.le_refl _)]
  · left
    obtain ⟨g1, g2, g3⟩ := h
    refine ⟨mh_u (mh_u I1 7 1 (nI (j + 1))) 8 j (nI (fB.getD j 0)), ⟨by rw [pu_a (by decide), pu_s], fun i hi => ?_, fun a i n1 n2 => ?_⟩, ?_⟩
    · by_cases c : i = j
      · subst c; rw [pu_s]
      · rw [pu_k c, pu_a (by decide), g2 i (by omega)]
    · rw [pu_a n1, show mh_u I1 7 1 (nI (j + 1)) a i = I1 a i from if_neg n2, g3 a i n1 n2]
    · show X5_init_l128 (f + 1) (nI j) I1 = X5_init_l128 f (nI (j + 1)) _
      rw [X5_init_l128, i_len, po_b, if_neg (nI_ge hj (by omega)), i_at j hj, po_b, X3_add_ok g1 (by omega), po_b, show nI j + (1 : Int32) = nI (j + 1) from nI_add j 1]
theorem i_6 : ∃ I1, X6_init_l1092 mh_fuel 0 z6 = some I1 ∧ (∀ i, i < 61 → I1 5 i = nI (fB.getD i 0)) ∧ ∀ a i, a ≠ 5 → I1 a i = z6 a i := by
  obtain ⟨F, hF, eF⟩ := fuel_ex
  rw [eF]
  refine pl_up (fun f j I => X6_init_l1092 f j I) 61 (fun r => ∃ I1, r = some I1 ∧ (∀ i, i < 61 → I1 5 i = nI (fB.getD i 0)) ∧ ∀ a i, a ≠ 5 → I1 a i = z6 a i) (fun j I1 => (∀ i, i < j → I1 5 i = nI (fB.getD i 0)) ∧ ∀ a i, a ≠ 5 → I1 a i = z6 a i) (fun f I1 h => ?_) (fun f j I1 hj h => ?_) F 0 z6 (by omega) (by omega) ⟨fun i hi => by omega, fun _ _ _ => rfl⟩
  · refine ⟨I1, ?_, h⟩
    show X6_init_l1092 (f + 1) (nI 61) I1 = some I1
    rw [X6_init_l1092, if_pos (show (61 : Int32) ≤ nI 61 by decide)]
  · left
    obtain ⟨g1, g2⟩ := h
    refine ⟨mh_u I1 5 j (I1 12 j), ⟨fun i hi => ?_, fun a i n1 => by rw [pu_a n1, g2 a i n1]⟩, ?_⟩
    · by_cases c : i = j
      · subst c; rw [pu_s, g2 12 i (by decide), z6_f i hj]
      · rw [pu_k c, g1 i (by omega)]
    · show X6_init_l1092 (f + 1) (nI j) I1 = X6_init_l1092 f (nI (j + 1)) _
      rw [X6_init_l1092, if_neg (show ¬ (61 : Int32) ≤ nI j from (nI_ge hj (by omega) : ¬ nI 61 ≤ nI j)), px_ix (show j < 61 by omega) (by decide), px_ix (show j < 160 by omega) (by decide), show nI j + (1 : Int32) = nI (j + 1) from nI_add j 1]
theorem whole_init : ∃ r5 r6, X5_init (fun _ _ => 0) (fun _ _ => 0) = some r5 ∧ X6_init (fun _ _ => 0) = some r6 ∧ Rel r5.2.2 r5.1 r5.2.1 r6 := by
  obtain ⟨I1, a1, a2, a3, a4⟩ := i_5
  obtain ⟨J1, b1, b2, b3⟩ := i_6
  have hBI : BI (14 + 4 * 0) 61 (fun i => fB.getD i 0) I1 := ⟨by omega, by omega, i_b, a2, a3⟩
  have hBF : BS 0 61 (fun i => fB.getD i 0) jF := ⟨by omega, by omega, i_b, rfl, fun i _ => rfl, fun k _ => rfl, rfl⟩
  obtain ⟨J2, hJ2⟩ : ∃ J2, J2 = mh_u J1 0 5 (61 : Int32) := ⟨_, rfl⟩
  have fJ : ∀ a i, a ≠ 5 → ¬ (a = 0 ∧ i = 5) → J2 a i = z6 a i := fun a i n1 n2 => by
    rw [hJ2, show mh_u J1 0 5 (61 : Int32) a i = J1 a i from if_neg n2, b3 a i n1]
  have hBS : BS 0 61 (fun i => fB.getD i 0) J2 := ⟨by omega, by omega, i_b, by rw [hJ2, pu_s]; rfl, fun i hi => by rw [hJ2, pu_a (by decide), b2 i hi], fun k hk => by rw [fJ 13 k (by omega) (by omega), z6_w k hk], by rw [fJ 0 8 (by decide) (by decide), z6_0.2.2]; rfl⟩
  have h05 : I1 0 5 = nI 0 := by rw [a4 0 5 (by decide) (by decide), z5_0.2.2.1]; rfl
  obtain ⟨X1, Y1, w, c1, c2, -⟩ := t_text hBI hBF h05 none
  have hw : w = 0 := by
    have := f_ev
    rw [c2] at this
    exact Option.some.inj this
  obtain ⟨I', J', a, d1, d2, d3, d4, d5, d6, d7⟩ := t_text hBI hBS h05 none
  have haw : a = 0 := by
    rw [c1] at d1
    have := congrArg Prod.fst (Option.some.inj d1)
    exact this.symm.trans hw
  have hrt : X5_readTape I1 none = some (a, I', some (14 + 4 * 0)) := by
    unfold X5_text at d1
    cases hq : X5_readTape I1 none with
    | none => rw [hq] at d1; cases d1
    | some q =>
      rw [hq, po_b] at d1
      exact d1
  rcases d7 with ⟨w1, w2, s', w3, w4⟩ | ⟨w1, w2, w3, w4⟩
  · exact absurd (w4.symm.trans haw) (fun hh => by rw [i_ne s' (by omega)] at hh; exact hh)
  · refine ⟨(I', zL, some (14 + 4 * 0)), J', ?_, ?_, ?_⟩
    · unfold X5_init
      show (X5_init_l128 mh_fuel 0 z5).bind _ = _
      rw [a1, po_b, hrt, po_b]
      rfl
    · unfold X6_init
      show (X6_init_l1092 mh_fuel 0 z6).bind _ = _
      rw [b1, po_b, ← hJ2, d2, po_b]
    · have x : ∀ a i, a < 7 → ¬ (a = 0 ∧ i = 5) → I' a i = z5 a i := fun a i n1 n2 => (d3 a i (by omega) (by omega) (by omega) (by omega) n2).trans (a4 a i (by omega) (by omega))
      have xs : ∀ a i, 38 ≤ a → I' a i = z5 a i := fun a i n1 => (d3 a i (by omega) (by omega) (by omega) (by omega) (by omega)).trans (a4 a i (by omega) (by omega))
      have y : ∀ a i, 1 ≤ a → a < 5 → J' a i = z6 a i := fun a i n1 n2 => (d4 a i (by omega) (by omega) (by omega) (by omega)).trans (fJ a i (by omega) (by omega))
      have y0 : ∀ i, 9 ≤ i → i < 17 → J' 0 i = z6 0 i := fun i n1 n2 => (d4 0 i (by omega) (by omega) (by omega) (by omega)).trans (fJ 0 i (by omega) (by omega))
      have y9 : ∀ a i, 9 ≤ a → a < 14 → J' a i = z6 a i := fun a i n1 n2 => (d4 a i (by omega) (by omega) (by omega) (by omega)).trans (fJ a i (by omega) (by omega))
      refine ⟨fun t ht => by cases ht; omega, ⟨fun _ => 0, fun _ => 0, fun _ => false, fun _ => false, 0, 1, ⟨⟨fun c hc => (x 2 c (by omega) (by omega)).trans (z5_23 c hc).1, fun c hc => (show (0 : Nat) < 6 by decide), fun c hc => (x 3 c (by omega) (by omega)).trans (z5_23 c hc).2, fun c hc => (show (0 : Nat) < 10 by decide), zL_0.1, zL_0.2, (x 1 4 (by omega) (by omega)).trans z5_0.1⟩, ⟨fun c hc => (y 1 c (by omega) (by omega)).trans (z6_1 c hc).1, fun c hc => (y 2 c (by omega) (by omega)).trans (z6_1 c hc).2.1, fun c hc => (y 3 c (by omega) (by omega)).trans (z6_1 c hc).2.2.1, fun c hc => (y 4 c (by omega) (by omega)).trans (z6_1 c hc).2.2.2, (y0 9 (by omega) (by omega)).trans z6_0.1⟩, by omega, by omega, w1, w2, fun v hv => by rw [show v = 0 by omega]; exact w4⟩, .inl ⟨(x 0 2 (by omega) (by omega)).trans z5_0.2.1, (y0 10 (by omega) (by omega)).trans z6_0.2.1⟩⟩, ⟨0, by omega, d5, d6, fun i hi => by omega⟩, fun s hs => ?_, fun k hk => (y9 13 k (by omega) (by omega)).trans (z6_w k hk)⟩
      obtain ⟨s1, s2⟩ := z5_s s hs
      obtain ⟨s3, s4⟩ := z6_s s hs
      refine ⟨.inl ((xs _ 1 (by omega)).trans s1), ?_, ⟨0, by omega, (xs _ 2 (by omega)).trans s2, (y9 10 s (by omega) (by omega)).trans s4⟩, fun i hi => ?_⟩
      · show J' 9 s = I' (38 + 2 * s) 1
        rw [y9 9 s (by omega) (by omega), s3, xs _ 1 (by omega), s1]
      · show J' 11 (48 * s + i) = I' (39 + 2 * s) i
        rw [y9 11 _ (by omega) (by omega), z6_n s hs i hi, xs _ i (by omega), z5_n s hs i hi]
