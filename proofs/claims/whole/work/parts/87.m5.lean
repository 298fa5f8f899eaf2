/-! PURE: trailing zeros; run, goes, mending -/
theorem ntz_core {n j : Nat} (h1 : n.testBit j = true) (h0 : ∀ i, i < j → n.testBit i = false) : ∃ m, n = 2 ^ j * (2 * m + 1) := by
  have e0 : n % 2 ^ j = 0 := by
    apply Nat.eq_of_testBit_eq
    intro i
    rw [Nat.testBit_mod_two_pow, Nat.zero_testBit]
    by_cases h : i < j
    · rw [h0 i h, Bool.and_false]
    · rw [decide_eq_false h, Bool.false_and]
  have e1 : n / 2 ^ j % 2 = 1 := by
    rw [Nat.testBit_eq_decide_div_mod_eq] at h1
    exact of_decide_eq_true h1
  refine ⟨n / 2 ^ j / 2, ?_⟩
  have e2 := Nat.div_add_mod n (2 ^ j)
  rw [e0, Nat.add_zero] at e2
  rw [show 2 * (n / 2 ^ j / 2) + 1 = n / 2 ^ j by omega]
  exact e2.symm
theorem ntz_bits {n j : Nat} (hj : j < 32) (h1 : n.testBit j = true) (h0 : ∀ i, i < j → n.testBit i = false) : ((nI n ^^^ (-1 : Int32)) &&& (nI n - (1 : Int32))) = nI (2 ^ j - 1) := by
  obtain ⟨m, hm⟩ := ntz_core h1 h0
  have hp : 0 < 2 ^ j := Nat.two_pow_pos j
  have hn1 : 1 ≤ n := by
    rw [hm]
    exact Nat.mul_pos hp (by omega)
  have e1 : nI n - (1 : Int32) = nI (n - 1) := pk_sub (b := 1) hn1
  have hn2 : n - 1 = 2 ^ j * (2 * m) + (2 ^ j - 1) := by
    rw [hm, Nat.mul_add, Nat.mul_one]
    omega
  have hn3 : n = 2 ^ j * (2 * m + 1) + 0 := hm
  rw [e1]
  apply Int32.toBitVec_inj.mp
  apply BitVec.eq_of_getLsbD_eq
  intro i hi
  rw [Int32.toBitVec_and, Int32.toBitVec_xor, BitVec.getLsbD_and, BitVec.getLsbD_xor, show (-1 : Int32).toBitVec = BitVec.allOnes 32 by decide, BitVec.getLsbD_allOnes, decide_eq_true hi]
  show (((BitVec.ofNat 32 n).getLsbD i ^^ true) && (BitVec.ofNat 32 (n - 1)).getLsbD i) = (BitVec.ofNat 32 (2 ^ j - 1)).getLsbD i
  rw [BitVec.getLsbD_ofNat, BitVec.getLsbD_ofNat, BitVec.getLsbD_ofNat, decide_eq_true hi, Bool.true_and, Bool.true_and, Bool.true_and, Nat.testBit_two_pow_sub_one]
  have t1 : n.testBit i = if i < j then false else (2 * m + 1).testBit (i - j) := by
    rw [hn3, Nat.testBit_two_pow_mul_add _ hp, Nat.zero_testBit]
  have t2 : (n - 1).testBit i = if i < j then true else (2 * m).testBit (i - j) := by
    rw [hn2, Nat.testBit_two_pow_mul_add _ (by omega), Nat.testBit_two_pow_sub_one]
    by_cases h : i < j
    · rw [if_pos h, if_pos h, decide_eq_true h]
    · rw [if_neg h, if_neg h]
  rw [t1, t2]
  by_cases h : i < j
  · rw [if_pos h, if_pos h, decide_eq_true h]; rfl
  · rw [if_neg h, if_neg h, decide_eq_false h]
    cases i - j with
    | zero => rw [show (2 * m).testBit 0 = false by rw [Nat.testBit_zero]; simp, Bool.and_false]
    | succ k =>
      rw [Nat.testBit_succ, Nat.testBit_succ, show (2 * m + 1) / 2 = m by omega, show 2 * m / 2 = m by omega]
      cases m.testBit k <;> rfl
theorem ntz_pow : ∀ j, j < 32 → J6_numberOfTrailingZeros_0f7a4 (nI (2 ^ j)) = some (nI j) := by decide +kernel
theorem ntz_32 {n j : Nat} (hj : j < 32) (h1 : n.testBit j = true) (h0 : ∀ i, i < j → n.testBit i = false) : J6_numberOfTrailingZeros_0f7a4 (nI n) = some (nI j) := by
  rw [← ntz_pow j hj]
  unfold J6_numberOfTrailingZeros_0f7a4
  rw [ntz_bits hj h1 h0, ntz_bits (n := 2 ^ j) hj (by rw [Nat.testBit_two_pow]; simp) (fun i hi => by rw [Nat.testBit_two_pow]; simp; omega)]
theorem nI_mod (x : Nat) : nI x = nI (x % 2 ^ 32) := by
  apply Int32.toBitVec_inj.mp
  show BitVec.ofNat 32 x = BitVec.ofNat 32 (x % 2 ^ 32)
  apply BitVec.eq_of_toNat_eq
  rw [BitVec.toNat_ofNat, BitVec.toNat_ofNat, Nat.mod_mod]
theorem qS_ntz {p : Nat → Bool} {j : Nat} (hj : j < 48) (hp : p j = true) (hlow : ∀ i, i < j → p i = false) : J13_numberOfTrailingZeros_95d88 (qS p) = some (nI j) := by
  have hl := qS_lt p
  have hb : ∀ i, (pS p 48).testBit i = (decide (i < 48) && p i) := pS_bit p 48
  unfold J13_numberOfTrailingZeros_95d88 qS
  rw [pj_b, lN_i]
  by_cases h : j < 32
  · have hne : ¬ nI (pS p 48) = 0 := by
      intro e
      have e2 := congrArg Int32.toBitVec e
      have e3 := congrArg (fun x => BitVec.getLsbD x j) e2
      have e4 : (BitVec.ofNat 32 (pS p 48)).getLsbD j = (0#32).getLsbD j := e3
      rw [BitVec.getLsbD_ofNat, hb, decide_eq_true h, decide_eq_true hj, hp] at e4
      simp at e4
    rw [if_neg hne, ntz_32 h (by rw [hb, decide_eq_true hj, hp]; rfl) (fun i hi => by rw [hb, hlow i hi, Bool.and_false]), po_b]
  · have hz : pS p 48 % 2 ^ 32 = 0 := by
      apply Nat.eq_of_testBit_eq
      intro i
      rw [Nat.testBit_mod_two_pow, Nat.zero_testBit]
      by_cases hi : i < 32
      · rw [hb, hlow i (by omega), Bool.and_false, Bool.and_false]
      · rw [decide_eq_false hi, Bool.false_and]
    rw [if_pos (by rw [nI_mod, hz]; rfl)]
    have e1 : mh_ushrl (lN (pS p 48)) (32 : Int32) = lN (pS p 48 / 2 ^ 32) := qu_l (by omega) 32 (by decide)
    have hb2 : ∀ i, (pS p 48 / 2 ^ 32).testBit i = (decide (i + 32 < 48) && p (i + 32)) := fun i => by
      rw [Nat.testBit_div_two_pow, hb, Nat.add_comm]
    rw [e1, lN_i, ntz_32 (j := j - 32) (by omega) (by rw [hb2, show j - 32 + 32 = j by omega, decide_eq_true hj, hp]; rfl) (fun i hi => by rw [hb2, hlow _ (by omega), Bool.and_false]), po_b]
    simp only [pn_ar]
    rw [show 32 + (j - 32) = j by omega]
theorem p_lowest {L' : mh_L} {J' : mh_I} {R : Nat → Nat} (hg : L' 10 1 = qS (fun c => decide (0 < R c))) (hm : ∀ c, c < 48 → J' 17 c = dI (R c)) (hl : ∀ i, i < 48 → R i ≤ 100) : ∃ v, X5_lowestRow L' = some v ∧ X6_lowest J' = some v := by
  obtain ⟨F, hF, eF⟩ := fuel_ex
  have h6 : (X6_lowest J' = some (-1) ∧ ∀ i, i < 48 → R i = 0) ∨ ∃ j, j < 48 ∧ X6_lowest J' = some (nI (j / 6)) ∧ 0 < R j ∧ ∀ i, i < j → R i = 0 := by
    unfold X6_lowest
    rw [eF]
    refine pl_up (fun f j (_ : Unit) => X6_lowest_l2 J' f j) 48 (fun r => (r = some (-1) ∧ ∀ i, i < 48 → R i = 0) ∨ ∃ j, j < 48 ∧ r = some (nI (j / 6)) ∧ 0 < R j ∧ ∀ i, i < j → R i = 0) (fun j _ => ∀ i, i < j → R i = 0) ?_ ?_ F 0 () (by omega) (by omega) (fun i hi => absurd hi (Nat.not_lt_zero i))
    · intro f _ h
      refine .inl ⟨?_, h⟩
      show X6_lowest_l2 J' (f + 1) (nI 48) = _
      rw [X6_lowest_l2, if_pos (show (48 : Int32) ≤ nI 48 by decide)]
    · intro f j _ hj h
      have hle := hl j hj
      show (∃ s' : Unit, (∀ i, i < j + 1 → R i = 0) ∧ X6_lowest_l2 J' (f + 1) (nI j) = X6_lowest_l2 J' f (nI (j + 1))) ∨ ((X6_lowest_l2 J' (f + 1) (nI j) = some (-1) ∧ ∀ i, i < 48 → R i = 0) ∨ ∃ j_1, j_1 < 48 ∧ X6_lowest_l2 J' (f + 1) (nI j) = some (nI (j_1 / 6)) ∧ 0 < R j_1 ∧ ∀ i, i < j_1 → R i = 0)
      have e : X6_lowest_l2 J' (f + 1) (nI j) = if R j = 0 then X6_lowest_l2 J' f (nI (j + 1)) else some (nI (j / 6)) := by
        rw [X6_lowest_l2]
        simp (disch := omega) only [pn_ll, if_neg, px_ix, hm, dIm, pj_b, pn_al, pn_dv]
      rw [e]
      by_cases hr : R j = 0
      · left
        refine ⟨(), fun i hi => ?_, by rw [if_pos hr]⟩
        by_cases ei : i = j
        · subst ei; exact hr
        · exact h i (by omega)
      · right; right
        exact ⟨j, hj, by rw [if_neg hr], by omega, h⟩
  unfold X5_lowestRow
  rw [hg]
  simp only [qS_z]
  rcases h6 with ⟨h6, h0⟩ | ⟨j, hj, h6, hr, h0⟩
  · refine ⟨-1, ?_, h6⟩
    rw [if_pos (fun i hi => decide_eq_false (by rw [h0 i hi]; omega))]
  · refine ⟨nI (j / 6), ?_, h6⟩
    rw [if_neg (fun hh => by
      have := of_decide_eq_false (hh j hj)
      omega), qS_ntz (p := fun c => decide (0 < R c)) hj (decide_eq_true hr) (fun i hi => decide_eq_false (by rw [h0 i hi]; omega)), po_b]
    simp (disch := omega) only [pn_dv]
theorem p_sum {I : mh_I} {L : mh_L} {J : mh_I} {K M R : Nat → Nat} {P N : Nat → Bool} {u : Nat} {e o : Nat → Nat} (h : R2 I L J K M P N u e o) (rX : ranX I L K R) (rM : ranM J R) (hl : ∀ i, i < 48 → R i ≤ 100) {q : Nat} (hq : q < 3) : ∃ v I2 J2, X5_together (nI q) I L = some (v, I2) ∧ X6_sumOf (nI q) J = some (v, J2) ∧ sfr (14 + 4 * u) I I2 ∧ fr16 J J2 := by
  obtain ⟨F, hF, eF⟩ := fuel_ex
  obtain ⟨⟨h1, h2, h3, h4, h5, h6, h7, h8, h9⟩, ⟨g1, g2, g3, g4, g5, g6, g7, g8, g9, g10⟩, k⟩ := h
  unfold X5_together X6_sumOf
  rw [eF]
  refine pl_2 (fun f j (x : Int32 × mh_I) => X5_together_l4 (nI q) L f x.1 (nI j) x.2) (fun f j (x : Int32 × mh_I) => X6_sumOf_l4 (nI q) f x.1 (nI j) x.2) 48 (fun a b => ∃ v I2 J2, a = some (v, I2) ∧ b = some (v, J2) ∧ sfr (14 + 4 * u) I I2 ∧ fr16 J J2) (fun j x y => x.1 = y.1 ∧ sfr (14 + 4 * u) I x.2 ∧ fr16 J y.2) ?_ ?_ F 0 (0, I) (0, J) (by omega) (by omega) ⟨rfl, sfr_r _ _, fun _ _ _ _ => rfl⟩
  · rintro f ⟨v, I1⟩ ⟨v', J1⟩ ⟨e1, k1, k2⟩
    dsimp only at e1 k1 k2
    subst e1
    dsimp only
    rw [X5_together_l4, X6_sumOf_l4, if_pos (show (48 : Int32) ≤ nI 48 by decide), if_pos (show (48 : Int32) ≤ nI 48 by decide)]
    exact ⟨_, _, _, rfl, rfl, k1, k2⟩
  · rintro f j ⟨v, I1⟩ ⟨v', J1⟩ hj ⟨e1, k1, k2⟩
    dsimp only at e1 k1 k2
    subst e1
    left
    have hle := hl j hj
    dsimp only
    rw [X5_together_l4, X6_sumOf_l4, rX.2.1, qS_has _ hj, X5_law_ok ((k1 1 4 (by omega)).trans k) h7]
    simp (disch := omega) only [pn_ll, if_neg, px_ix, po_b, pj_j, pj_b, qI0, pn_al]
    rw [k2 17 j (by decide) (by decide), rM.1 j hj, k1 11 j (by omega), rX.1 j hj]
    simp (disch := omega) only [dIm]
    by_cases hr : 0 < R j
    · rw [if_neg (by rw [decide_eq_true hr]; decide), if_neg (show ¬ R j = 0 by omega), dI_pos hr]
      obtain ⟨I2, a1, a2⟩ := cx_says (a := 14 + 4 * u) (m := R j - 1) (I := I1) (L := L) (by omega) h8 ⟨fun i hi => (k1 _ _ (by omega)).trans (h9.1 i hi), fun i hi => (k1 _ _ (by omega)).trans (h9.2 i hi)⟩ hj ((k1 2 j (by omega)).trans (h1 j hj)) (h2 j hj) ((k1 3 j (by omega)).trans (h3 j hj)) h6 hq
      obtain ⟨J2, b1, b2⟩ := cm_asks (m := R j - 1) (J := J1) g7 hq hj ((k2 0 9 (by decide) (by decide)).trans g8) g9 ⟨fun i hi => (k2 _ _ (by decide) (by decide)).trans (g10.1 i hi), fun i hi => (k2 _ _ (by decide) (by decide)).trans (g10.2 i hi)⟩ ((k2 1 j (by decide) (by decide)).trans (g1 j hj)) (g2 j hj) ((k2 2 j (by decide) (by decide)).trans (g3 j hj)) ((k2 4 j (by decide) (by decide)).trans (g6 j hj))
      rw [a1, po_b, b1, po_b]
      exact ⟨(v + nI (sd e o K M N q j (R j - 1)), I2), (v + nI (sd e o K M N q j (R j - 1)), J2), ⟨rfl, sfr_t k1 a2, fun b k n1 n2 => (b2 b k n1 n2).trans (k2 b k n1 n2)⟩, rfl, rfl⟩
    · rw [if_pos (by rw [decide_eq_false hr]), if_pos (show R j = 0 by omega), Int32.add_zero]
      exact ⟨(v, I1), (v, J1), ⟨rfl, k1, k2⟩, rfl, rfl⟩
theorem r_run : RS_run Rel := by
  intro T I L J a1 a2 a3 h
  unfold X5_run X6_run
  rcases pa_loop a1 with ⟨h5, h6⟩ | ⟨c, hc, rfl, h5, h6⟩
  · simp only [h5, h6, po_b, if_true]
    exact ⟨_, _, rfl, rfl, rfl, h⟩
  rcases pa_pull a2 with ⟨k5, k6⟩ | ⟨p, hp, rfl, k5, k6⟩
  · simp only [h5, h6, k5, k6, po_b, if_true, pz_10, if_false]
    exact ⟨_, _, rfl, rfl, rfl, h⟩
  rcases pa_rng a3 3 (n := 3) (by decide) with ⟨g5, g6, -⟩ | ⟨w, hw, rfl, g5, g6⟩
  · simp only [h5, h6, g5, g6, k5, k6, po_b, if_true, pz_10, if_false]
    exact ⟨_, _, rfl, rfl, rfl, h⟩
  obtain ⟨-, ⟨K, M, P, N, u, n, hc1, -⟩, -⟩ := id h
  obtain ⟨e, o, h2⟩ := R2_of hc1
  obtain ⟨I', L', d1, d2, d3, d4⟩ := pd_x h2 hc hp
  obtain ⟨J', e1, e2, e3⟩ := pd_m h2 hc hp
  have hl := RR_le K P (rbf e o K M N) (c := c) hp
  have h' := Rel_fr h d3 d4 e3
  have h2' := R2_fr h2 d3 d4 e3
  have hu : u < 6 := h2.1.2.2.2.2.2.2.1
  simp only [h5, h6, g5, g6, k5, k6, po_b, pz_10, if_false, d1, e1]
  rcases (show w = 0 ∨ w = 1 ∨ w = 2 ∨ w = 3 by omega) with rfl | rfl | rfl | rfl
  · rw [if_pos (by decide), if_pos (by decide), d2.2.1, qS_bitCount, po_b]
    exact ⟨_, _, rfl, rfl, e2.2.symm, h'⟩
  · obtain ⟨v, v1, v2⟩ := p_lowest d2.2.1 e2.1 hl
    rw [if_neg (by decide), if_pos (by decide), v1, po_b, if_neg (by decide), if_pos (by decide), v2, po_b]
    exact ⟨_, _, rfl, rfl, rfl, h'⟩
  · obtain ⟨v, I2, J2, v1, v2, v3, v4⟩ := p_sum h2' d2 e2 hl (q := 1) (by decide)
    have v1 : X5_together (1 : Int32) I' L' = some (v, I2) := v1
    have v2 : X6_sumOf (nI 2 - (1 : Int32)) J' = some (v, J2) := v2
    rw [if_neg (by decide), if_neg (by decide), if_pos (by decide), v1, po_b, if_neg (by decide), if_neg (by decide), v2, po_b]
    exact ⟨_, _, rfl, rfl, rfl, Rel_fr h' (xx_s hu v3) (ll_r _) (jj_16 v4)⟩
  · obtain ⟨v, I2, J2, v1, v2, v3, v4⟩ := p_sum h2' d2 e2 hl (q := 2) (by decide)
    have v1 : X5_together (2 : Int32) I' L' = some (v, I2) := v1
    have v2 : X6_sumOf (nI 3 - (1 : Int32)) J' = some (v, J2) := v2
    rw [if_neg (by decide), if_neg (by decide), if_neg (by decide), v1, po_b, if_neg (by decide), if_neg (by decide), v2, po_b]
    exact ⟨_, _, rfl, rfl, rfl, Rel_fr h' (xx_s hu v3) (ll_r _) (jj_16 v4)⟩
