/-! PURE: goes, mending, mend, column -/
theorem qS_s1 {P : Nat → Bool} {j : Nat} (h : P j = true) : qS (fun i => decide (i < j) && P i) ||| qS (fun i => decide (i = j)) = qS (fun i => decide (i < j + 1) && P i) := by
  rw [qS_or]
  refine qS_ext fun i _ => ?_
  by_cases e : i = j
  · subst e; rw [h]; simp
  · by_cases e2 : i < j
    · rw [decide_eq_true e2, decide_eq_true (show i < j + 1 by omega), decide_eq_false e, Bool.or_false]
    · rw [decide_eq_false e2, decide_eq_false (show ¬ i < j + 1 by omega), decide_eq_false e, Bool.or_false]
theorem qS_s0 {P : Nat → Bool} {j : Nat} (h : P j = false) : qS (fun i => decide (i < j) && P i) = qS (fun i => decide (i < j + 1) && P i) := by
  refine qS_ext fun i _ => ?_
  by_cases e : i = j
  · subst e; rw [h]; simp
  · by_cases e2 : i < j
    · rw [decide_eq_true e2, decide_eq_true (show i < j + 1 by omega)]
    · rw [decide_eq_false e2, decide_eq_false (show ¬ i < j + 1 by omega)]
theorem qS_sE {P : Nat → Bool} : qS (fun i => decide (i < 48) && P i) = qS P := qS_ext fun i hi => by rw [decide_eq_true hi, Bool.true_and]
theorem qS_sI {P : Nat → Bool} : (0 : Int64) = qS (fun i => decide (i < 0) && P i) := by
  rw [qS_0]
  refine qS_ext fun i _ => ?_
  rw [decide_eq_false (Nat.not_lt_zero i), Bool.false_and]
theorem r_goes : RS_goes Rel := by
  intro T I L J a1 a2 a3 h
  obtain ⟨F, hF, eF⟩ := fuel_ex
  unfold X5_goes X6_goes
  rw [eF]
  rcases pa_loop a1 with ⟨h5, h6⟩ | ⟨c, hc, rfl, h5, h6⟩
  · simp only [h5, h6, po_b, if_true]
    exact ⟨_, _, rfl, rfl, rfl, h⟩
  rcases pa_pull a2 with ⟨k5, k6⟩ | ⟨p, hp, rfl, k5, k6⟩
  · simp only [h5, h6, k5, k6, po_b, if_true, pz_10, if_false]
    exact ⟨_, _, rfl, rfl, rfl, h⟩
  rcases pa_rng a3 1 (n := 1) (by decide) with ⟨g5, g6, -⟩ | ⟨w, hw, rfl, g5, g6⟩
  · simp only [h5, h6, g5, g6, k5, k6, po_b, if_true, pz_10, if_false]
    exact ⟨_, _, rfl, rfl, rfl, h⟩
  obtain ⟨-, ⟨K, M, P, N, u, n, hc1, -⟩, -⟩ := id h
  obtain ⟨e, o, h2⟩ := R2_of hc1
  obtain ⟨I', L', d1, d2, d3, d4⟩ := pd_x h2 hc hp
  obtain ⟨J', e1, e2, e3⟩ := pd_m h2 hc hp
  have hl := RR_le K P (rbf e o K M N) (c := c) hp
  have h' := Rel_fr h d3 d4 e3
  have h2' := R2_fr h2 d3 d4 e3
  simp only [h5, h6, g5, g6, k5, k6, po_b, pz_10, if_false, d1, e1]
  have hloop : ∀ (Q : Nat → Bool), (∀ i, i < 48 → Q i = if w = 0 then decide (0 < RR K P (rbf e o K M N) c p i) else (decide (RR K P (rbf e o K M N) c p i = 0) && decide (0 < rA K (RR K P (rbf e o K M N) c p) i))) → X6_goes_l39 (nI w) J' F (0 : Int64) (0 : Int32) = some (qS Q, J') := by
    intro Q hQ
    refine pl_up (fun f j s => X6_goes_l39 (nI w) J' f s j) 48 (fun r => r = some (qS Q, J')) (fun j s => s = qS (fun i => decide (i < j) && Q i)) ?_ ?_ F 0 0 (by omega) (by omega) qS_sI
    · intro f s hs
      show X6_goes_l39 (nI w) J' (f + 1) s (nI 48) = _
      rw [X6_goes_l39, if_pos (show (48 : Int32) ≤ nI 48 by decide), hs, qS_sE]
    · intro f j s hj hs
      left
      refine ⟨_, rfl, ?_⟩
      show X6_goes_l39 (nI w) J' (f + 1) s (nI j) = X6_goes_l39 (nI w) J' f (qS (fun i => decide (i < j + 1) && Q i)) (nI (j + 1))
      have hq := hQ j hj
      have hle := hl j hj
      have hal : rA K (RR K P (rbf e o K M N) c p) j ≤ 100 := rA_le (fun i _ hi => hl i hi)
      rw [X6_goes_l39, cm_allGone h2'.2.1.1 h2'.2.1.2.1 hj (fun i _ hi => e2.1 i hi) hl, hs]
      simp (disch := omega) only [pn_ll, if_neg, px_ix, po_b, pj_j, pj_b, pn_al, e2.1, dIm, pz_10, if_false, if_true, qS_sh]
      rcases (show w = 0 ∨ w = 1 by omega) with rfl | rfl
      · simp only [show (nI 0 = 0) = True from eq_true rfl, if_true]
        rw [if_pos rfl] at hq
        by_cases hr : RR K P (rbf e o K M N) c p j = 0
        · rw [if_pos hr, Int64.or_zero, qS_s0 (by rw [hq, hr]; rfl)]
        · rw [if_neg hr, qS_s1 (by rw [hq]; exact decide_eq_true (by omega))]
      · simp only [show (nI 1 = 0) = False by decide, if_false]
        rw [if_neg (by decide)] at hq
        by_cases hr : RR K P (rbf e o K M N) c p j = 0
        · rw [if_pos hr]
          by_cases ha : rA K (RR K P (rbf e o K M N) c p) j = 0
          · rw [if_pos ha, Int64.or_zero, qS_s0 (by rw [hq, ha]; simp)]
          · rw [if_neg ha, qS_s1 (by rw [hq, decide_eq_true hr, decide_eq_true (show 0 < rA K (RR K P (rbf e o K M N) c p) j by omega)]; rfl)]
        · rw [if_neg hr, Int64.or_zero, qS_s0 (by rw [hq, decide_eq_false hr]; rfl)]
  rcases (show w = 0 ∨ w = 1 by omega) with rfl | rfl
  · rw [if_pos (by decide), hloop (fun i => decide (0 < RR K P (rbf e o K M N) c p i)) (fun i _ => by rw [if_pos rfl])]
    exact ⟨_, _, rfl, rfl, d2.2.1, h'⟩
  · rw [if_neg (by decide), hloop (fun i => decide (RR K P (rbf e o K M N) c p i = 0) && decide (0 < rA K (RR K P (rbf e o K M N) c p) i)) (fun i _ => by rw [if_neg (by decide)])]
    exact ⟨_, _, rfl, rfl, d2.2.2, h'⟩
theorem r_mending : RS_mending Rel := by
  intro T I L J a1 a2 a3 h
  unfold X5_mending X6_mending
  rcases pa_loop a1 with ⟨h5, h6⟩ | ⟨c, hc, rfl, h5, h6⟩
  · simp only [h5, h6, po_b, if_true]
    exact ⟨_, _, rfl, rfl, rfl, h⟩
  rcases pa_pull a2 with ⟨k5, k6⟩ | ⟨p, hp, rfl, k5, k6⟩
  · simp only [h5, h6, k5, k6, po_b, if_true, pz_10, if_false]
    exact ⟨_, _, rfl, rfl, rfl, h⟩
  rcases pa_rng a3 1 (n := 1) (by decide) with ⟨g5, g6, -⟩ | ⟨w, hw, rfl, g5, g6⟩
  · simp only [h5, h6, g5, g6, k5, k6, po_b, if_true, pz_10, if_false]
    exact ⟨_, _, rfl, rfl, rfl, h⟩
  obtain ⟨-, ⟨K, M, P, N, u, n, hc1, -⟩, -⟩ := id h
  obtain ⟨e, o, h2⟩ := R2_of hc1
  obtain ⟨I', L', d1, d2, d3, d4⟩ := pd_x h2 hc hp
  obtain ⟨J', e1, e2, e3⟩ := pd_m h2 hc hp
  have hl := RR_le K P (rbf e o K M N) (c := c) hp
  have h' := Rel_fr h d3 d4 e3
  have h2' := R2_fr h2 d3 d4 e3
  have hu : u < 6 := h2.1.2.2.2.2.2.2.1
  have hgn := gn_le (RR K P (rbf e o K M N) c p)
  simp only [h5, h6, g5, g6, k5, k6, po_b, pz_10, if_false, d1, e1]
  have hz : (lg_cmp (L' 10 1) (0 : Int64) = 0) = (gn (RR K P (rbf e o K M N) c p) = 0) := by
    rw [d2.2.1, qS_z]
    exact propext (qC_0 (n := 48)).symm
  simp (disch := omega) only [hz, e2.2, pn_er]
  by_cases h0 : gn (RR K P (rbf e o K M N) c p) = 0
  · simp only [h0, if_true]
    by_cases hw0 : w = 0
    · simp only [hw0, if_true]
      exact ⟨_, _, rfl, rfl, rfl, h'⟩
    · simp only [hw0, if_false]
      exact ⟨_, _, rfl, rfl, rfl, h'⟩
  · simp only [h0, if_false]
    obtain ⟨v, I2, J2, v1, v2, v3, v4⟩ := p_sum h2' d2 e2 hl (q := 1) (by decide)
    have v1 : X5_together (1 : Int32) I' L' = some (v, I2) := v1
    have v2 : X6_sumOf (1 : Int32) J' = some (v, J2) := v2
    obtain ⟨lo, l1, l2⟩ := p_lowest (J' := J2) d2.2.1 (fun c hc => (v4 17 c (by decide) (by decide)).trans (e2.1 c hc)) hl
    rw [v1, po_b, v2, po_b]
    dsimp only
    have v29 : J2 0 29 = nI (gn (RR K P (rbf e o K M N) c p)) := (v4 0 29 (by decide) (by decide)).trans e2.2
    simp only [po_b, pj_b, pj_j, l1, l2, d2.2.1, qS_bitCount, v29]
    have hfin := Rel_fr h' (xx_s hu v3) (ll_r _) (jj_16 v4)
    show ∃ q r, _ ∧ _ ∧ _ ∧ _
    unfold gn
    generalize (24 : Int32) * ((8 : Int32) - lo) = b8
    generalize (50 : Int32) + nI (qC (fun c_1 => decide (0 < RR K P (rbf e o K M N) c p c_1)) 48) = b14
    by_cases c1 : v ≤ b8
    · simp only [c1, if_true]
      by_cases c2 : v ≤ b14
      · simp only [c2, if_true]
        by_cases hw0 : w = 0
        · simp only [hw0, if_true]; exact ⟨_, _, rfl, rfl, rfl, hfin⟩
        · simp only [hw0, if_false]; exact ⟨_, _, rfl, rfl, rfl, hfin⟩
      · simp only [c2, if_false]
        by_cases hw0 : w = 0
        · simp only [hw0, if_true]; exact ⟨_, _, rfl, rfl, rfl, hfin⟩
        · simp only [hw0, if_false]; exact ⟨_, _, rfl, rfl, rfl, hfin⟩
    · simp only [c1, if_false]
      by_cases c2 : b8 ≤ b14
      · simp only [c2, if_true]
        by_cases hw0 : w = 0
        · simp only [hw0, if_true]; exact ⟨_, _, rfl, rfl, rfl, hfin⟩
        · simp only [hw0, if_false]; exact ⟨_, _, rfl, rfl, rfl, hfin⟩
      · simp only [c2, if_false]
        by_cases hw0 : w = 0
        · simp only [hw0, if_true]; exact ⟨_, _, rfl, rfl, rfl, hfin⟩
        · simp only [hw0, if_false]; exact ⟨_, _, rfl, rfl, rfl, hfin⟩
/-- the mended ones changed, in both -/
theorem Rel_mend {T : Option Nat} {I : mh_I} {L : mh_L} {J y : mh_I} {K M : Nat → Nat} {P N N' : Nat → Bool} {u n : Nat} (h : Rel T I L J) (h1 : Rcore I L J K M P N u n) (h2 : Rimg I L J n) (hy : ∀ b k, b ≠ 4 → y b k = J b k) (hm : ∀ c, c < 48 → y 4 c = nI (qb N' c)) : Rel T I (mh_ul L 1 3 (qS N')) y := by
  obtain ⟨hT, -, m3, m4, m5⟩ := h
  refine ⟨hT, ⟨K, M, P, N', u, n, ?_, ?_⟩, ?_, ?_, fun k hk => (hy 13 k (by decide)).trans (m5 k hk)⟩
  · obtain ⟨⟨h1, h2, h3, h4, h5, h6, h7⟩, ⟨g1, g2, g3, g4, g5⟩, k1, k2, k3, k4, k5⟩ := h1
    exact ⟨⟨h1, h2, h3, h4, by rw [pul_k (by decide)]; exact h5, by rw [pul_s], h7⟩, ⟨fun c hc => (hy 1 c (by decide)).trans (g1 c hc), fun c hc => (hy 2 c (by decide)).trans (g2 c hc), fun c hc => (hy 3 c (by decide)).trans (g3 c hc), hm, (hy 0 9 (by decide)).trans g5⟩, k1, k2, k3, (hy 0 8 (by decide)).trans k4, fun v hv => by
      obtain ⟨e, o, t1, t2, t3⟩ := k5 v hv
      exact ⟨e, o, t1, t2, ⟨fun j hj => (hy _ _ (by decide)).trans (t3.1 j hj), fun q hq => (hy _ _ (by decide)).trans (t3.2 q hq)⟩⟩⟩
  · rcases h2 with ⟨h1, h2⟩ | ⟨h1, h2, K, M, P, N, u, ⟨a1, a2, a3, a4, a5, a6, a7⟩, b1, b2, b3⟩
    · exact .inl ⟨h1, (hy 0 10 (by decide)).trans h2⟩
    · exact .inr ⟨h1, (hy 0 10 (by decide)).trans h2, K, M, P, N, u, ⟨a1, a2, a3, a4, by rw [pul_a (by decide)]; exact a5, by rw [pul_a (by decide)]; exact a6, a7⟩, fun c hc => ⟨(hy 8 _ (by decide)).trans (b1 c hc).1, (hy 8 _ (by decide)).trans (b1 c hc).2.1, (hy 8 _ (by decide)).trans (b1 c hc).2.2.1, (hy 8 _ (by decide)).trans (b1 c hc).2.2.2⟩, (hy 0 11 (by decide)).trans b2, b3⟩
  · obtain ⟨z, h1, h2, h3, h4⟩ := m3
    refine ⟨z, h1, h2, (hy 0 5 (by decide)).trans h3, fun i hi => ?_⟩
    obtain ⟨b, g1, g2, g3⟩ := h4 i hi
    exact ⟨b, g1, g2, (hy 5 i (by decide)).trans g3⟩
  · intro s hs
    obtain ⟨h1, h2, ⟨z, h3, h4, h5⟩, h6⟩ := m4 s hs
    exact ⟨h1, (hy 9 s (by decide)).trans h2, ⟨z, h3, h4, (hy 10 s (by decide)).trans h5⟩, fun i hi => (hy 11 _ (by decide)).trans (h6 i hi)⟩
theorem r_mend : RS_mend Rel := by
  intro T I L J a1 a2 h
  obtain ⟨F, hF, eF⟩ := fuel_ex
  unfold X5_mend X6_mend
  rw [eF]
  rcases pa_loop a1 with ⟨h5, h6⟩ | ⟨c, hc, rfl, h5, h6⟩
  · simp only [h5, h6, po_b, if_true]
    exact ⟨_, _, rfl, rfl, rfl, h⟩
  rcases pa_pull a2 with ⟨k5, k6⟩ | ⟨p, hp, rfl, k5, k6⟩
  · simp only [h5, h6, k5, k6, po_b, if_true, pz_10, if_false]
    exact ⟨_, _, rfl, rfl, rfl, h⟩
  obtain ⟨-, ⟨K, M, P, N, u, n, hc1, hc2⟩, -⟩ := id h
  obtain ⟨e, o, h2⟩ := R2_of hc1
  obtain ⟨I', L', d1, d2, d3, d4⟩ := pd_x h2 hc hp
  obtain ⟨J', e1, e2, e3⟩ := pd_m h2 hc hp
  have hl := RR_le K P (rbf e o K M N) (c := c) hp
  have h' := Rel_fr h d3 d4 e3
  have hc1' := Rcore_fr hc1 d3 d4 e3
  have hc2' := Rimg_fr hc2 d3 d4 e3
  have hN : L' 1 3 = qS N := hc1'.1.2.2.2.2.2.1
  have hN6 : ∀ c, c < 48 → J' 4 c = nI (qb N c) := hc1'.2.1.2.2.2.1
  simp only [h5, h6, k5, k6, po_b, pz_10, if_false, d1, e1, hN, d2.2.1, qS_andn, qS_bitCount, qS_or]
  generalize RR K P (rbf e o K M N) c p = R at *
  have hloop : ∃ y, X6_mend_l31 F (0 : Int32) (0 : Int32) J' = some (nI (qC (fun i => decide (0 < R i) && !N i) 48), y) ∧ (∀ b k, b ≠ 4 → y b k = J' b k) ∧ (∀ c, c < 48 → y 4 c = nI (qb (fun i => N i || decide (0 < R i)) c)) := by
    refine pl_up (fun f j (s : Int32 × mh_I) => X6_mend_l31 f s.1 j s.2) 48 (fun r => ∃ y, r = some (nI (qC (fun i => decide (0 < R i) && !N i) 48), y) ∧ (∀ b k, b ≠ 4 → y b k = J' b k) ∧ (∀ c, c < 48 → y 4 c = nI (qb (fun i => N i || decide (0 < R i)) c))) (fun j s => s.1 = nI (qC (fun i => decide (0 < R i) && !N i) j) ∧ (∀ b k, b ≠ 4 → s.2 b k = J' b k) ∧ (∀ c, c < j → s.2 4 c = nI (qb (fun i => N i || decide (0 < R i)) c)) ∧ (∀ c, j ≤ c → s.2 4 c = J' 4 c)) ?_ ?_ F 0 (0, J') (by omega) (by omega) ⟨rfl, fun _ _ _ => rfl, fun c hc => absurd hc (Nat.not_lt_zero c), fun _ _ => rfl⟩
    · rintro f ⟨v, y⟩ ⟨x1, x2, x3, -⟩
      dsimp only at x1 x2 x3
      refine ⟨y, ?_, x2, x3⟩
      show X6_mend_l31 (f + 1) v (nI 48) y = _
      rw [X6_mend_l31, if_pos (show (48 : Int32) ≤ nI 48 by decide), x1]
    · rintro f j ⟨v, y⟩ hj ⟨x1, x2, x3, x4⟩
      dsimp only at x1 x2 x3 x4
      left
      have hle := hl j hj
      refine ⟨(nI (qC (fun i => decide (0 < R i) && !N i) (j + 1)), mh_u y 4 j (nI (qb (fun i => N i || decide (0 < R i)) j))), ⟨rfl, fun b k hb => (pu_a hb).trans (x2 b k hb), fun c hc => ?_, fun c hc => ?_⟩, ?_⟩
      · show mh_u y 4 j _ 4 c = _
        by_cases ec : c = j
        · subst ec; rw [pu_s]
        · rw [pu_k ec, x3 c (by omega)]
      · show mh_u y 4 j _ 4 c = _
        rw [pu_k (by omega), x4 c (by omega)]
      · show X6_mend_l31 (f + 1) v (nI j) y = _
        rw [X6_mend_l31]
        simp (disch := omega) only [pn_ll, if_neg, px_ix, po_b, pj_j, pj_b, pn_al]
        rw [x2 17 j (by decide), x4 j (Nat.le_refl j), hN6 j hj, e2.1 j hj, x1]
        simp (disch := omega) only [dIm, qbz]
        rw [qC, show qb N j = (if N j = true then 1 else 0) from rfl, show qb (fun i => N i || decide (0 < R i)) j = (if (N j || decide (0 < R j)) = true then 1 else 0) from rfl]
        cases hn : N j
        · by_cases hr : R j = 0
          · simp only [hr, Nat.lt_irrefl, decide_false, Bool.false_and, Bool.or_false, Bool.false_eq_true, if_false, if_true, pn_al]
          · have : 0 < R j := by omega
            simp only [hr, this, decide_true, Bool.not_false, Bool.and_self, Bool.false_or, if_false, if_true, pn_al]
            rfl
        · by_cases hr : R j = 0
          · simp only [hr, Nat.lt_irrefl, decide_false, Bool.false_and, Bool.or_false, Bool.false_eq_true, if_false, if_true, pn_al]
          · have : 0 < R j := by omega
            simp only [hr, this, decide_true, Bool.not_true, Bool.and_false, Bool.or_self, Bool.true_eq_false, Bool.false_eq_true, if_false, if_true, pn_al]
            rfl
  obtain ⟨y, y1, y2, y3⟩ := hloop
  rw [y1]
  exact ⟨_, _, rfl, rfl, rfl, Rel_mend h' hc1' hc2' y2 y3⟩
