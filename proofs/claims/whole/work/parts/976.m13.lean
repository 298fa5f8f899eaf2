/-! PURE: sheet, cell, copy, knits (bt family: from the kit's laws, BITS) -/
def bt (x : Int32) (i : Nat) : Bool := x.toBitVec.getLsbD i
theorem b_ext {x y : Int32} (h : ∀ i, i < 32 → bt x i = bt y i) : x = y := Int32.toBitVec_inj.mp (BitVec.eq_of_getLsbD_eq (fun i hi => h i hi))
theorem s_l : ∀ n, n < 32 → ((nI n &&& 31).toBitVec.smod 32).toNat = n := by decide +kernel
theorem b_shl (n : Nat) (hn : n < 32) (x : Int32) {i : Nat} (hi : i < 32) : bt (x <<< (nI n &&& 31)) i = (decide (n ≤ i) && bt x (i - n)) := by
  unfold bt
  rw [Int32.toBitVec_shiftLeft]
  show (x.toBitVec <<< ((nI n &&& 31).toBitVec.smod 32).toNat).getLsbD i = _
  rw [s_l n hn, BitVec.getLsbD_shiftLeft]
  rcases Nat.lt_or_ge i n with h | h
  · simp [h, Nat.not_le.mpr h]
  · simp [hi, h, Nat.not_lt.mpr h]
theorem b_sshr (n : Nat) (hn : n < 32) (x : Int32) {i : Nat} (hi : i < 32) : bt (x >>> (nI n &&& 31)) i = if n + i < 32 then bt x (n + i) else bt x 31 := by
  unfold bt
  rw [Int32.toBitVec_shiftRight]
  show (x.toBitVec.sshiftRight ((nI n &&& 31).toBitVec.smod 32).toNat).getLsbD i = _
  rw [s_l n hn, BitVec.getLsbD_sshiftRight, BitVec.msb_eq_getLsbD_last]
  simp [hi]
theorem put_8 (v : Int32) : (v <<< ((24 : Int32) &&& 31)) >>> ((24 : Int32) &&& 31) = v.toInt8.toInt32 := by
  apply b_ext
  intro i hi
  rw [show (24 : Int32) = nI 24 from rfl, b_sshr 24 (by decide) _ hi]
  have e : bt v.toInt8.toInt32 i = if i < 8 then bt v i else bt v 7 := by
    unfold bt
    show ((v.toBitVec.signExtend 8).signExtend 32).getLsbD i = _
    rw [BitVec.getLsbD_signExtend, BitVec.msb_eq_getLsbD_last]
    simp only [BitVec.getLsbD_signExtend]
    by_cases h8 : i < 8
    · simp [hi, h8]
    · simp [hi, h8]
  rw [e]
  by_cases h8 : i < 8
  · rw [if_pos (by omega), if_pos h8, b_shl 24 (by decide) _ (by omega), decide_eq_true (by omega), Bool.true_and, show 24 + i - 24 = i by omega]
  · rw [if_neg (by omega), if_neg h8, b_shl 24 (by decide) _ (by omega)]
    simp
theorem put_16 (v : Int32) : (v <<< ((16 : Int32) &&& 31)) >>> ((16 : Int32) &&& 31) = v.toInt16.toInt32 := by
  apply b_ext
  intro i hi
  rw [show (16 : Int32) = nI 16 from rfl, b_sshr 16 (by decide) _ hi]
  have e : bt v.toInt16.toInt32 i = if i < 16 then bt v i else bt v 15 := by
    unfold bt
    show ((v.toBitVec.signExtend 16).signExtend 32).getLsbD i = _
    rw [BitVec.getLsbD_signExtend, BitVec.msb_eq_getLsbD_last]
    simp only [BitVec.getLsbD_signExtend]
    by_cases h8 : i < 16
    · simp [hi, h8]
    · simp [hi, h8]
  rw [e]
  by_cases h8 : i < 16
  · rw [if_pos (by omega), if_pos h8, b_shl 16 (by decide) _ (by omega), decide_eq_true (by omega), Bool.true_and, show 16 + i - 16 = i by omega]
  · rw [if_neg (by omega), if_neg h8, b_shl 16 (by decide) _ (by omega)]
    simp
theorem r_sheet : RS_sheet Rel := by
  intro T I L J a1 a2 a3 h
  obtain ⟨F, hF, eF⟩ := fuel_ex
  unfold X5_sheet X6_sheet
  rw [eF]
  rcases pa_sheet a1 with ⟨h5, h6⟩ | ⟨s, hs, rfl, h5, h6⟩
  · simp only [h5, h6, po_b, if_true]
    exact ⟨_, _, rfl, rfl, rfl, h⟩
  have hin : ∀ v : Int32, (X5_within v (-1) 2 = some 0 ∧ X6_in v (-1) 2 = some 0) ∨ ((v = -1 ∨ v = 0 ∨ v = 1 ∨ v = 2) ∧ X5_within v (-1) 2 = some 1 ∧ X6_in v (-1) 2 = some 1) := by
    intro v
    by_cases hv : -1 ≤ v ∧ v ≤ 2
    · refine .inr ⟨?_, by rw [px_within, pI, if_pos hv], by rw [pm_in, pI, if_pos hv]⟩
      have q1 := Int32.le_iff_toInt_le.mp hv.1
      have q2 := Int32.le_iff_toInt_le.mp hv.2
      rw [show (-1 : Int32).toInt = -1 by decide] at q1
      rw [show (2 : Int32).toInt = 2 by decide] at q2
      rcases (show v.toInt = -1 ∨ v.toInt = 0 ∨ v.toInt = 1 ∨ v.toInt = 2 by omega) with q | q | q | q
      · exact .inl (Int32.toInt_inj.mp (q.trans (by decide)))
      · exact .inr (.inl (Int32.toInt_inj.mp (q.trans (by decide))))
      · exact .inr (.inr (.inl (Int32.toInt_inj.mp (q.trans (by decide)))))
      · exact .inr (.inr (.inr (Int32.toInt_inj.mp (q.trans (by decide)))))
    · exact .inl ⟨by rw [px_within, pI, if_neg hv], by rw [pm_in, pI, if_neg hv]⟩
  rcases hin a2 with ⟨g5, g6⟩ | ⟨hv, g5, g6⟩
  · simp only [h5, h6, g5, g6, po_b, if_true, pz_10, if_false]
    exact ⟨_, _, rfl, rfl, rfl, h⟩
  simp only [h5, h6, g5, g6, po_b, pz_10, if_false, px_ix hs (show 4 < 2 ^ 31 by decide), pj_j]
  have hl : ∀ J0 : mh_I, ∃ y, X6_sheet_l70 (nI s) F (0 : Int32) J0 = some (1, y) ∧ (∀ i, i < 48 → y 11 (48 * s + i) = 0) ∧ (∀ b k, ¬ (b = 11 ∧ 48 * s ≤ k ∧ k < 48 * s + 48) → y b k = J0 b k) := by
    intro J0
    refine pl_up (fun f j x => X6_sheet_l70 (nI s) f j x) 48 (fun r => ∃ y, r = some (1, y) ∧ (∀ i, i < 48 → y 11 (48 * s + i) = 0) ∧ (∀ b k, ¬ (b = 11 ∧ 48 * s ≤ k ∧ k < 48 * s + 48) → y b k = J0 b k)) (fun j y => (∀ i, i < j → y 11 (48 * s + i) = 0) ∧ (∀ b k, ¬ (b = 11 ∧ 48 * s ≤ k ∧ k < 48 * s + 48) → y b k = J0 b k)) ?_ ?_ F 0 J0 (by omega) (by omega) ⟨fun i hi => absurd hi (Nat.not_lt_zero i), fun _ _ _ => rfl⟩
    · rintro f y ⟨y1, y2⟩
      refine ⟨y, ?_, y1, y2⟩
      show X6_sheet_l70 (nI s) (f + 1) (nI 48) y = _
      rw [X6_sheet_l70, if_pos (by decide)]
    · rintro f j y hj ⟨y1, y2⟩
      left
      refine ⟨mh_u y 11 (48 * s + j) 0, ⟨fun i hi => ?_, fun b k hb => ?_⟩, ?_⟩
      · by_cases e : i = j
        · subst e; rw [pu_s]
        · rw [pu_k (by omega), y1 i (by omega)]
      · have : mh_u y 11 (48 * s + j) 0 b k = y b k := if_neg (by omega)
        rw [this, y2 b k hb]
      · show X6_sheet_l70 (nI s) (f + 1) (nI j) y = _
        rw [X6_sheet_l70]
        simp (disch := omega) only [pn_ll, if_neg, px_ix, pn_mr, nI_add, pj_b, pn_al]
  have hboth : ∀ (srt w : Int32) (z : Nat), z ≤ 48 → w = nI z → (srt = -1 ∨ srt = 0 ∨ srt = 1 ∨ srt = 2) → ∃ q r, ((X2_become (38 + 2 * s) srt w I).bind (fun q10 => some ((1 : Int32), q10))) = some q ∧ X6_sheet_l70 (nI s) F (0 : Int32) (mh_u (mh_u J 9 s srt) 10 s w) = some r ∧ q.1 = r.1 ∧ Rel T q.2 L r.2 := by
    intro srt w z hz hw hsr
    obtain ⟨I2, b1, b2, b3, b4, b5⟩ := cx_become (s := s) srt w I
    obtain ⟨y, y1, y2, y3⟩ := hl (mh_u (mh_u J 9 s srt) 10 s w)
    rw [b1, po_b, y1]
    have e9 : y 9 s = srt := by rw [y3 9 s (by omega), pu_a (by decide), pu_s]
    have e10 : y 10 s = w := by rw [y3 10 s (by omega), pu_s]
    refine ⟨_, _, rfl, rfl, rfl, Rel_sheet hs h b5 (fun b k n1 n2 n3 => ?_) (by dsimp only; rw [b2]; exact hsr) (e9.trans b2.symm) ⟨z, hz, b3.trans hw, e10.trans hw⟩ (fun i hi => (y2 i hi).trans (b4 i hi).symm)⟩
    dsimp only
    rw [y3 b k n3]
    have w1 : ∀ (A : mh_I) v, mh_u A 10 s v b k = A b k := fun A v => if_neg n2
    have w2 : ∀ (A : mh_I) v, mh_u A 9 s v b k = A b k := fun A v => if_neg n1
    rw [w1, w2]
  by_cases hm : a2 = -1
  · simp only [hm, if_true]
    exact hboth (-1) 0 0 (by decide) rfl (.inl rfl)
  · simp only [hm, if_false]
    by_cases h48 : a3 ≤ 48
    · simp only [h48, if_true]
      by_cases h0 : 0 ≤ a3
      · simp only [h0, if_true]
        obtain ⟨z, hz, rfl⟩ := nI_of2 (M := 48) (n := 48) (by decide) (Int32.not_lt.mpr h0) h48
        exact hboth a2 (nI z) z hz rfl hv
      · simp only [h0, if_false]
        exact ⟨_, _, rfl, rfl, rfl, h⟩
    · simp only [h48, if_false]
      exact ⟨_, _, rfl, rfl, rfl, h⟩
theorem r_cell : RS_cell Rel := by
  intro T I L J a1 a2 a3 h
  unfold X5_cell X6_cell X2_isMissing
  rcases pa_sheet a1 with ⟨h5, h6⟩ | ⟨s, hs, rfl, h5, h6⟩
  · simp only [h5, h6, po_b, if_true]
    exact ⟨_, _, rfl, rfl, rfl, h⟩
  obtain ⟨s1, s2, ⟨z, s3, s4, s5⟩, s6⟩ := h.2.2.2.1 s hs
  simp only [h5, h6, po_b, pz_10, if_false, px_ix hs (show 4 < 2 ^ 31 by decide), s2]
  by_cases hm : I (38 + 2 * s) 1 = -1
  · simp only [hm, if_true, po_b, pz_10, if_false]
    exact ⟨_, _, rfl, rfl, rfl, h⟩
  simp only [hm, if_false, po_b, if_true, s4, s5]
  have hrng : (X5_within a2 0 (nI z - 1) = some 0 ∧ X6_in a2 0 (nI z - 1) = some 0) ∨ ∃ i, i < z ∧ a2 = nI i ∧ X5_within a2 0 (nI z - 1) = some 1 ∧ X6_in a2 0 (nI z - 1) = some 1 := by
    by_cases hv : 0 ≤ a2 ∧ a2 ≤ nI z - 1
    · refine .inr ?_
      obtain ⟨i, hi, rfl⟩ := nI_of (Int32.not_lt.mpr hv.1)
      refine ⟨i, ?_, rfl, by rw [px_within, pI, if_pos hv], by rw [pm_in, pI, if_pos hv]⟩
      have q2 := Int32.le_iff_toInt_le.mp hv.2
      rw [nI_toInt hi, show (1 : Int32) = nI 1 from rfl, pk_sub_toInt (by omega) (by decide)] at q2
      omega
    · exact .inl ⟨by rw [px_within, pI, if_neg hv], by rw [pm_in, pI, if_neg hv]⟩
  rcases hrng with ⟨g5, g6⟩ | ⟨i, hi, rfl, g5, g6⟩
  · simp only [g5, g6, po_b, if_true]
    exact ⟨_, _, rfl, rfl, rfl, h⟩
  simp only [g5, g6, po_b, pz_10, if_false, pj_j]
  have hi48 : i < 48 := by omega
  have hput : ∀ v : Int32, Rel T (mh_u I (39 + 2 * s) i v) L (mh_u J 11 (48 * s + i) v) := by
    intro v
    refine Rel_sheet hs h (fun b k n1 n2 => pu_a n2) (fun b k n1 n2 n3 => if_neg (by omega)) ?_ ?_ ⟨z, s3, ?_, ?_⟩ (fun x hx => ?_)
    · rw [pu_a (by omega)]; exact s1
    · rw [pu_a (by decide), pu_a (by omega)]; exact s2
    · rw [pu_a (by omega)]; exact s4
    · rw [pu_a (by decide)]; exact s5
    · by_cases e : x = i
      · subst e; rw [pu_s, pu_s]
      · rw [pu_k (by omega), pu_k e, s6 x hx]
  unfold X2_put
  simp (disch := omega) only [pn_mr, nI_add, px_ix, pj_j]
  rw [show 38 + 2 * s + 1 = 39 + 2 * s by omega]
  by_cases e0 : I (38 + 2 * s) 1 = 0
  · simp only [e0, if_true, po_b, put_8]
    exact ⟨_, _, rfl, rfl, rfl, hput _⟩
  · simp only [e0, if_false]
    by_cases e1 : I (38 + 2 * s) 1 = 1
    · simp only [e1, if_true, po_b, put_16]
      exact ⟨_, _, rfl, rfl, rfl, hput _⟩
    · simp only [e1, if_false, po_b, sb_shl0, sb_shr0]
      exact ⟨_, _, rfl, rfl, rfl, hput _⟩
theorem r_knits : RS_knits Rel := by
  intro T I L J a1 a2 a3 a4 h
  obtain ⟨F, hF, eF⟩ := fuel_ex
  unfold X5_knits X6_knits X2_isMissing
  rw [eF]
  rcases pa_sheet a1 with ⟨h5, h6⟩ | ⟨s, hs, rfl, h5, h6⟩
  · simp only [h5, h6, po_b, if_true]
    exact ⟨_, _, rfl, rfl, rfl, h⟩
  rcases pa_rng a2 2 (n := 2) (by decide) with ⟨g5, g6, -⟩ | ⟨w, hw, rfl, g5, g6⟩
  · simp only [h5, h6, g5, g6, po_b, if_true, pz_10, if_false]
    exact ⟨_, _, rfl, rfl, rfl, h⟩
  rcases pa_rng a4 16 (n := 16) (by decide) with ⟨k5, k6, -⟩ | ⟨n, hn, rfl, k5, k6⟩
  · simp only [h5, h6, g5, g6, k5, k6, po_b, if_true, pz_10, if_false]
    exact ⟨_, _, rfl, rfl, rfl, h⟩
  obtain ⟨s1, s2, ⟨z, s3, s4, s5⟩, s6⟩ := h.2.2.2.1 s hs
  simp only [h5, h6, g5, g6, k5, k6, po_b, pz_10, if_false, px_ix hs (show 4 < 2 ^ 31 by decide), s2]
  by_cases hm : I (38 + 2 * s) 1 = -1
  · simp only [hm, if_true, po_b, pz_10, if_false]
    exact ⟨_, _, rfl, rfl, rfl, h⟩
  simp only [hm, if_false, po_b, if_true]
  by_cases hsw : I (38 + 2 * s) 1 = nI w
  · simp only [hsw, if_true]
    refine pl_2 (fun f j (x : Int32 × mh_I) => X5_knits_l67 a3 (nI n) (38 + 2 * s) f x.1 (nI j) x.2) (fun f j (y : Int32 × mh_I) => X6_knits_l64 (nI s) a3 (nI n) f y.1 (nI j) y.2) n (fun a b => ∃ q r, a = some q ∧ b = some r ∧ q.1 = r.1 ∧ Rel T q.2 L r.2) (fun j x y => x.1 = y.1 ∧ Rel T x.2 L y.2 ∧ x.2 (38 + 2 * s) 2 = nI z ∧ y.2 10 s = nI z ∧ (j = 0 ∨ (0 ≤ a3 ∧ ∃ a, a < 48 ∧ a3 = nI a))) ?_ ?_ F 0 (0, I) (0, J) (by omega) (by omega) ⟨rfl, h, s4, s5, .inl rfl⟩
    · rintro f ⟨v, I1⟩ ⟨v', J1⟩ ⟨e1, e2, -, -, -⟩
      dsimp only at e1 e2
      subst e1
      dsimp only
      rw [X5_knits_l67, X6_knits_l64, if_pos (Int32.le_refl _), if_pos (Int32.le_refl _)]
      exact ⟨_, _, rfl, rfl, rfl, e2⟩
    · rintro f j ⟨v, I1⟩ ⟨v', J1⟩ hj ⟨e1, e2, e3, e4, e5⟩
      dsimp only at e1 e2 e3 e4 e5
      subst e1
      have hnj : ¬ nI n ≤ nI j := nI_ge hj (by omega)
      dsimp only
      rw [X5_knits_l67, X6_knits_l64, if_neg hnj, if_neg hnj]
      simp only [pn_mr, pj_b]
      unfold X2_hasRoom
      rw [e3]
      by_cases h0 : a3 < 0
      · right
        have hj0 : j = 0 := by
          rcases e5 with e5 | ⟨e5, -⟩
          · exact e5
          · exact absurd h0 (Int32.not_lt.mpr e5)
        subst hj0
        have hz : a3 + nI (3 * 0) = a3 := Int32.add_zero a3
        rw [hz, if_pos h0, po_b, if_pos rfl, if_pos h0]
        exact ⟨_, _, rfl, rfl, rfl, e2⟩
      · obtain ⟨a, ha, rfl⟩ := nI_of h0
        rw [if_neg h0]
        -- the sum may wrap
        by_cases hwr : a + 3 * j < 2 ^ 31
        · rw [nI_add, if_neg (nI_pos hwr), if_neg (nI_nlt (by omega) hwr), px_ix hs (by decide), e4]
          have hcond : ¬ ((3 : Int32) < 0) := by decide
          rw [if_neg hcond]
          by_cases hfit : a + 3 * j + 3 ≤ z
          · have c1 : ¬ nI z < nI (a + 3 * j) := nI_nlt (by omega) (by omega)
            have c2 : ¬ (nI z - nI (a + 3 * j) < (3 : Int32)) := by
              rw [pk_sub (by omega)]
              exact nI_nlt (b := 3) (by omega) (by omega)
            have c3 : nI (a + 3 * j) ≤ nI z - (3 : Int32) := by
              rw [show nI z - (3 : Int32) = nI (z - 3) from pk_sub (b := 3) (by omega)]
              exact nI_le (by omega) (by omega)
            rw [if_neg c1, if_neg c2, po_b, if_neg (show ¬ (1 : Int32) = 0 by decide), if_pos c3]
            simp (disch := omega) only [px_ix, pn_al, pn_mr, nI_add]
            obtain ⟨-, -, -, t6⟩ := e2.2.2.2.1 s hs
            rw [show 38 + 2 * s + 1 = 39 + 2 * s by omega, ← t6 _ (show a + 3 * j < 48 by omega), ← t6 _ (show a + 3 * j + 1 < 48 by omega), ← t6 _ (show a + 3 * j + 2 < 48 by omega)]
            rw [show 48 * s + (a + 3 * j + 1) = 48 * s + (a + 3 * j) + 1 by omega, show 48 * s + (a + 3 * j + 2) = 48 * s + (a + 3 * j) + 2 by omega]
            obtain ⟨q, r, q1, q2, q3, q4⟩ := r_knit T I1 L J1 (J1 11 (48 * s + (a + 3 * j))) (J1 11 (48 * s + (a + 3 * j) + 1)) (J1 11 (48 * s + (a + 3 * j) + 2)) e2
            have f1 : q.2 (38 + 2 * s) 2 = nI z ∧ r.2 10 s = nI z := by
              revert q1 q2
              generalize J1 11 (48 * s + (a + 3 * j)) = b1
              generalize J1 11 (48 * s + (a + 3 * j) + 1) = b2
              generalize J1 11 (48 * s + (a + 3 * j) + 2) = b3
              intro q1 q2
              unfold X5_knit at q1
              unfold X6_knit at q2
              rcases pa_loop b1 with ⟨h5, h6⟩ | ⟨c, hc, rfl, h5, h6⟩
              · rw [h5, po_b, if_pos rfl] at q1
                rw [h6, po_b, if_pos rfl] at q2
                obtain rfl := Option.some.inj q1
                obtain rfl := Option.some.inj q2
                exact ⟨e3, e4⟩
              · rcases pa_knit b2 b3 with ⟨g5, g6⟩ | ⟨k, m, hk, hm, rfl, rfl, g5, g6⟩
                · rw [h5, po_b, if_neg (by decide), g5, po_b, if_pos rfl] at q1
                  rw [h6, po_b, if_neg (by decide), g6, po_b, if_pos rfl] at q2
                  obtain rfl := Option.some.inj q1
                  obtain rfl := Option.some.inj q2
                  exact ⟨e3, e4⟩
                · rw [h5, po_b, if_neg (by decide), g5, po_b, if_neg (by decide), px_ix hc (by decide), pj_b, p_become hc, po_b] at q1
                  rw [h6, po_b, if_neg (by decide), g6, po_b, if_neg (by decide), px_ix hc (by decide), pj_b, px_ix hc (by decide), px_ix hc (by decide)] at q2
                  obtain rfl := Option.some.inj q1
                  obtain rfl := Option.some.inj q2
                  refine ⟨?_, ?_⟩
                  · dsimp only
                    rw [pu_a (by omega), pu_a (by omega), e3]
                  · dsimp only
                    rw [pu_a (by decide), pu_a (by decide), e4]
            left
            rw [q1, po_b, q2, po_b, q3]
            simp only [pj_j]
            by_cases hneg : r.1 < 0
            · refine ⟨(v, q.2), (v, r.2), ⟨rfl, q4, f1.1, f1.2, .inr ⟨nI_pos' (by omega), a, by omega, rfl⟩⟩, ?_, ?_⟩
              · rw [if_pos hneg]
              · rw [if_pos hneg, Int32.add_zero]
            · refine ⟨(v + 1, q.2), (v + 1, r.2), ⟨rfl, q4, f1.1, f1.2, .inr ⟨nI_pos' (by omega), a, by omega, rfl⟩⟩, ?_, ?_⟩
              · rw [if_neg hneg]
              · rw [if_neg hneg]
          · right
            have c3 : ¬ nI (a + 3 * j) ≤ nI z - (3 : Int32) := by
              intro hh
              have q := Int32.le_iff_toInt_le.mp hh
              rw [nI_toInt hwr, show (3 : Int32) = nI 3 from rfl, pk_sub_toInt (by omega) (by decide)] at q
              omega
            rw [if_neg c3]
            by_cases c1 : nI z < nI (a + 3 * j)
            · rw [if_pos c1, po_b, if_pos rfl]
              exact ⟨_, _, rfl, rfl, rfl, e2⟩
            · have c1' : a + 3 * j ≤ z := by
                rcases Nat.lt_or_ge z (a + 3 * j) with hh | hh
                · exact absurd (nI_lt hh hwr) c1
                · exact hh
              have c2 : nI z - nI (a + 3 * j) < (3 : Int32) := by
                rw [pk_sub c1']
                exact nI_lt (b := 3) (by omega) (by decide)
              rw [if_neg c1, if_pos c2, po_b, if_pos rfl]
              exact ⟨_, _, rfl, rfl, rfl, e2⟩
        · right
          have hneg : nI a + nI (3 * j) < 0 := by
            rw [nI_add, Int32.lt_iff_toInt_lt]
            show (BitVec.ofNat 32 (a + 3 * j)).toInt < (0 : Int32).toInt
            rw [BitVec.toInt_eq_toNat_cond, BitVec.toNat_ofNat, Nat.mod_eq_of_lt (by omega), if_neg (by omega), show (0 : Int32).toInt = 0 by decide]
            omega
          have hlt : nI a + nI (3 * j) < nI a := Int32.lt_of_lt_of_le hneg (nI_pos' ha)
          rw [if_pos hneg, po_b, if_pos rfl, if_pos hlt]
          exact ⟨_, _, rfl, rfl, rfl, e2⟩
  · simp only [hsw, if_false]
    exact ⟨_, _, rfl, rfl, rfl, h⟩
