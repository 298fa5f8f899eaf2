/-! PURE: the class's run, whole -/
theorem dI_n0 {r : Nat} (h : r < 2 ^ 31) : (dI r < (0 : Int32)) = (r = 0) := by
  cases r with
  | zero => exact propext ⟨fun _ => rfl, fun _ => by decide⟩
  | succ r => exact propext ⟨fun hh => absurd hh (nI_pos (by omega)), fun hh => by omega⟩
theorem qn10 (P : Prop) (d : Decidable P) : (nI (@ite Nat P d 1 0) = 0) = ¬ P := by
  by_cases h : P
  · rw [if_pos h]; exact propext ⟨fun hh => absurd hh (by decide), fun hh => absurd h hh⟩
  · rw [if_neg h]; exact propext ⟨fun _ => h, fun _ => rfl⟩
theorem cx_run {u : Nat} {I : mh_I} {L : mh_L} {K M R : Nat → Nat} {P N D H : Nat → Bool} {e o : Nat → Nat} {p : Nat} (hS : cSt u I L K M P N e o) (hp : p < 100) (hr : isRun K (fun c => H c || qkp K P c) D p (rbf e o K M N) R) : ∃ I' L', X0_runFrom 10 1 (14 + 4 * u) (qS D) (qS H) (nI p) I L = some (nI (qC (fun c => decide (0 < R c)) 48), I', L') ∧ (∀ c, c < 48 → I' 11 c = dI (R c)) ∧ L' 10 1 = qS (fun c => decide (0 < R c)) ∧ L' 10 2 = qS (fun c => decide (R c = 0) && decide (0 < rA K R c)) ∧ xfr u I I' ∧ lfr L L' := by
  have hl : ∀ i, i < 48 → R i ≤ 100 := fun i hi => by have := run_le hr i hi; omega
  obtain ⟨F, hF, eF⟩ := fuel_ex
  unfold X0_runFrom
  rw [eF]
  refine pl_dn (fun f j (s : mh_I × mh_L) => X0_runFrom_l14 10 1 (14 + 4 * u) (qS D) (qS H) (nI p) (fun (I32 : mh_I) (L33 : mh_L) => (J13_bitCount_95d88 (L33 10 1)).bind (fun q34 => some (q34, I32, L33))) f j s.1 s.2) (fun r => ∃ I' L', r = some (nI (qC (fun c => decide (0 < R c)) 48), I', L') ∧ (∀ c, c < 48 → I' 11 c = dI (R c)) ∧ L' 10 1 = qS (fun c => decide (0 < R c)) ∧ L' 10 2 = qS (fun c => decide (R c = 0) && decide (0 < rA K R c)) ∧ xfr u I I' ∧ lfr L L') (fun j s => j ≤ 48 ∧ xfr u I s.1 ∧ lfr L s.2 ∧ (∀ c, j ≤ c → c < 48 → s.1 11 c = dI (R c)) ∧ s.2 10 1 = qS (fun i => decide (j ≤ i) && decide (0 < R i)) ∧ s.2 10 2 = qS (fun i => decide (j ≤ i) && (decide (R i = 0) && decide (0 < rA K R i)))) ?_ ?_ F 48 (I, _) (by omega) ⟨Nat.le_refl _, xfr_r u I, lfr_u (lfr_u (lfr_r L) _ _) _ _, fun c h1 h2 => by omega, ?_, ?_⟩
  · rintro f ⟨I1, L1⟩ ⟨-, h1, h2, h3, h4, h5⟩
    have e4 : L1 10 1 = qS (fun c => decide (0 < R c)) := h4.trans (qS_ext fun i _ => by rw [decide_eq_true (Nat.zero_le i), Bool.true_and])
    have e5 : L1 10 2 = qS (fun c => decide (R c = 0) && decide (0 < rA K R c)) := h5.trans (qS_ext fun i _ => by rw [decide_eq_true (Nat.zero_le i), Bool.true_and])
    refine ⟨I1, L1, ?_, fun c hc => h3 c (Nat.zero_le c) hc, e4, e5, h1, h2⟩
    show X0_runFrom_l14 10 1 (14 + 4 * u) (qS D) (qS H) (nI p) _ (f + 1) (-1) I1 L1 = _
    rw [X0_runFrom_l14, if_pos (by decide), e4, qS_bitCount, po_b]
  · rintro f j ⟨I1, L1⟩ ⟨hj, h1, h2, h3, h4, h5⟩
    have h3 : ∀ c, j + 1 ≤ c → c < 48 → I1 11 c = dI (R c) := h3
    have h4 : L1 10 1 = _ := h4
    have h5 : L1 10 2 = _ := h5
    have hS1 : cSt u I1 L1 K M P N e o := cSt_fr hS h1 h2
    have hj48 : j < 48 := hj
    obtain ⟨s1, g1, g2⟩ := cx_fr (ρ := Int32 × mh_I × mh_L) (R := R) (c := j) (I := I1) hS1.1 hS1.2.1 hj48 h4 (fun i hi hi2 => by rw [decide_eq_true (show j + 1 ≤ i from hi), Bool.true_and]) (fun i hi => by rw [decide_eq_false (show ¬ j + 1 ≤ i by omega), Bool.false_and])
    obtain ⟨I2, k1, k2⟩ := cx_val (ρ := Int32 × mh_I × mh_L) (p := p) (D := D) (H := H) (s1 := s1) hS1 hj48 (fun i hi hi2 => h3 i hi hi2) hl g1
    left
    have hv := hr j hj48
    refine ⟨(mh_u I2 11 j (dI (R j)), if R j = 0 then (if 0 < rA K R j then mh_ul L1 10 2 (qS (fun i => decide (j ≤ i) && (decide (R i = 0) && decide (0 < rA K R i)))) else L1) else mh_ul L1 10 1 (qS (fun i => decide (j ≤ i) && decide (0 < R i)))), ⟨by omega, xfr_11 (xfr_t h1 (xfr_s k2)) _ _, ?_, ?_, ?_, ?_⟩, ?_⟩
    · show lfr L (if R j = 0 then _ else _)
      split
      · split
        · exact lfr_u h2 _ _
        · exact h2
      · exact lfr_u h2 _ _
    · intro c hc hc2
      show mh_u I2 11 j (dI (R j)) 11 c = _
      by_cases e : c = j
      · subst e; rw [pu_s]
      · rw [pu_k e, k2 11 c (by omega), h3 c (by omega) hc2]
    · show (if R j = 0 then _ else _ : mh_L) 10 1 = _
      by_cases hz : R j = 0
      · have e : L1 10 1 = qS (fun i => decide (j ≤ i) && decide (0 < R i)) := h4.trans (qS_ext fun i _ => by
          by_cases ei : i = j
          · subst ei; rw [hz]; simp
          · by_cases e2 : j ≤ i
            · rw [decide_eq_true e2, decide_eq_true (show j + 1 ≤ i by omega)]
            · rw [decide_eq_false e2, decide_eq_false (show ¬ j + 1 ≤ i by omega)])
        rw [if_pos hz]
        split
        · rw [pul_k (by decide)]; exact e
        · exact e
      · rw [if_neg hz, pul_s]
    · show (if R j = 0 then _ else _ : mh_L) 10 2 = _
      by_cases hz : R j = 0
      · rw [if_pos hz]
        by_cases hf : 0 < rA K R j
        · rw [if_pos hf, pul_s]
        · rw [if_neg hf]
          refine h5.trans (qS_ext fun i _ => ?_)
          by_cases ei : i = j
          · subst ei; simp [hf]
          · by_cases e2 : j ≤ i
            · rw [decide_eq_true e2, decide_eq_true (show j + 1 ≤ i by omega)]
            · rw [decide_eq_false e2, decide_eq_false (show ¬ j + 1 ≤ i by omega)]
      · rw [if_neg hz, pul_k (by decide)]
        refine h5.trans (qS_ext fun i _ => ?_)
        by_cases ei : i = j
        · subst ei; simp [hz]
        · by_cases e2 : j ≤ i
          · rw [decide_eq_true e2, decide_eq_true (show j + 1 ≤ i by omega)]
          · rw [decide_eq_false e2, decide_eq_false (show ¬ j + 1 ≤ i by omega)]
    · show X0_runFrom_l14 10 1 (14 + 4 * u) (qS D) (qS H) (nI p) _ (f + 1) (nI j) I1 L1 = X0_runFrom_l14 10 1 (14 + 4 * u) (qS D) (qS H) (nI p) _ f (dI j) _ (if R j = 0 then _ else _)
      rw [X0_runFrom_l14, if_neg (nI_pos (by omega)), g2, k1, ← hv, px_ix hj48 (by decide)]
      rw [qS_bit hj48]
      have hle := hl j hj48
      simp only [pj_j, pj_b, dI_n0 (show R j < 2 ^ 31 by omega), qn10, po_b, dI_p]
      by_cases hz : R j = 0
      · rw [if_pos hz, if_pos hz]
        by_cases hf : 0 < rA K R j
        · rw [if_neg (fun h => h hf), if_pos hf, h5, qS_or]
          refine congrArg (fun z => X0_runFrom_l14 10 1 (14 + 4 * u) (qS D) (qS H) (nI p) _ f (dI j) _ (mh_ul L1 10 2 z)) (qS_ext fun i _ => ?_)
          by_cases ei : i = j
          · subst ei; simp [hz, hf]
          · by_cases e2 : j ≤ i
            · rw [decide_eq_true e2, decide_eq_true (show j + 1 ≤ i by omega), decide_eq_false ei, Bool.or_false]
            · rw [decide_eq_false e2, decide_eq_false (show ¬ j + 1 ≤ i by omega), decide_eq_false ei, Bool.or_false]
        · rw [if_pos hf, if_neg hf]
      · rw [if_neg hz, if_neg hz, h4, qS_or]
        refine congrArg (fun z => X0_runFrom_l14 10 1 (14 + 4 * u) (qS D) (qS H) (nI p) _ f (dI j) _ (mh_ul L1 10 1 z)) (qS_ext fun i _ => ?_)
        by_cases ei : i = j
        · subst ei; simp; omega
        · by_cases e2 : j ≤ i
          · rw [decide_eq_true e2, decide_eq_true (show j + 1 ≤ i by omega), decide_eq_false ei, Bool.or_false]
          · rw [decide_eq_false e2, decide_eq_false (show ¬ j + 1 ≤ i by omega), decide_eq_false ei, Bool.or_false]
  · show mh_ul (mh_ul L 10 1 (0 : Int64)) 10 2 (0 : Int64) 10 1 = _
    rw [pul_k (by decide), pul_s, qS_0]
    refine qS_ext fun i hi => ?_
    rw [decide_eq_false (show ¬ 48 ≤ i by omega), Bool.false_and]
  · show mh_ul (mh_ul L 10 1 (0 : Int64)) 10 2 (0 : Int64) 10 2 = _
    rw [pul_s, qS_0]
    refine qS_ext fun i hi => ?_
    rw [decide_eq_false (show ¬ 48 ≤ i by omega), Bool.false_and]
