/-! PURE: the script's own run -/
theorem sqb {p : Nat → Bool} {j : Nat} : (nI (qb p j) = 0) = (p j = false) := by
  unfold qb
  cases p j
  · exact propext ⟨fun _ => rfl, fun _ => rfl⟩
  · exact propext ⟨fun h => absurd h (by decide), fun h => by cases h⟩
theorem sl_rubs {sc : mh_Sc} {K M : Nat → Nat} {P N : Nat → Bool} {e o : Nat → Nat} (h : SCK sc K M P) (hA : SCA sc K M N e o) {c m : Nat} (hc : c < 48) (hm : m < 100) : L_rubs sc (nI c) (nI m) = some (nI (rbf e o K M N c m)) := by
  have hk := h.1 c hc
  have h0 : L_asks sc (0 : Int32) (nI c) (nI m) (0 : Int32) = some (nI (sd e o K M N 0 c m)) := hA 0 c m (by decide) hc hm
  unfold L_rubs rbf rbk
  rw [h0, po_b, h.2.2.1 c hc, po_b, h.2.2.2.1 c hc]
  simp (disch := omega) only [pn_er, po_b, pj_j, pn_mr, nI_add]
  rcases (show K c = 0 ∨ K c = 1 ∨ K c = 2 ∨ K c = 3 ∨ K c = 4 ∨ K c = 5 by omega) with e | e | e | e | e | e <;> rw [e] <;> simp (decide := true) only [if_true, if_false]
theorem lN_p1 (P : Prop) [Decidable P] (x : Nat) : lN x + lN (if P then 1 else 0) = lN (x + if P then 1 else 0) := lN_add _ _
theorem sl_step {sc : mh_Sc} {hh r p f j : Nat} {s : mh_L} {K M R : Nat → Nat} {P N D : Nat → Bool} {e o : Nat → Nat} (k : mh_L → Option mh_L) (hr8 : r < 8) (h : SCK sc K M P) (hA : SCA sc K M N e o) (hp : p < 100) (hr : isRun K (qkp K P) D p (rbf e o K M N) R) (hj : j < 6 * r + 6) (h48 : j < 48) (hL : ∀ y, y < 48 → y / 6 = j / 6 + 1 → s hh y = dL (R y)) (hsj : s hh j = -1) : ∃ s', (∀ b i, b ≠ hh → s' b i = s b i) ∧ (∀ i, i ≠ j → i ≠ 48 → s' hh i = s hh i) ∧ s' hh j = dL (R j) ∧ s' hh 48 = s hh 48 + lN (if 0 < R j then 1 else 0) ∧ L_run_l43 sc hh (qS D) (nI p) (0 : Int64) (nI r) k (f + 1) (nI j) s = L_run_l43 sc hh (qS D) (nI p) (0 : Int64) (nI r) k f (nI (j + 1)) s' := by
  have hl : ∀ i, i < 48 → R i ≤ 100 := fun i hi => by have := run_le hr i hi; omega
  have hlj := hl j h48
  have hal : rA K R j ≤ 100 := rA_le (fun i _ hi => hl i hi)
  have hRj := hr j h48
  obtain ⟨z, hz⟩ : ∃ z, z = lN (if 0 < R j then 1 else 0) := ⟨_, rfl⟩
  rw [← hz]
  have e0 : (lg_cmp (((0 : Int64) >>> ((nI j).toInt64 &&& 63)) &&& (1 : Int64)) (1 : Int64) = 0) = False := by
    have := qS_has1 (fun _ => false) h48
    rw [← qS_0] at this
    rw [this]
    exact eq_false (by decide)
  rw [L_run_l43, sl_keeps h h48]
  simp (disch := omega) only [pn_mr, pn_al, pn_le, if_neg, po_b, pj_j, pj_b, sqb, e0, if_false]
  rw [sl_come h h48 hL hl, po_b]
  simp (disch := omega) only [px_ix, qS_has1, dL_lt]
  generalize hX : (fun L8 => L_run_l43 sc hh (qS D) (nI p) (0 : Int64) (nI r) k f (nI (j + 1)) L8) = X
  have eX : ∀ L8, L_run_l43 sc hh (qS D) (nI p) (0 : Int64) (nI r) k f (nI (j + 1)) L8 = X L8 := fun L8 => by rw [← hX]
  simp only [eX]
  have tail : ∀ L11 : mh_L, (∀ b i, b ≠ hh → L11 b i = s b i) → (∀ i, i ≠ j → L11 hh i = s hh i) → L11 hh j = dL (R j) → ∃ s', (∀ b i, b ≠ hh → s' b i = s b i) ∧ (∀ i, i ≠ j → i ≠ 48 → s' hh i = s hh i) ∧ s' hh j = dL (R j) ∧ s' hh 48 = s hh 48 + z ∧ (if lg_cmp (L11 hh j) (0 : Int64) < 0 then X (mh_ul L11 hh 48 (L11 hh 48 + (0 : Int64))) else X (mh_ul L11 hh 48 (L11 hh 48 + (1 : Int64)))) = X s' := by
    intro L11 g1 g2 g3
    refine ⟨mh_ul L11 hh 48 (L11 hh 48 + z), fun b i hb => (pul_a hb).trans (g1 b i hb), fun i h1 h2 => (pul_k h2).trans (g2 i h1), (pul_k (by omega)).trans g3, by rw [pul_s, g2 48 (by omega)], ?_⟩
    simp only [g3, dL_lt (show R j < 2 ^ 31 by omega)]
    by_cases hz0 : R j = 0
    · rw [if_pos hz0, hz, if_neg (by omega)]; rfl
    · rw [if_neg hz0, hz, if_pos (by omega)]; rfl
  rw [rSt] at hRj
  cases hk : qkp K P j
  · rw [if_pos rfl]
    rw [hk, if_neg (by decide)] at hRj
    cases hD : D j
    · rw [if_neg (by decide)]
      rw [hD, if_neg (by decide)] at hRj
      by_cases ha : rA K R j = 0
      · rw [if_pos ha]
        exact tail s (fun _ _ _ => rfl) (fun _ _ => rfl) (by rw [hsj, hRj, ha, if_neg (by omega)]; rfl)
      · rw [if_neg ha, dL_i, dI_pos (by omega), sl_rubs h hA h48 (by omega), po_b, po_b, dL_pos (r := rA K R j) (by omega)]
        have hrl : rbf e o K M N j (rA K R j - 1) ≤ 999 := rbk_le (sd_le _ _ _ _ _ _ _ _) (h.2.1 j h48)
        rw [nI_l (by omega)]
        have ecmp : (lg_cmp (lN (rA K R j - 1)) (lN (rbf e o K M N j (rA K R j - 1))) ≤ 0) = (rA K R j - 1 ≤ rbf e o K M N j (rA K R j - 1)) := propext ((lg_cmp_le _ _).trans (lN_le (by omega) (by omega)))
        simp only [ecmp]
        by_cases hle : rA K R j - 1 ≤ rbf e o K M N j (rA K R j - 1)
        · rw [if_pos hle]
          exact tail s (fun _ _ _ => rfl) (fun _ _ => rfl) (by rw [hsj, hRj, if_neg (by omega)]; rfl)
        · rw [if_neg hle, lN_sub (by omega)]
          exact tail (mh_ul s hh j (lN (rA K R j - 1 - rbf e o K M N j (rA K R j - 1)))) (fun b i hb => pul_a hb) (fun i hi => pul_k hi) (by rw [pul_s, hRj, if_pos (by omega), dL_pos (by omega)]; congr 1; omega)
    · rw [if_pos rfl]
      rw [hD, if_pos rfl] at hRj
      exact tail (mh_ul s hh j (nI p).toInt64) (fun b i hb => pul_a hb) (fun i hi => pul_k hi) (by rw [pul_s, hRj, nI_l (by omega)]; rfl)
  · rw [if_neg (by decide)]
    rw [hk, if_pos rfl] at hRj
    exact ⟨s, fun _ _ _ => rfl, fun _ _ _ => rfl, by rw [hsj, hRj]; rfl, by rw [hz, hRj, if_neg (by omega)]; exact (Int64.add_zero _).symm, rfl⟩
theorem sl_row {sc : mh_Sc} {hh r p F : Nat} {L0 L : mh_L} {K M R : Nat → Nat} {P N D : Nat → Bool} {e o : Nat → Nat} (k : mh_L → Option mh_L) (hr8 : r < 8) (h : SCK sc K M P) (hA : SCA sc K M N e o) (hp : p < 100) (hr : isRun K (qkp K P) D p (rbf e o K M N) R) (hF : 100 < F) (hf : ∀ b i, b ≠ hh → L b i = L0 b i) (hd : ∀ i, i < 48 → L hh i = if 6 * (r + 1) ≤ i then dL (R i) else -1) (hw : L hh 48 = lN (qC (fun i => decide (6 * (r + 1) ≤ i) && decide (0 < R i)) 48)) : ∃ L', L_run_l43 sc hh (qS D) (nI p) (0 : Int64) (nI r) k F (nI (6 * r)) L = k L' ∧ (∀ b i, b ≠ hh → L' b i = L0 b i) ∧ (∀ i, i < 48 → L' hh i = if 6 * r ≤ i then dL (R i) else -1) ∧ L' hh 48 = lN (qC (fun i => decide (6 * r ≤ i) && decide (0 < R i)) 48) := by
  have hpr0 : ∀ i, pr6 r (6 * r) i = decide (6 * (r + 1) ≤ i) := by
    intro i
    unfold pr6
    by_cases h' : 6 * r + 6 ≤ i
    · rw [decide_eq_true h', decide_eq_true (show 6 * (r + 1) ≤ i by omega)]; rfl
    · rw [decide_eq_false h', decide_eq_false (show ¬ 6 * (r + 1) ≤ i by omega), Bool.false_or]
      by_cases h2 : 6 * r ≤ i
      · rw [decide_eq_false (show ¬ i < 6 * r by omega), Bool.and_false]
      · rw [decide_eq_false h2, Bool.false_and]
  have hpr6 : ∀ i, pr6 r (6 * r + 6) i = decide (6 * r ≤ i) := by
    intro i
    unfold pr6
    by_cases h : 6 * r ≤ i
    · by_cases h' : 6 * r + 6 ≤ i
      · rw [decide_eq_true h, decide_eq_true h']; rfl
      · rw [decide_eq_true h, decide_eq_true (show i < 6 * r + 6 by omega)]; simp
    · rw [decide_eq_false h, decide_eq_false (show ¬ 6 * r + 6 ≤ i by omega)]; rfl
  refine pl_up (fun f j s => L_run_l43 sc hh (qS D) (nI p) (0 : Int64) (nI r) k f j s) (6 * r + 6) (fun q => ∃ L', q = k L' ∧ (∀ b i, b ≠ hh → L' b i = L0 b i) ∧ (∀ i, i < 48 → L' hh i = if 6 * r ≤ i then dL (R i) else -1) ∧ L' hh 48 = lN (qC (fun i => decide (6 * r ≤ i) && decide (0 < R i)) 48)) (fun j s => 6 * r ≤ j ∧ (∀ b i, b ≠ hh → s b i = L0 b i) ∧ (∀ i, i < 48 → s hh i = if pr6 r j i = true then dL (R i) else -1) ∧ s hh 48 = lN (qC (fun i => pr6 r j i && decide (0 < R i)) 48)) ?_ ?_ F (6 * r) L (by omega) (by omega) ⟨Nat.le_refl _, hf, fun i hi => ?_, ?_⟩
  · rintro f s ⟨-, h1, h2, h3⟩
    refine ⟨s, ?_, h1, fun i hi => ?_, ?_⟩
    · show L_run_l43 sc hh (qS D) (nI p) (0 : Int64) (nI r) k (f + 1) (nI (6 * r + 6)) s = _
      rw [L_run_l43]
      simp (disch := omega) only [pn_mr, pn_al, pn_le, if_pos]
    · rw [h2 i hi, hpr6]
      by_cases h : 6 * r ≤ i
      · rw [decide_eq_true h, if_pos rfl, if_pos h]
      · rw [decide_eq_false h, if_neg (by decide), if_neg h]
    · rw [h3, qC_ext (fun i _ => by rw [hpr6])]
  · rintro f j s hj ⟨h0, h1, h2, h3⟩
    left
    have hj48 : j < 48 := by omega
    have hjj : pr6 r j j = false := by unfold pr6; rw [decide_eq_false (show ¬ 6 * r + 6 ≤ j by omega), decide_eq_false (show ¬ j < j by omega)]; simp
    obtain ⟨s', g1, g2, g3, g4, g5⟩ := sl_step (s := s) (f := f) k hr8 h hA hp hr hj hj48 (fun y hy hyr => by
      rw [h2 y hy, if_pos]
      unfold pr6
      rw [decide_eq_true (show 6 * r + 6 ≤ y by omega)]; rfl) (by rw [h2 j hj48, hjj, if_neg (by decide)])
    have hne : ∀ i, i ≠ j → pr6 r (j + 1) i = pr6 r j i := fun i hi => by
      unfold pr6
      by_cases h' : i < j
      · rw [decide_eq_true h', decide_eq_true (show i < j + 1 by omega)]
      · rw [decide_eq_false h', decide_eq_false (show ¬ i < j + 1 by omega)]
    have hjs : pr6 r (j + 1) j = true := by
      unfold pr6
      rw [decide_eq_true (show 6 * r ≤ j by omega), decide_eq_true (show j < j + 1 by omega)]
      simp
    refine ⟨s', ⟨by omega, fun b i hb => (g1 b i hb).trans (h1 b i hb), fun i hi => ?_, ?_⟩, g5⟩
    · by_cases ei : i = j
      · subst ei; rw [g3, hjs, if_pos rfl]
      · rw [g2 i ei (by omega), h2 i hi, hne i ei]
    · rw [g4, h3, lN_add, qC_one (p := fun i => pr6 r j i && decide (0 < R i)) (q := fun i => pr6 r (j + 1) i && decide (0 < R i)) (c := j) (by show (pr6 r j j && _) = false; rw [hjj, Bool.false_and]) (fun i hi => by show (pr6 r (j + 1) i && _) = (pr6 r j i && _); rw [hne i hi]) 48 hj48]
      congr 2
      rw [hjs, Bool.true_and]
      simp only [decide_eq_true_eq]
  · rw [hd i hi, hpr0]
    by_cases h : 6 * (r + 1) ≤ i
    · rw [decide_eq_true h, if_pos rfl, if_pos h]
    · rw [decide_eq_false h, if_neg h, if_neg (by decide)]
  · rw [hw]
    exact congrArg lN (qC_ext fun i _ => by rw [hpr0])
theorem sl_run {sc : mh_Sc} {hh p : Nat} {L : mh_L} {K M R : Nat → Nat} {P N D : Nat → Bool} {e o : Nat → Nat} (h : SCK sc K M P) (hA : SCA sc K M N e o) (hp : p < 100) (hr : isRun K (qkp K P) D p (rbf e o K M N) R) : ∃ L', L_run sc hh (qS D) (nI p) (0 : Int64) L = some L' ∧ (∀ b i, b ≠ hh → L' b i = L b i) ∧ (∀ i, i < 48 → L' hh i = dL (R i)) ∧ L' hh 48 = lN (gn R) := by
  obtain ⟨F, hF, eF⟩ := fuel_ex
  unfold L_run
  rw [eF]
  have h9 : ∀ k27 : mh_L → Option mh_L, ∃ L', L_run_l9 sc hh k27 F (47 : Int32) (mh_ul L hh 48 (0 : Int64)) = k27 L' ∧ (∀ b i, b ≠ hh → L' b i = L b i) ∧ (∀ i, i < 48 → L' hh i = -1) ∧ L' hh 48 = 0 := by
    intro k27
    refine pl_dn (fun f j s => L_run_l9 sc hh k27 f j s) (fun q => ∃ L', q = k27 L' ∧ (∀ b i, b ≠ hh → L' b i = L b i) ∧ (∀ i, i < 48 → L' hh i = -1) ∧ L' hh 48 = 0) (fun j s => j ≤ 48 ∧ (∀ b i, b ≠ hh → s b i = L b i) ∧ (∀ i, j ≤ i → i < 48 → s hh i = -1) ∧ s hh 48 = 0) ?_ ?_ F 48 (mh_ul L hh 48 (0 : Int64)) (by omega) ⟨Nat.le_refl _, fun b i hb => pul_a hb, fun i h1 h2 => by omega, pul_s _ _ _ _⟩
    · rintro f s ⟨-, h1, h2, h3⟩
      refine ⟨s, ?_, h1, fun i hi => h2 i (Nat.zero_le i) hi, h3⟩
      show L_run_l9 sc hh k27 (f + 1) (-1) s = _
      rw [L_run_l9, if_pos (by decide)]
    · rintro f j s ⟨h0, h1, h2, h3⟩
      left
      refine ⟨mh_ul s hh j (-1 : Int64), ⟨by omega, fun b i hb => (pul_a hb).trans (h1 b i hb), fun i g1 g2 => ?_, (pul_k (by omega)).trans h3⟩, ?_⟩
      · by_cases ei : i = j
        · subst ei; exact pul_s _ _ _ _
        · exact (pul_k ei).trans (h2 i (by omega) g2)
      · show L_run_l9 sc hh k27 (f + 1) (nI j) s = _
        rw [L_run_l9, if_neg (nI_pos (by omega)), px_ix (show j < 50 by omega) (by decide), pj_b, dI_p]
  obtain ⟨L5, a1, a2, a3, a4⟩ := h9 (fun (L5 : mh_L) => L_run_l31 sc hh (qS D) (nI p) (0 : Int64) F (7 : Int32) L5)
  rw [a1]
  refine pl_dn (fun f j s => L_run_l31 sc hh (qS D) (nI p) (0 : Int64) f j s) (fun q => ∃ L', q = some L' ∧ (∀ b i, b ≠ hh → L' b i = L b i) ∧ (∀ i, i < 48 → L' hh i = dL (R i)) ∧ L' hh 48 = lN (gn R)) (fun j s => j ≤ 8 ∧ (∀ b i, b ≠ hh → s b i = L b i) ∧ (∀ i, i < 48 → s hh i = if 6 * j ≤ i then dL (R i) else -1) ∧ s hh 48 = lN (qC (fun i => decide (6 * j ≤ i) && decide (0 < R i)) 48)) ?_ ?_ F 8 L5 (by omega) ⟨Nat.le_refl _, a2, fun i hi => by rw [a3 i hi, if_neg (by omega)], ?_⟩
  · rintro f s ⟨-, h1, h2, h3⟩
    refine ⟨s, ?_, h1, fun i hi => by rw [h2 i hi, if_pos (by omega)], ?_⟩
    · show L_run_l31 sc hh (qS D) (nI p) (0 : Int64) (f + 1) (-1) s = _
      rw [L_run_l31, if_pos (by decide)]
    · rw [h3]
      exact congrArg lN (qC_ext fun i _ => by rw [decide_eq_true (show 6 * 0 ≤ i by omega), Bool.true_and])
  · rintro f j s ⟨h0, h1, h2, h3⟩
    left
    obtain ⟨L', g1, g2, g3, g4⟩ := sl_row (sc := sc) (r := j) (fun (L31 : mh_L) => mh_b (nI j + (-1 : Int32)) (fun b32 => (L_run_l31 sc hh (qS D) (nI p) (0 : Int64) f b32 L31))) (by omega) h hA hp hr (F := F) (by omega) h1 h2 h3
    refine ⟨L', ⟨by omega, g2, g3, g4⟩, ?_⟩
    show L_run_l31 sc hh (qS D) (nI p) (0 : Int64) (f + 1) (nI j) s = _
    rw [L_run_l31, if_neg (nI_pos (by omega)), pj_b, eF]
    simp (disch := omega) only [pn_mr]
    rw [g1, pj_b, dI_p]
  · rw [a4]
    have : qC (fun i => decide (6 * 8 ≤ i) && decide (0 < R i)) 48 = 0 := qC_0.mpr (fun i hi => by rw [decide_eq_false (show ¬ 6 * 8 ≤ i by omega), Bool.false_and])
    rw [this]
    rfl
