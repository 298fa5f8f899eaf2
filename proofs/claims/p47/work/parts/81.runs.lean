/-! PURE: the reference's run, whole; both behind a drop -/
theorem qC_one {p q : Nat → Bool} {c : Nat} (hp : p c = false) (h : ∀ i, i ≠ c → q i = p i) : ∀ n, c < n → qC q n = qC p n + (if q c = true then 1 else 0) := by
  intro n
  induction n with
  | zero => intro hc; omega
  | succ n ih =>
    intro hc
    rw [qC, qC]
    by_cases e : c = n
    · subst e
      rw [qC_ext (fun i hi => h i (by omega)), hp]
      simp
    · rw [ih (by omega), h n (by omega)]
      omega
theorem qb_if {ρ : Type} {D : Nat → Bool} {c : Nat} (T : Int32 → ρ) : (if D c = true then T 1 else T 0) = T (nI (qb D c)) := by
  unfold qb
  cases D c
  · rfl
  · rfl
def pr6 (r c i : Nat) : Bool := decide (6 * r + 6 ≤ i) || (decide (6 * r ≤ i) && decide (i < c))
theorem cm_row {u r p F : Nat} {J0 J : mh_I} {K M R : Nat → Nat} {P N D : Nat → Bool} {e o : Nat → Nat} (k : mh_I → Option mh_I) (hr8 : r < 8) (hS : rStt u J0 K M P N e o) (hp : p < 100) (hr : isRun K (qkp K P) D p (rbf e o K M N) R) (hF : 100 < F) (hf : jfr J0 J) (hd : ∀ i, i < 48 → 6 * r + 6 ≤ i → J 17 i = dI (R i)) (hw : J 0 29 = nI (qC (fun i => decide (6 * r + 6 ≤ i) && decide (0 < R i)) 48)) : ∃ J', X6_runs_l21 (qS D) (nI p) (nI r) k F (nI (6 * r)) J = k J' ∧ jfr J0 J' ∧ (∀ i, i < 48 → 6 * r ≤ i → J' 17 i = dI (R i)) ∧ J' 0 29 = nI (qC (fun i => decide (6 * r ≤ i) && decide (0 < R i)) 48) := by
  have hl : ∀ i, i < 48 → R i ≤ 100 := fun i hi => by have := run_le hr i hi; omega
  refine pl_up (fun f j s => X6_runs_l21 (qS D) (nI p) (nI r) k f j s) (6 * r + 6) (fun q => ∃ J', q = k J' ∧ jfr J0 J' ∧ (∀ i, i < 48 → 6 * r ≤ i → J' 17 i = dI (R i)) ∧ J' 0 29 = nI (qC (fun i => decide (6 * r ≤ i) && decide (0 < R i)) 48)) (fun j s => 6 * r ≤ j ∧ jfr J0 s ∧ (∀ i, i < 48 → pr6 r j i = true → s 17 i = dI (R i)) ∧ s 0 29 = nI (qC (fun i => pr6 r j i && decide (0 < R i)) 48)) ?_ ?_ F (6 * r) J (by omega) (by omega) ⟨Nat.le_refl _, hf, fun i hi h => ?_, ?_⟩
  · rintro f s ⟨-, h1, h2, h3⟩
    have hpr : ∀ i, pr6 r (6 * r + 6) i = decide (6 * r ≤ i) := by
      intro i
      unfold pr6
      by_cases h : 6 * r ≤ i
      · by_cases h' : 6 * r + 6 ≤ i
        · rw [decide_eq_true h, decide_eq_true h']; rfl
        · rw [decide_eq_true h, decide_eq_true (show i < 6 * r + 6 by omega)]; simp
      · rw [decide_eq_false h, decide_eq_false (show ¬ 6 * r + 6 ≤ i by omega)]; rfl
    refine ⟨s, ?_, h1, fun i hi h => h2 i hi (by rw [hpr, decide_eq_true h]), ?_⟩
    · show X6_runs_l21 (qS D) (nI p) (nI r) k (f + 1) (nI (6 * r + 6)) s = _
      rw [X6_runs_l21]
      simp (disch := omega) only [pn_mr, pn_al, pn_le, if_pos]
    · rw [h3, qC_ext (fun i _ => by rw [hpr])]
  · rintro f j s hj ⟨h0, h1, h2, h3⟩
    left
    have hj48 : j < 48 := by omega
    obtain ⟨J1, g1, g2⟩ := cm_leftOf (p := p) (D := D) (R := R) (rStt_fr hS h1) hj48 (fun i hi hi2 => h2 i hi2 (by unfold pr6; rw [decide_eq_true (show 6 * r + 6 ≤ i by omega)]; rfl)) hl
    have hle := hl j hj48
    refine ⟨mh_u (mh_u J1 17 j (dI (R j))) 0 29 (nI (qC (fun i => pr6 r (j + 1) i && decide (0 < R i)) 48)), ⟨by omega, jfr_29 (jfr_17 (jfr_t h1 (jfr_16 g2)) _ _) _, fun i hi h => ?_, by rw [pu_s]⟩, ?_⟩
    · rw [pu_a (by decide)]
      by_cases ei : i = j
      · subst ei; rw [pu_s]
      · rw [pu_k ei, g2 17 i (by decide) (by decide), h2 i hi]
        unfold pr6 at h ⊢
        by_cases h' : i < j
        · rw [decide_eq_true (show i < j + 1 by omega)] at h
          rw [decide_eq_true h']; exact h
        · rw [decide_eq_false (show ¬ i < j + 1 by omega)] at h
          rw [decide_eq_false h']; exact h
    · show X6_runs_l21 (qS D) (nI p) (nI r) k (f + 1) (nI j) s = _
      have hcnt : qC (fun i => pr6 r (j + 1) i && decide (0 < R i)) 48 = qC (fun i => pr6 r j i && decide (0 < R i)) 48 + (if 0 < R j then 1 else 0) := by
        rw [qC_one (p := fun i => pr6 r j i && decide (0 < R i)) (c := j) (by unfold pr6; rw [decide_eq_false (show ¬ 6 * r + 6 ≤ j by omega), decide_eq_false (show ¬ j < j by omega)]; simp) (fun i hi => by
          unfold pr6
          by_cases h' : i < j
          · rw [decide_eq_true h', decide_eq_true (show i < j + 1 by omega)]
          · rw [decide_eq_false h', decide_eq_false (show ¬ i < j + 1 by omega)]) 48 hj48]
        congr 1
        unfold pr6
        rw [decide_eq_true (show 6 * r ≤ j by omega), decide_eq_true (show j < j + 1 by omega)]
        simp
      rw [X6_runs_l21]
      simp (disch := omega) only [pn_mr, pn_al, pn_le, if_neg, pj_j, pj_b, qS_has1]
      rw [qb_if (fun z => (X6_leftOf (nI j) z (nI p) s).bind _), g1, po_b]
      dsimp only
      rw [px_ix hj48 (by decide), px_ix hj48 (by decide), pu_s, ← hr j hj48, hcnt]
      have e29 : (mh_u J1 17 j (dI (R j))) 0 29 = nI (qC (fun i => pr6 r j i && decide (0 < R i)) 48) := by
        rw [pu_a (by decide), g2 0 29 (by decide) (by decide), h3]
      rw [e29]
      cases hz : R j with
      | zero =>
        rw [if_pos (show dI 0 = (-1 : Int32) from rfl), if_neg (by omega)]
        simp only [pn_al]
      | succ m =>
        rw [if_neg (by show ¬ nI m = -1; rw [pn_neg (by omega)]; exact id), if_pos (by omega)]
        simp only [pn_al]
  · unfold pr6 at h
    by_cases h' : 6 * r + 6 ≤ i
    · exact hd i hi h'
    · rw [decide_eq_false h'] at h
      simp only [Bool.false_or, Bool.and_eq_true, decide_eq_true_eq] at h
      omega
  · rw [hw]
    refine congrArg nI (qC_ext fun i _ => ?_)
    unfold pr6
    by_cases h' : 6 * r + 6 ≤ i
    · rw [decide_eq_true h', Bool.true_or]
    · rw [decide_eq_false h']
      by_cases h2 : 6 * r ≤ i
      · rw [decide_eq_false (show ¬ i < 6 * r by omega)]; simp
      · rw [decide_eq_false h2]; simp
theorem cm_run {u p : Nat} {J : mh_I} {K M R : Nat → Nat} {P N D : Nat → Bool} {e o : Nat → Nat} (hS : rStt u J K M P N e o) (hp : p < 100) (hr : isRun K (qkp K P) D p (rbf e o K M N) R) : ∃ J', X6_runs (qS D) (nI p) J = some J' ∧ (∀ c, c < 48 → J' 17 c = dI (R c)) ∧ J' 0 29 = nI (qC (fun c => decide (0 < R c)) 48) ∧ jfr J J' := by
  obtain ⟨F, hF, eF⟩ := fuel_ex
  unfold X6_runs
  rw [eF]
  refine pl_dn (fun f j s => X6_runs_l9 (qS D) (nI p) f j s) (fun q => ∃ J', q = some J' ∧ (∀ c, c < 48 → J' 17 c = dI (R c)) ∧ J' 0 29 = nI (qC (fun c => decide (0 < R c)) 48) ∧ jfr J J') (fun j s => j ≤ 8 ∧ jfr J s ∧ (∀ i, i < 48 → 6 * j ≤ i → s 17 i = dI (R i)) ∧ s 0 29 = nI (qC (fun i => decide (6 * j ≤ i) && decide (0 < R i)) 48)) ?_ ?_ F 8 (mh_u J 0 29 (0 : Int32)) (by omega) ⟨Nat.le_refl _, jfr_29 (jfr_r J) _, fun i h1 h2 => by omega, ?_⟩
  · rintro f s ⟨-, h1, h2, h3⟩
    refine ⟨s, ?_, fun c hc => h2 c hc (by omega), ?_, h1⟩
    · show X6_runs_l9 (qS D) (nI p) (f + 1) (-1) s = _
      rw [X6_runs_l9, if_pos (by decide)]
    · rw [h3]
      exact congrArg nI (qC_ext fun i _ => by rw [decide_eq_true (show 6 * 0 ≤ i by omega), Bool.true_and])
  · rintro f j s ⟨hj, h1, h2, h3⟩
    left
    obtain ⟨J1, g1, g2, g3, g4⟩ := cm_row (r := j) (fun (I15 : mh_I) => mh_b (nI j + (-1 : Int32)) (fun b16 => (X6_runs_l9 (qS D) (nI p) f b16 I15))) (by omega) hS hp hr (F := F) (by omega) h1 (fun i hi hi2 => h2 i hi (by omega)) h3
    refine ⟨J1, ⟨by omega, g2, g3, g4⟩, ?_⟩
    show X6_runs_l9 (qS D) (nI p) (f + 1) (nI j) s = _
    rw [X6_runs_l9, if_neg (nI_pos (by omega)), pj_b, eF]
    simp (disch := omega) only [pn_mr]
    rw [g1, pj_b, dI_p]
  · rw [pu_s]
    have : qC (fun i => decide (6 * 8 ≤ i) && decide (0 < R i)) 48 = 0 := qC_0.mpr (fun i hi => by rw [decide_eq_false (show ¬ 6 * 8 ≤ i by omega), Bool.false_and])
    rw [this]
    rfl
