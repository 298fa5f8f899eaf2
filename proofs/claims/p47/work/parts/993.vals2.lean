/-! PURE: mending, column, pins, refusals -/
/-- what mending answers, from the sum of the minutes, the least row and how many go -/
def mdg (S low : Int32) (n : Nat) (w : Int32) : Int32 := if n = 0 then (if w = 0 then -1 else 0) else (if S ≤ (24 : Int32) * ((8 : Int32) - low) then (if S ≤ (50 : Int32) + nI n then (if w = 0 then 0 else S) else (if w = 0 then 2 else (50 : Int32) + nI n)) else (if (24 : Int32) * ((8 : Int32) - low) ≤ (50 : Int32) + nI n then (if w = 0 then 1 else (24 : Int32) * ((8 : Int32) - low)) else (if w = 0 then 2 else (50 : Int32) + nI n)))
section VAL
variable {u : Nat} {I : mh_I} {L : mh_L} {K M : Nat → Nat} {P N : Nat → Bool} {e o : Nat → Nat}
theorem v_mend (h : XS u I L K M P N e o) {c p : Nat} (hc : c < 48) (hp : p < 100) {low : Int32} (hlow : isLow (RR K P (rbf e o K M N) c p) low) {w : Int32} (hw : w = 0 ∨ w = 1) : ∃ I' L', X5_mending (nI c) (nI p) w I L = some (mdg (nI (sG (fun j => sd e o K M N 1 j (RR K P (rbf e o K M N) c p j - 1)) (RR K P (rbf e o K M N) c p) 48)) low (gn (RR K P (rbf e o K M N) c p)) w, I', L') ∧ xx I I' ∧ ll L L' := by
  obtain ⟨I', L', d1, d2, d3, d4⟩ := v_drop h hc hp
  have hin : X5_within w (0 : Int32) (1 : Int32) = some 1 := by
    rcases hw with rfl | rfl
    · exact iw1_ok 0 (by decide)
    · exact iw1_ok 1 (by decide)
  have hz : (lg_cmp (L' 10 1) (0 : Int64) = 0) = (gn (RR K P (rbf e o K M N) c p) = 0) := by
    rw [d2.2.1, qS_z]
    exact propext (qC_0 (n := 48)).symm
  unfold X5_mending mdg
  simp only [il_ok c hc, hin, ip_ok p hp, po_b, pz_10, if_false, d1, hz]
  by_cases h0 : gn (RR K P (rbf e o K M N) c p) = 0
  · refine ⟨I', L', ?_, d3, d4⟩
    rw [if_pos h0, if_pos h0]
    by_cases hw0 : w = 0
    · rw [if_pos hw0, if_pos hw0]
    · rw [if_neg hw0, if_neg hw0]
  · obtain ⟨I2, v1, v2⟩ := v_sum (XS_fr h d3 d4) d2 (show 1 < 3 by decide)
    have v1 : X5_together (1 : Int32) I' L' = some (_, I2) := v1
    obtain ⟨lo, l1, l2⟩ := v_low d2.2.1
    have el : lo = low := isLow_one l2 hlow
    subst el
    refine ⟨I2, L', ?_, xx_t d3 v2, d4⟩
    rw [if_neg h0, if_neg h0, v1, po_b]
    have hb : J13_bitCount_95d88 (L' 10 1) = some (nI (gn (RR K P (rbf e o K M N) c p))) := by rw [d2.2.1, qS_bitCount]; rfl
    simp only [po_b, pj_b, pj_j, l1, hb]
    generalize (24 : Int32) * ((8 : Int32) - lo) = b8
    generalize (50 : Int32) + nI (gn (RR K P (rbf e o K M N) c p)) = b14
    generalize nI (sG (fun j => sd e o K M N 1 j (RR K P (rbf e o K M N) c p j - 1)) (RR K P (rbf e o K M N) c p) 48) = v
    by_cases c1 : v ≤ b8
    · simp only [c1, if_true]
      by_cases c2 : v ≤ b14
      · simp only [c2, if_true]
        by_cases hw0 : w = 0
        · simp only [hw0, if_true]
        · simp only [hw0, if_false]
      · simp only [c2, if_false]
        by_cases hw0 : w = 0
        · simp only [hw0, if_true]
        · simp only [hw0, if_false]
    · simp only [c1, if_false]
      by_cases c2 : b8 ≤ b14
      · simp only [c2, if_true]
        by_cases hw0 : w = 0
        · simp only [hw0, if_true]
        · simp only [hw0, if_false]
      · simp only [c2, if_false]
        by_cases hw0 : w = 0
        · simp only [hw0, if_true]
        · simp only [hw0, if_false]
def colR (K : Nat → Nat) (P : Nat → Bool) (rb : Nat → Nat → Nat) (q p : Nat) : Nat → Nat := rrN K (qkp K P) (fun i => decide (i % 6 = q)) p rb 48
theorem rrN_run (K : Nat → Nat) (kp D : Nat → Bool) (p : Nat) (rb : Nat → Nat → Nat) : isRun K kp D p rb (rrN K kp D p rb 48) := by
  have key : ∀ n d, d < 48 → 48 ≤ n + d → rrN K kp D p rb n d = rrN K kp D p rb (n + 1) d := by
    intro n
    induction n with
    | zero => intro c h1 h2; omega
    | succ n ih =>
      intro d h1 h2
      exact rSt_ext (fun i hi hi2 => ih i hi2 (by omega))
  exact fun d hd => key 48 d hd (by omega)
theorem v_col (h : XS u I L K M P N e o) {q p : Nat} (hq : q < 6) (hp : p < 100) : (∃ I' L', X5_column (nI q) (nI p) (0 : Int32) I L = some (nI (gn (colR K P (rbf e o K M N) q p)), I', L') ∧ xx I I' ∧ ll L L') ∧ ∃ I' L', X5_column (nI q) (nI p) (1 : Int32) I L = some (nI (qC (fun i => decide (0 < colR K P (rbf e o K M N) q p i) && !(decide (i % 6 = q))) 48), I', L') ∧ xx I I' ∧ ll L L' := by
  have hu : u < 6 := h.1.2.2.2.2.2.2.1
  have hfull : qS (fun i => decide (i / 6 < 8) && decide (i % 6 = q)) = qS (fun i => decide (i % 6 = q)) := qS_ext fun i hi => by rw [decide_eq_true (show i / 6 < 8 by omega), Bool.true_and]
  have hzero : (0 : Int64) = qS (fun i => decide (i / 6 < 0) && decide (i % 6 = q)) := by
    rw [qS_0]
    refine qS_ext fun i _ => ?_
    rw [decide_eq_false (Nat.not_lt_zero _), Bool.false_and]
  obtain ⟨F, hF, eF⟩ := fuel_ex
  have hX : ∀ k : Int64 → Option (Int32 × mh_I × mh_L), X5_column_l37 (nI q) k F (0 : Int64) (0 : Int32) = k (qS (fun i => decide (i % 6 = q))) := by
    intro k
    refine pl_up (fun f j s => X5_column_l37 (nI q) k f s j) 8 (fun r => r = k (qS (fun i => decide (i % 6 = q)))) (fun j s => s = qS (fun i => decide (i / 6 < j) && decide (i % 6 = q))) ?_ ?_ F 0 0 (by omega) (by omega) hzero
    · intro f s hs
      show X5_column_l37 (nI q) k (f + 1) s (nI 8) = _
      rw [X5_column_l37, if_pos (by decide), hs, hfull]
    · intro f j s hj hs
      left
      refine ⟨_, rfl, ?_⟩
      show X5_column_l37 (nI q) k (f + 1) s (nI j) = X5_column_l37 (nI q) k f (qS (fun i => decide (i / 6 < j + 1) && decide (i % 6 = q))) (nI (j + 1))
      rw [X5_column_l37]
      simp (disch := omega) only [pn_ll, if_neg, pn_ml, nI_add, pj_b, pn_al]
      rw [show j * 6 + q = 6 * j + q by omega, qS_bit (by omega), po_b, hs, p_col (by omega) hj]
  obtain ⟨I', L', d1, d2, d3, d4⟩ := v_runH h (fun i => decide (i % 6 = q)) (fun _ => false) hp (isRun_0 (rrN_run K (qkp K P) (fun i => decide (i % 6 = q)) p (rbf e o K M N)))
  have d1 : X0_runFrom 10 1 (14 + 4 * u) (qS (fun i => decide (i % 6 = q))) (0 : Int64) (nI p) I L = some (nI (gn (colR K P (rbf e o K M N) q p)), I', L') := by rw [qS_0]; exact d1
  have d2' : L' 10 1 = qS (fun i => decide (0 < colR K P (rbf e o K M N) q p i)) := d2.2.1
  refine ⟨⟨I', L', ?_, d3, d4⟩, I', L', ?_, d3, d4⟩
  · unfold X5_column
    rw [eF]
    simp only [iw5_ok q hq, show X5_within (0 : Int32) (0 : Int32) (1 : Int32) = some 1 from iw1_ok 0 (by decide), ip_ok p hp, po_b, pz_10, if_false, hX]
    rw [X5_law_ok h.2 hu, po_b, d1, po_b]
    simp only [pj_j, if_true, d2', qS_bitCount, po_b]
    rfl
  · unfold X5_column
    rw [eF]
    simp only [iw5_ok q hq, show X5_within (1 : Int32) (0 : Int32) (1 : Int32) = some 1 from iw1_ok 1 (by decide), ip_ok p hp, po_b, pz_10, if_false, hX]
    rw [X5_law_ok h.2 hu, po_b, d1, po_b]
    simp only [pj_j, pz_10, if_false, d2', qS_andn, qS_bitCount, po_b]
/-! pins -/
def pt1 (K M : Nat → Nat) (P N : Nat → Bool) (e o : Nat → Nat) (c p n a : Nat) : Bool := tried K P (rbf e o K M N) c p a && decide (gn (RH K P (rbf e o K M N) (fun i => decide (i = a)) c p) ≤ n)
def pt2 (K M : Nat → Nat) (P N : Nat → Bool) (e o : Nat → Nat) (c p n a b : Nat) : Bool := decide (a < b) && (tried K P (rbf e o K M N) c p a && tried K P (rbf e o K M N) c p b) && decide (gn (RH K P (rbf e o K M N) (fun i => decide (i = a) || decide (i = b)) c p) ≤ n)
theorem v_p1 (h : XS u I L K M P N e o) {c p n F : Nat} (hc : c < 48) (hp : p < 100) (hn : n ≤ 48) (hF : 1000 < F) (k1 : Int32 → mh_I → mh_L → Option (Int32 × mh_I × mh_L)) (k2 : mh_I → mh_L → Option (Int32 × mh_I × mh_L)) :
    (∀ a, a < 48 → pt1 K M P N e o c p n a = true → (∀ i, i < a → pt1 K M P N e o c p n i = false) → ∃ I' L', X5_pinned_l83 (nI c) (nI p) (nI n) (qS (tried K P (rbf e o K M N) c p)) k1 k2 F (nI 0) I L = k1 (nI a) I' L' ∧ xx I I' ∧ ll L L') ∧
    ((∀ i, i < 48 → pt1 K M P N e o c p n i = false) → ∃ I' L', X5_pinned_l83 (nI c) (nI p) (nI n) (qS (tried K P (rbf e o K M N) c p)) k1 k2 F (nI 0) I L = k2 I' L' ∧ xx I I' ∧ ll L L') := by
  have step : ∀ f j I1 L1, j < 48 → xx I I1 → ll L L1 → ∃ I' L', (X5_pinned_l83 (nI c) (nI p) (nI n) (qS (tried K P (rbf e o K M N) c p)) k1 k2 (f + 1) (nI j) I1 L1 = if pt1 K M P N e o c p n j = true then k1 (nI j) I' L' else X5_pinned_l83 (nI c) (nI p) (nI n) (qS (tried K P (rbf e o K M N) c p)) k1 k2 f (nI (j + 1)) I' L') ∧ xx I I' ∧ ll L L' := by
    intro f j I1 L1 hj w1 w2
    unfold pt1
    by_cases ht : tried K P (rbf e o K M N) c p j = true
    · obtain ⟨I', L', d1, d2, d3, d4⟩ := v_dropP (XS_fr h w1 w2) (fun i => decide (i = j)) hc hp
      have hgl := gn_le (RH K P (rbf e o K M N) (fun i => decide (i = j)) c p)
      refine ⟨I', L', ?_, xx_t w1 d3, ll_t w2 d4⟩
      rw [X5_pinned_l83, qS_has _ hj, qS_bit hj]
      simp (disch := omega) only [po_b, d1, pn_ll, if_neg, pj_j, pj_b, pn_al, qI0, pn_lt]
      rw [if_neg (by rw [ht]; decide), ht, Bool.true_and]
      by_cases hlt : n < gn (RH K P (rbf e o K M N) (fun i => decide (i = j)) c p)
      · rw [if_pos hlt, if_neg (by rw [decide_eq_false (by omega)]; decide)]
      · rw [if_neg hlt, if_pos (decide_eq_true (by omega))]
    · have ht : tried K P (rbf e o K M N) c p j = false := by simpa using ht
      refine ⟨I1, L1, ?_, w1, w2⟩
      rw [X5_pinned_l83, qS_has _ hj, po_b]
      simp (disch := omega) only [pn_ll, if_neg, pj_j, pj_b, pn_al, qI0]
      rw [if_pos ht, ht, Bool.false_and, if_neg (by decide)]
  constructor
  · intro a ha h1 h0
    refine pl_up (fun f j (s : mh_I × mh_L) => X5_pinned_l83 (nI c) (nI p) (nI n) (qS (tried K P (rbf e o K M N) c p)) k1 k2 f j s.1 s.2) 48 (fun r => ∃ I' L', r = k1 (nI a) I' L' ∧ xx I I' ∧ ll L L') (fun j s => j ≤ a ∧ xx I s.1 ∧ ll L s.2) (fun f s hs => absurd hs.1 (by omega)) ?_ F 0 (I, L) (by omega) (by omega) ⟨Nat.zero_le a, xx_r _, ll_r _⟩
    rintro f j ⟨I1, L1⟩ hj ⟨w0, w1, w2⟩
    obtain ⟨I', L', s1, s2, s3⟩ := step f j I1 L1 hj w1 w2
    by_cases ej : j = a
    · subst ej
      rw [if_pos h1] at s1
      exact .inr ⟨I', L', s1, s2, s3⟩
    · rw [h0 j (by omega), if_neg (by decide)] at s1
      exact .inl ⟨(I', L'), ⟨by omega, s2, s3⟩, s1⟩
  · intro h0
    refine pl_up (fun f j (s : mh_I × mh_L) => X5_pinned_l83 (nI c) (nI p) (nI n) (qS (tried K P (rbf e o K M N) c p)) k1 k2 f j s.1 s.2) 48 (fun r => ∃ I' L', r = k2 I' L' ∧ xx I I' ∧ ll L L') (fun j s => xx I s.1 ∧ ll L s.2) ?_ ?_ F 0 (I, L) (by omega) (by omega) ⟨xx_r _, ll_r _⟩
    · rintro f ⟨I1, L1⟩ ⟨w1, w2⟩
      refine ⟨I1, L1, ?_, w1, w2⟩
      dsimp only
      rw [X5_pinned_l83, if_pos (show (48 : Int32) ≤ nI 48 by decide)]
    · rintro f j ⟨I1, L1⟩ hj ⟨w1, w2⟩
      obtain ⟨I', L', s1, s2, s3⟩ := step f j I1 L1 hj w1 w2
      rw [h0 j hj, if_neg (by decide)] at s1
      exact .inl ⟨(I', L'), ⟨s2, s3⟩, s1⟩
theorem v_p2 (h : XS u I L K M P N e o) {c p n a F : Nat} (hc : c < 48) (hp : p < 100) (hn : n ≤ 48) (ha : a < 48) (hF : 1000 < F) (k1 : Int32 → mh_I → mh_L → Option (Int32 × mh_I × mh_L)) (k2 : mh_I → mh_L → Option (Int32 × mh_I × mh_L)) :
    (∀ b, b < 48 → pt2 K M P N e o c p n a b = true → (∀ i, i < b → pt2 K M P N e o c p n a i = false) → ∃ I' L', X5_pinned_l159 (nI c) (nI p) (nI n) (qS (tried K P (rbf e o K M N) c p)) (nI a) k1 k2 F (nI (a + 1)) I L = k1 (nI b) I' L' ∧ xx I I' ∧ ll L L') ∧
    ((∀ i, i < 48 → pt2 K M P N e o c p n a i = false) → ∃ I' L', X5_pinned_l159 (nI c) (nI p) (nI n) (qS (tried K P (rbf e o K M N) c p)) (nI a) k1 k2 F (nI (a + 1)) I L = k2 I' L' ∧ xx I I' ∧ ll L L') := by
  have step : ∀ f j I1 L1, a < j → j < 48 → xx I I1 → ll L L1 → ∃ I' L', (X5_pinned_l159 (nI c) (nI p) (nI n) (qS (tried K P (rbf e o K M N) c p)) (nI a) k1 k2 (f + 1) (nI j) I1 L1 = if pt2 K M P N e o c p n a j = true then k1 (nI j) I' L' else X5_pinned_l159 (nI c) (nI p) (nI n) (qS (tried K P (rbf e o K M N) c p)) (nI a) k1 k2 f (nI (j + 1)) I' L') ∧ xx I I' ∧ ll L L' := by
    intro f j I1 L1 haj hj w1 w2
    unfold pt2
    rw [decide_eq_true haj, Bool.true_and]
    have eU : qS (fun i => decide (i = a)) ||| qS (fun i => decide (i = j)) = qS (fun i => decide (i = a) || decide (i = j)) := qS_or _ _
    by_cases ht : tried K P (rbf e o K M N) c p a = true
    · by_cases htj : tried K P (rbf e o K M N) c p j = true
      · obtain ⟨I', L', d1, d2, d3, d4⟩ := v_dropP (XS_fr h w1 w2) (fun i => decide (i = a) || decide (i = j)) hc hp
        have hgl := gn_le (RH K P (rbf e o K M N) (fun i => decide (i = a) || decide (i = j)) c p)
        refine ⟨I', L', ?_, xx_t w1 d3, ll_t w2 d4⟩
        rw [X5_pinned_l159, qS_has _ ha, qS_has _ hj, qS_bit ha, qS_bit hj]
        simp (disch := omega) only [po_b, eU, d1, pn_ll, if_neg, pj_j, pj_b, pn_al, qI0, pn_lt]
        rw [if_neg (by rw [ht]; decide), if_neg (by rw [htj]; decide), ht, htj, Bool.true_and, Bool.true_and]
        by_cases hlt : n < gn (RH K P (rbf e o K M N) (fun i => decide (i = a) || decide (i = j)) c p)
        · rw [if_pos hlt, if_neg (by rw [decide_eq_false (by omega)]; decide)]
        · rw [if_neg hlt, if_pos (decide_eq_true (by omega))]
      · have htj : tried K P (rbf e o K M N) c p j = false := by simpa using htj
        refine ⟨I1, L1, ?_, w1, w2⟩
        rw [X5_pinned_l159, qS_has _ ha, qS_has _ hj]
        simp (disch := omega) only [po_b, pn_ll, if_neg, pj_j, pj_b, pn_al, qI0]
        rw [if_neg (by rw [ht]; decide), if_pos htj, htj, Bool.and_false, Bool.false_and, if_neg (by decide)]
    · have ht : tried K P (rbf e o K M N) c p a = false := by simpa using ht
      refine ⟨I1, L1, ?_, w1, w2⟩
      rw [X5_pinned_l159, qS_has _ ha]
      simp (disch := omega) only [po_b, pn_ll, if_neg, pj_j, pj_b, pn_al, qI0]
      rw [if_pos ht, ht, Bool.false_and, Bool.false_and, if_neg (by decide)]
  constructor
  · intro b hb h1 h0
    have hab : a < b := by
      unfold pt2 at h1
      simp only [Bool.and_eq_true, decide_eq_true_eq] at h1
      exact h1.1.1
    refine pl_up (fun f j (s : mh_I × mh_L) => X5_pinned_l159 (nI c) (nI p) (nI n) (qS (tried K P (rbf e o K M N) c p)) (nI a) k1 k2 f j s.1 s.2) 48 (fun r => ∃ I' L', r = k1 (nI b) I' L' ∧ xx I I' ∧ ll L L') (fun j s => a < j ∧ j ≤ b ∧ xx I s.1 ∧ ll L s.2) (fun f s hs => absurd hs.2.1 (by omega)) ?_ F (a + 1) (I, L) (by omega) (by omega) ⟨by omega, by omega, xx_r _, ll_r _⟩
    rintro f j ⟨I1, L1⟩ hj ⟨w0, w0', w1, w2⟩
    obtain ⟨I', L', s1, s2, s3⟩ := step f j I1 L1 w0 hj w1 w2
    by_cases ej : j = b
    · subst ej
      rw [if_pos h1] at s1
      exact .inr ⟨I', L', s1, s2, s3⟩
    · rw [h0 j (by omega), if_neg (by decide)] at s1
      exact .inl ⟨(I', L'), ⟨by omega, by omega, s2, s3⟩, s1⟩
  · intro h0
    refine pl_up (fun f j (s : mh_I × mh_L) => X5_pinned_l159 (nI c) (nI p) (nI n) (qS (tried K P (rbf e o K M N) c p)) (nI a) k1 k2 f j s.1 s.2) 48 (fun r => ∃ I' L', r = k2 I' L' ∧ xx I I' ∧ ll L L') (fun j s => a < j ∧ xx I s.1 ∧ ll L s.2) ?_ ?_ F (a + 1) (I, L) (by omega) (by omega) ⟨by omega, xx_r _, ll_r _⟩
    · rintro f ⟨I1, L1⟩ ⟨-, w1, w2⟩
      refine ⟨I1, L1, ?_, w1, w2⟩
      dsimp only
      rw [X5_pinned_l159, if_pos (show (48 : Int32) ≤ nI 48 by decide)]
    · rintro f j ⟨I1, L1⟩ hj ⟨w0, w1, w2⟩
      obtain ⟨I', L', s1, s2, s3⟩ := step f j I1 L1 w0 hj w1 w2
      rw [h0 j hj, if_neg (by decide)] at s1
      exact .inl ⟨(I', L'), ⟨by omega, s2, s3⟩, s1⟩
def pt3 (K M : Nat → Nat) (P N : Nat → Bool) (e o : Nat → Nat) (c p n a : Nat) : Prop := ∃ b, b < 48 ∧ pt2 K M P N e o c p n a b = true ∧ ∀ i, i < b → pt2 K M P N e o c p n a i = false
theorem v_p3 (h : XS u I L K M P N e o) {c p n F : Nat} (hc : c < 48) (hp : p < 100) (hn : n ≤ 48) (hF : 1000 < F) (eF : mh_fuel = F) (k1 : Int32 → Int32 → mh_I → mh_L → Option (Int32 × mh_I × mh_L)) :
    (∀ a b, a < 48 → b < 48 → pt2 K M P N e o c p n a b = true → (∀ i, i < b → pt2 K M P N e o c p n a i = false) → (∀ i, i < a → ∀ j, j < 48 → pt2 K M P N e o c p n i j = false) → ∃ I' L', X5_pinned_l146 (nI c) (nI p) (nI n) (qS (tried K P (rbf e o K M N) c p)) k1 F (nI 0) I L = k1 (nI a) (nI b) I' L' ∧ xx I I' ∧ ll L L') ∧
    ((∀ i, i < 48 → ∀ j, j < 48 → pt2 K M P N e o c p n i j = false) → ∃ I' L', X5_pinned_l146 (nI c) (nI p) (nI n) (qS (tried K P (rbf e o K M N) c p)) k1 F (nI 0) I L = some (-1, I', L') ∧ xx I I' ∧ ll L L') := by
  have eX : ∀ f j I1 L1, j < 48 → X5_pinned_l146 (nI c) (nI p) (nI n) (qS (tried K P (rbf e o K M N) c p)) k1 (f + 1) (nI j) I1 L1 = X5_pinned_l159 (nI c) (nI p) (nI n) (qS (tried K P (rbf e o K M N) c p)) (nI j) (fun (v39 : Int32) (I40 : mh_I) (L41 : mh_L) => (k1 (nI j) v39 I40 L41)) (fun (I42 : mh_I) (L43 : mh_L) => X5_pinned_l146 (nI c) (nI p) (nI n) (qS (tried K P (rbf e o K M N) c p)) k1 f (nI (j + 1)) I42 L43) F (nI (j + 1)) I1 L1 := by
    intro f j I1 L1 hj
    rw [X5_pinned_l146, eF]
    simp (disch := omega) only [pn_ll, if_neg, pj_b, pn_al]
  constructor
  · intro a b ha hb h1 h0 h00
    refine pl_up (fun f j (s : mh_I × mh_L) => X5_pinned_l146 (nI c) (nI p) (nI n) (qS (tried K P (rbf e o K M N) c p)) k1 f j s.1 s.2) 48 (fun r => ∃ I' L', r = k1 (nI a) (nI b) I' L' ∧ xx I I' ∧ ll L L') (fun j s => j ≤ a ∧ xx I s.1 ∧ ll L s.2) (fun f s hs => absurd hs.1 (by omega)) ?_ F 0 (I, L) (by omega) (by omega) ⟨Nat.zero_le a, xx_r _, ll_r _⟩
    rintro f j ⟨I1, L1⟩ hj ⟨w0, w1, w2⟩
    have hx := v_p2 (XS_fr h w1 w2) (a := j) hc hp hn hj hF (fun (v39 : Int32) (I40 : mh_I) (L41 : mh_L) => (k1 (nI j) v39 I40 L41)) (fun (I42 : mh_I) (L43 : mh_L) => X5_pinned_l146 (nI c) (nI p) (nI n) (qS (tried K P (rbf e o K M N) c p)) k1 f (nI (j + 1)) I42 L43)
    by_cases ej : j = a
    · subst ej
      obtain ⟨I', L', s1, s2, s3⟩ := hx.1 b hb h1 h0
      exact .inr ⟨I', L', (eX f j I1 L1 hj).trans s1, xx_t w1 s2, ll_t w2 s3⟩
    · obtain ⟨I', L', s1, s2, s3⟩ := hx.2 (h00 j (by omega))
      exact .inl ⟨(I', L'), ⟨by omega, xx_t w1 s2, ll_t w2 s3⟩, (eX f j I1 L1 hj).trans s1⟩
  · intro h00
    refine pl_up (fun f j (s : mh_I × mh_L) => X5_pinned_l146 (nI c) (nI p) (nI n) (qS (tried K P (rbf e o K M N) c p)) k1 f j s.1 s.2) 48 (fun r => ∃ I' L', r = some (-1, I', L') ∧ xx I I' ∧ ll L L') (fun j s => xx I s.1 ∧ ll L s.2) ?_ ?_ F 0 (I, L) (by omega) (by omega) ⟨xx_r _, ll_r _⟩
    · rintro f ⟨I1, L1⟩ ⟨w1, w2⟩
      refine ⟨I1, L1, ?_, w1, w2⟩
      dsimp only
      rw [X5_pinned_l146, if_pos (show (48 : Int32) ≤ nI 48 by decide)]
    · rintro f j ⟨I1, L1⟩ hj ⟨w1, w2⟩
      have hx := v_p2 (XS_fr h w1 w2) (a := j) hc hp hn hj hF (fun (v39 : Int32) (I40 : mh_I) (L41 : mh_L) => (k1 (nI j) v39 I40 L41)) (fun (I42 : mh_I) (L43 : mh_L) => X5_pinned_l146 (nI c) (nI p) (nI n) (qS (tried K P (rbf e o K M N) c p)) k1 f (nI (j + 1)) I42 L43)
      obtain ⟨I', L', s1, s2, s3⟩ := hx.2 (h00 j hj)
      exact .inl ⟨(I', L'), ⟨xx_t w1 s2, ll_t w2 s3⟩, (eX f j I1 L1 hj).trans s1⟩
/-- the answers of the three questions that name the same pins -/
def pinV (K M : Nat → Nat) (P N : Nat → Bool) (e o : Nat → Nat) (c p n : Nat) (v : Nat → Int32) : Prop := v 0 ≤ 0 ∨ (∃ a, a < 48 ∧ v 0 = 1 ∧ v 1 = nI a ∧ v 2 = -1 ∧ gn (RH K P (rbf e o K M N) (fun i => decide (i = a)) c p) ≤ n) ∨ ∃ a b, a < 48 ∧ b < 48 ∧ v 0 = 2 ∧ v 1 = nI a ∧ v 2 = nI b ∧ gn (RH K P (rbf e o K M N) (fun i => decide (i = a) || decide (i = b)) c p) ≤ n
end VAL
theorem v_pins (u : Nat) (K M : Nat → Nat) (P N : Nat → Bool) (e o : Nat → Nat) {c p n : Nat} (hc : c < 48) (hp : p < 100) (hn : n ≤ 48) : ∃ v, pinV K M P N e o c p n v ∧ ∀ I L, XS u I L K M P N e o → ∀ w, w < 3 → ∃ I' L', X5_pinned (nI c) (nI p) (nI n) (nI w) I L = some (v w, I', L') ∧ xx I I' ∧ ll L L' := by
  obtain ⟨F, hF, eF⟩ := fuel_ex
  have hset : qS (fun i => decide (0 < RH K P (rbf e o K M N) (fun _ => false) c p i) && !decide (i = c)) = qS (tried K P (rbf e o K M N) c p) := rfl
  have eX : ∀ I L, XS u I L K M P N e o → ∀ w, w < 3 → ∃ I' L', X5_pinned (nI c) (nI p) (nI n) (nI w) I L = (if n < gn (RH K P (rbf e o K M N) (fun _ => false) c p) then X5_pinned_l83 (nI c) (nI p) (nI n) (qS (tried K P (rbf e o K M N) c p)) (fun (v18 : Int32) (I19 : mh_I) (L20 : mh_L) => if nI w = 0 then some ((1 : Int32), I19, L20) else if nI w = (1 : Int32) then some (v18, I19, L20) else some ((-1 : Int32), I19, L20)) (fun (I23 : mh_I) (L24 : mh_L) => X5_pinned_l146 (nI c) (nI p) (nI n) (qS (tried K P (rbf e o K M N) c p)) (fun (v46 : Int32) (v47 : Int32) (I48 : mh_I) (L49 : mh_L) => if nI w = 0 then some ((2 : Int32), I48, L49) else if nI w = (1 : Int32) then some (v46, I48, L49) else some (v47, I48, L49)) F (nI 0) I23 L24) F (nI 0) I' L' else if nI w = 0 then some ((0 : Int32), I', L') else some ((-1 : Int32), I', L')) ∧ xx I I' ∧ ll L L' := by
    intro I L h w hw
    obtain ⟨I', L', d1, d2, d3, d4⟩ := v_dropP h (fun _ => false) hc hp
    have hgl := gn_le (RH K P (rbf e o K M N) (fun _ => false) c p)
    refine ⟨I', L', ?_, d3, d4⟩
    unfold X5_pinned
    rw [eF]
    have d1' : X5_dropPinned (nI c) (nI p) (0 : Int64) I L = some (nI (gn (RH K P (rbf e o K M N) (fun _ => false) c p)), I', L') := by rw [qS_0]; exact d1
    simp (disch := omega) only [il_ok c hc, ip_ok p hp, iw48_ok n (by omega), iw2_ok w hw, po_b, pz_10, if_false, d1', qS_bit hc, pj_b, d2.2.1, qS_andn, pn_lt]
    rfl
  by_cases hb : n < gn (RH K P (rbf e o K M N) (fun _ => false) c p)
  · rcases least_ex (pt1 K M P N e o c p n) 48 with h0 | ⟨a, ha, h1, h0⟩
    · by_cases h2 : ∀ i, i < 48 → ∀ j, j < 48 → pt2 K M P N e o c p n i j = false
      · refine ⟨fun _ => -1, .inl (show (-1 : Int32) ≤ 0 by decide), fun I L h w hw => ?_⟩
        obtain ⟨I1, L1, x1, x2, x3⟩ := eX I L h w hw
        obtain ⟨I2, L2, y1, y2, y3⟩ := (v_p1 (n := n) (XS_fr h x2 x3) hc hp hn (show 1000 < F by omega) (fun (v18 : Int32) (I19 : mh_I) (L20 : mh_L) => if nI w = 0 then some ((1 : Int32), I19, L20) else if nI w = (1 : Int32) then some (v18, I19, L20) else some ((-1 : Int32), I19, L20)) (fun (I23 : mh_I) (L24 : mh_L) => X5_pinned_l146 (nI c) (nI p) (nI n) (qS (tried K P (rbf e o K M N) c p)) (fun (v46 : Int32) (v47 : Int32) (I48 : mh_I) (L49 : mh_L) => if nI w = 0 then some ((2 : Int32), I48, L49) else if nI w = (1 : Int32) then some (v46, I48, L49) else some (v47, I48, L49)) F (nI 0) I23 L24)).2 h0
        obtain ⟨I3, L3, z1, z2, z3⟩ := (v_p3 (n := n) (XS_fr (XS_fr h x2 x3) y2 y3) hc hp hn (show 1000 < F by omega) eF (fun (v46 : Int32) (v47 : Int32) (I48 : mh_I) (L49 : mh_L) => if nI w = 0 then some ((2 : Int32), I48, L49) else if nI w = (1 : Int32) then some (v46, I48, L49) else some (v47, I48, L49))).2 h2
        exact ⟨I3, L3, by rw [x1, if_pos hb, y1, z1], xx_t x2 (xx_t y2 z2), ll_t x3 (ll_t y3 z3)⟩
      · have h2' : ∃ a, a < 48 ∧ ∃ b, b < 48 ∧ pt2 K M P N e o c p n a b = true := by
          refine Classical.byContradiction fun hn2 => h2 fun i hi j hj => ?_
          cases hq : pt2 K M P N e o c p n i j
          · rfl
          · exact absurd ⟨i, hi, j, hj, hq⟩ hn2
        have hq : ∃ q : Nat → Bool, ∀ i, q i = true ↔ ∃ b, b < 48 ∧ pt2 K M P N e o c p n i b = true := by
          refine ⟨fun i => @decide (∃ b, b < 48 ∧ pt2 K M P N e o c p n i b = true) (Classical.propDecidable _), fun i => ?_⟩
          exact @decide_eq_true_iff _ (Classical.propDecidable _)
        obtain ⟨q, hq⟩ := hq
        obtain ⟨a, ha, b0, hb0, hab0⟩ := h2'
        rcases least_ex q 48 with g0 | ⟨a, ha, g1, g0⟩
        · have := (hq a).mpr ⟨b0, hb0, hab0⟩
          rw [g0 a ha] at this; cases this
        · rcases least_ex (pt2 K M P N e o c p n a) 48 with k0 | ⟨b, hb', k1, k0⟩
          · obtain ⟨b1, hb1, hab1⟩ := (hq a).mp g1
            rw [k0 b1 hb1] at hab1; cases hab1
          · have hg : gn (RH K P (rbf e o K M N) (fun i => decide (i = a) || decide (i = b)) c p) ≤ n := by
              have := k1
              unfold pt2 at this
              simp only [Bool.and_eq_true, decide_eq_true_eq] at this
              exact this.2
            refine ⟨fun w => if w = 0 then 2 else if w = 1 then nI a else nI b, .inr (.inr ⟨a, b, ha, hb', rfl, rfl, rfl, hg⟩), fun I L h w hw => ?_⟩
            obtain ⟨I1, L1, x1, x2, x3⟩ := eX I L h w hw
            obtain ⟨I2, L2, y1, y2, y3⟩ := (v_p1 (n := n) (XS_fr h x2 x3) hc hp hn (show 1000 < F by omega) (fun (v18 : Int32) (I19 : mh_I) (L20 : mh_L) => if nI w = 0 then some ((1 : Int32), I19, L20) else if nI w = (1 : Int32) then some (v18, I19, L20) else some ((-1 : Int32), I19, L20)) (fun (I23 : mh_I) (L24 : mh_L) => X5_pinned_l146 (nI c) (nI p) (nI n) (qS (tried K P (rbf e o K M N) c p)) (fun (v46 : Int32) (v47 : Int32) (I48 : mh_I) (L49 : mh_L) => if nI w = 0 then some ((2 : Int32), I48, L49) else if nI w = (1 : Int32) then some (v46, I48, L49) else some (v47, I48, L49)) F (nI 0) I23 L24)).2 h0
            obtain ⟨I3, L3, z1, z2, z3⟩ := (v_p3 (n := n) (XS_fr (XS_fr h x2 x3) y2 y3) hc hp hn (show 1000 < F by omega) eF (fun (v46 : Int32) (v47 : Int32) (I48 : mh_I) (L49 : mh_L) => if nI w = 0 then some ((2 : Int32), I48, L49) else if nI w = (1 : Int32) then some (v46, I48, L49) else some (v47, I48, L49))).1 a b ha hb' k1 k0 (fun i hi j hj => by
              cases hh : pt2 K M P N e o c p n i j
              · rfl
              · have := (hq i).mpr ⟨j, hj, hh⟩
                rw [g0 i hi] at this; cases this)
            refine ⟨I3, L3, ?_, xx_t x2 (xx_t y2 z2), ll_t x3 (ll_t y3 z3)⟩
            rw [x1, if_pos hb, y1, z1]
            rcases (show w = 0 ∨ w = 1 ∨ w = 2 by omega) with rfl | rfl | rfl <;> rfl
    · have hg : gn (RH K P (rbf e o K M N) (fun i => decide (i = a)) c p) ≤ n := by
        have := h1
        unfold pt1 at this
        simp only [Bool.and_eq_true, decide_eq_true_eq] at this
        exact this.2
      refine ⟨fun w => if w = 0 then 1 else if w = 1 then nI a else -1, .inr (.inl ⟨a, ha, rfl, rfl, rfl, hg⟩), fun I L h w hw => ?_⟩
      obtain ⟨I1, L1, x1, x2, x3⟩ := eX I L h w hw
      obtain ⟨I2, L2, y1, y2, y3⟩ := (v_p1 (n := n) (XS_fr h x2 x3) hc hp hn (show 1000 < F by omega) (fun (v18 : Int32) (I19 : mh_I) (L20 : mh_L) => if nI w = 0 then some ((1 : Int32), I19, L20) else if nI w = (1 : Int32) then some (v18, I19, L20) else some ((-1 : Int32), I19, L20)) (fun (I23 : mh_I) (L24 : mh_L) => X5_pinned_l146 (nI c) (nI p) (nI n) (qS (tried K P (rbf e o K M N) c p)) (fun (v46 : Int32) (v47 : Int32) (I48 : mh_I) (L49 : mh_L) => if nI w = 0 then some ((2 : Int32), I48, L49) else if nI w = (1 : Int32) then some (v46, I48, L49) else some (v47, I48, L49)) F (nI 0) I23 L24)).1 a ha h1 h0
      refine ⟨I2, L2, ?_, xx_t x2 y2, ll_t x3 y3⟩
      rw [x1, if_pos hb, y1]
      rcases (show w = 0 ∨ w = 1 ∨ w = 2 by omega) with rfl | rfl | rfl <;> rfl
  · refine ⟨fun w => if w = 0 then 0 else -1, .inl (show (0 : Int32) ≤ 0 by decide), fun I L h w hw => ?_⟩
    obtain ⟨I1, L1, x1, x2, x3⟩ := eX I L h w hw
    refine ⟨I1, L1, ?_, x2, x3⟩
    rw [x1, if_neg hb]
    rcases (show w = 0 ∨ w = 1 ∨ w = 2 by omega) with rfl | rfl | rfl <;> rfl
