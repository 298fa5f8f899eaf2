/-! PURE: what the class's calls answer, in the class's state alone -/
theorem il_ok : ∀ c, c < 48 → X5_isLoop (nI c) = some 1 := by decide +kernel
theorem ip_ok : ∀ p, p < 100 → X5_isPull (nI p) = some 1 := by decide +kernel
theorem iw1_ok : ∀ p, p < 2 → X5_within (nI p) (0 : Int32) (1 : Int32) = some 1 := by decide +kernel
theorem iw2_ok : ∀ p, p < 3 → X5_within (nI p) (0 : Int32) (2 : Int32) = some 1 := by decide +kernel
theorem iw3_ok : ∀ p, p < 4 → X5_within (nI p) (0 : Int32) (3 : Int32) = some 1 := by decide +kernel
theorem iw5_ok : ∀ p, p < 6 → X5_within (nI p) (0 : Int32) (5 : Int32) = some 1 := by decide +kernel
theorem iw48_ok : ∀ p, p < 49 → X5_within (nI p) (0 : Int32) (48 : Int32) = some 1 := by decide +kernel
def XS (u : Nat) (I : mh_I) (L : mh_L) (K M : Nat → Nat) (P N : Nat → Bool) (e o : Nat → Nat) : Prop := cSt u I L K M P N e o ∧ I 1 4 = nI u
theorem XS_fr {u : Nat} {I I' : mh_I} {L L' : mh_L} {K M : Nat → Nat} {P N : Nat → Bool} {e o : Nat → Nat} (h : XS u I L K M P N e o) (hI : xx I I') (hL : ll L L') : XS u I' L' K M P N e o := by
  obtain ⟨⟨h1, h2, h3, h4, h5, h6, h7, h8, h9, h10⟩, k⟩ := h
  exact ⟨⟨fun c hc => (hI 2 c (by omega)).trans (h1 c hc), h2, fun c hc => (hI 3 c (by omega)).trans (h3 c hc), h4, (hL 1 2 (by decide) (by decide)).trans h5, (hL 1 3 (by decide) (by decide)).trans h6, h7, h8, fun j hj => (hI _ j (by omega)).trans (h9 j hj), fun q hq => (hI _ q (by omega)).trans (h10 q hq)⟩, (hI 1 4 (by omega)).trans k⟩
section VAL
variable {u : Nat} {I : mh_I} {L : mh_L} {K M : Nat → Nat} {P N : Nat → Bool} {e o : Nat → Nat}
theorem v_runH (h : XS u I L K M P N e o) (D H : Nat → Bool) {p : Nat} (hp : p < 100) {R : Nat → Nat} (hr : isRun K (fun c => H c || qkp K P c) D p (rbf e o K M N) R) : ∃ I' L', X0_runFrom 10 1 (14 + 4 * u) (qS D) (qS H) (nI p) I L = some (nI (gn R), I', L') ∧ ranX I' L' K R ∧ xx I I' ∧ ll L L' := by
  have hu : u < 6 := h.1.2.2.2.2.2.2.1
  obtain ⟨I', L', a1, a2, a3, a4, a5, a6⟩ := cx_run (H := H) h.1 hp hr
  exact ⟨I', L', a1, ⟨a2, a3, a4⟩, xx_x hu a5, ll_l a6⟩
theorem v_drop (h : XS u I L K M P N e o) {c p : Nat} (hc : c < 48) (hp : p < 100) : ∃ I' L', X5_drop (nI c) (nI p) I L = some (nI (gn (RR K P (rbf e o K M N) c p)), I', L') ∧ ranX I' L' K (RR K P (rbf e o K M N) c p) ∧ xx I I' ∧ ll L L' := by
  obtain ⟨I', L', a1, a2, a3, a4⟩ := v_runH h (fun i => decide (i = c)) (fun _ => false) hp (isRun_0 (RR_run K P (rbf e o K M N) c p))
  refine ⟨I', L', ?_, a2, a3, a4⟩
  unfold X5_drop
  rw [X5_law_ok h.2 h.1.2.2.2.2.2.2.1, po_b, qS_bit hc, po_b, qS_0, a1]
  rfl
theorem v_dropP (h : XS u I L K M P N e o) (H : Nat → Bool) {c p : Nat} (hc : c < 48) (hp : p < 100) : ∃ I' L', X5_dropPinned (nI c) (nI p) (qS H) I L = some (nI (gn (RH K P (rbf e o K M N) H c p)), I', L') ∧ ranX I' L' K (RH K P (rbf e o K M N) H c p) ∧ xx I I' ∧ ll L L' := by
  obtain ⟨I', L', a1, a2, a3, a4⟩ := v_runH h (fun i => decide (i = c)) H hp (RH_run K P (rbf e o K M N) H c p)
  refine ⟨I', L', ?_, a2, a3, a4⟩
  unfold X5_dropPinned
  rw [X5_law_ok h.2 h.1.2.2.2.2.2.2.1, po_b, qS_bit hc, po_b, a1]
  rfl
theorem v_left (h : XS u I L K M P N e o) {c p d : Nat} (hc : c < 48) (hp : p < 100) (hd : d < 48) : ∃ I' L', X5_left (nI c) (nI p) (nI d) I L = some (dI (RR K P (rbf e o K M N) c p d), I', L') ∧ xx I I' ∧ ll L L' := by
  obtain ⟨I', L', d1, d2, d3, d4⟩ := v_drop h hc hp
  refine ⟨I', L', ?_, d3, d4⟩
  unfold X5_left
  simp only [il_ok c hc, il_ok d hd, ip_ok p hp, po_b, pz_10, if_false, d1, d2.2.1, qS_has _ hd, qI0, px_ix hd (show 48 < 2 ^ 31 by decide), d2.1 d hd]
  by_cases hz : 0 < RR K P (rbf e o K M N) c p d
  · rw [if_neg (by rw [decide_eq_true hz]; decide)]
  · rw [if_pos (by rw [decide_eq_false hz]), show RR K P (rbf e o K M N) c p d = 0 by omega]
    rfl
theorem v_goes0 (h : XS u I L K M P N e o) {c p : Nat} (hc : c < 48) (hp : p < 100) : ∃ I' L', X5_goes (nI c) (nI p) (0 : Int32) I L = some (qS (fun i => decide (0 < RR K P (rbf e o K M N) c p i)), I', L') ∧ xx I I' ∧ ll L L' := by
  obtain ⟨I', L', d1, d2, d3, d4⟩ := v_drop h hc hp
  refine ⟨I', L', ?_, d3, d4⟩
  unfold X5_goes
  simp only [il_ok c hc, show X5_within (0 : Int32) (0 : Int32) (1 : Int32) = some 1 from iw1_ok 0 (by decide), ip_ok p hp, po_b, pz_10, if_false, if_true, d1, d2.2.1]
theorem v_goes1 (h : XS u I L K M P N e o) {c p : Nat} (hc : c < 48) (hp : p < 100) : ∃ I' L', X5_goes (nI c) (nI p) (1 : Int32) I L = some (qS (fun i => decide (RR K P (rbf e o K M N) c p i = 0) && decide (0 < rA K (RR K P (rbf e o K M N) c p) i)), I', L') ∧ xx I I' ∧ ll L L' := by
  obtain ⟨I', L', d1, d2, d3, d4⟩ := v_drop h hc hp
  refine ⟨I', L', ?_, d3, d4⟩
  unfold X5_goes
  simp only [il_ok c hc, show X5_within (1 : Int32) (0 : Int32) (1 : Int32) = some 1 from iw1_ok 1 (by decide), ip_ok p hp, po_b, pz_10, if_false, d1, d2.2.2]
/-- the least row that goes -/
def isLow (R : Nat → Nat) (v : Int32) : Prop := (v = -1 ∧ ∀ i, i < 48 → R i = 0) ∨ ∃ j, j < 48 ∧ v = nI (j / 6) ∧ 0 < R j ∧ ∀ i, i < j → R i = 0
theorem least_ex (p : Nat → Bool) : ∀ n, (∀ i, i < n → p i = false) ∨ ∃ a, a < n ∧ p a = true ∧ ∀ i, i < a → p i = false := by
  intro n
  induction n with
  | zero => exact .inl fun i hi => absurd hi (Nat.not_lt_zero i)
  | succ n ih =>
    rcases ih with h | ⟨a, h1, h2, h3⟩
    · cases hp : p n
      · refine .inl fun i hi => ?_
        by_cases ei : i = n
        · subst ei; exact hp
        · exact h i (by omega)
      · exact .inr ⟨n, Nat.lt_succ_self n, hp, h⟩
    · exact .inr ⟨a, by omega, h2, h3⟩
theorem v_low {R : Nat → Nat} (hg : L 10 1 = qS (fun c => decide (0 < R c))) : ∃ v, X5_lowestRow L = some v ∧ isLow R v := by
  unfold X5_lowestRow
  rw [hg]
  simp only [qS_z]
  rcases least_ex (fun c => decide (0 < R c)) 48 with h0 | ⟨j, hj, hr, h0⟩
  · refine ⟨-1, ?_, .inl ⟨rfl, fun i hi => ?_⟩⟩
    · rw [if_pos h0]
    · have := of_decide_eq_false (h0 i hi)
      omega
  · have hr := of_decide_eq_true hr
    have h0 : ∀ i, i < j → R i = 0 := fun i hi => by
      have := of_decide_eq_false (h0 i hi)
      omega
    refine ⟨nI (j / 6), ?_, .inr ⟨j, hj, rfl, hr, h0⟩⟩
    rw [if_neg (fun hh => by
      have := of_decide_eq_false (hh j hj)
      omega), qS_ntz (p := fun c => decide (0 < R c)) hj (decide_eq_true hr) (fun i hi => decide_eq_false (by rw [h0 i hi]; omega)), po_b]
    simp (disch := omega) only [pn_dv]
theorem isLow_one {R : Nat → Nat} {v w : Int32} (h : isLow R v) (h' : isLow R w) : v = w := by
  rcases h with ⟨h1, h2⟩ | ⟨j, h1, h2, h3, h4⟩
  · rcases h' with ⟨g1, g2⟩ | ⟨k, g1, g2, g3, g4⟩
    · rw [h1, g1]
    · have := h2 k g1; omega
  · rcases h' with ⟨g1, g2⟩ | ⟨k, g1, g2, g3, g4⟩
    · have := g2 j h1; omega
    · have : j = k := by
        rcases Nat.lt_trichotomy j k with h | h | h
        · have := g4 j h; omega
        · exact h
        · have := h4 k h; omega
      rw [h2, g2, this]
/-- summed over those that go -/
def sG (f R : Nat → Nat) : Nat → Nat
  | 0 => 0
  | n + 1 => sG f R n + (if 0 < R n then f n else 0)
theorem sG_le {f R : Nat → Nat} (h : ∀ i, f i ≤ 99) : ∀ n, sG f R n ≤ 99 * n := by
  intro n
  induction n with
  | zero => exact Nat.le_refl 0
  | succ n ih =>
    have := h n
    rw [sG]
    split <;> omega
theorem v_sum (h : XS u I L K M P N e o) {R : Nat → Nat} (rX : ranX I L K R) {q : Nat} (hq : q < 3) : ∃ I2, X5_together (nI q) I L = some (nI (sG (fun j => sd e o K M N q j (R j - 1)) R 48), I2) ∧ xx I I2 := by
  obtain ⟨F, hF, eF⟩ := fuel_ex
  obtain ⟨⟨h1, h2, h3, h4, h5, h6, h7, h8, h9⟩, k⟩ := h
  unfold X5_together
  rw [eF]
  refine pl_up (fun f j (x : Int32 × mh_I) => X5_together_l4 (nI q) L f x.1 j x.2) 48 (fun a => ∃ I2, a = some (nI (sG (fun j => sd e o K M N q j (R j - 1)) R 48), I2) ∧ xx I I2) (fun j x => x.1 = nI (sG (fun j => sd e o K M N q j (R j - 1)) R j) ∧ sfr (14 + 4 * u) I x.2) ?_ ?_ F 0 (0, I) (by omega) (by omega) ⟨rfl, sfr_r _ _⟩
  · rintro f ⟨v, I1⟩ ⟨e1, k1⟩
    dsimp only at e1 k1
    dsimp only
    rw [X5_together_l4, if_pos (show (48 : Int32) ≤ nI 48 by decide), e1]
    exact ⟨_, rfl, xx_s h7 k1⟩
  · rintro f j ⟨v, I1⟩ hj ⟨e1, k1⟩
    dsimp only at e1 k1
    left
    dsimp only
    rw [X5_together_l4, rX.2.1, qS_has _ hj, X5_law_ok ((k1 1 4 (by omega)).trans k) h7]
    simp (disch := omega) only [pn_ll, if_neg, px_ix, po_b, pj_j, pj_b, qI0, pn_al]
    rw [k1 11 j (by omega), rX.1 j hj, sG]
    by_cases hr : 0 < R j
    · rw [if_pos hr, if_neg (by rw [decide_eq_true hr]; decide), dI_pos hr]
      obtain ⟨I2, a1, a2⟩ := cx_says (a := 14 + 4 * u) (m := R j - 1) (I := I1) (L := L) (by omega) h8 ⟨fun i hi => (k1 _ _ (by omega)).trans (h9.1 i hi), fun i hi => (k1 _ _ (by omega)).trans (h9.2 i hi)⟩ hj ((k1 2 j (by omega)).trans (h1 j hj)) (h2 j hj) ((k1 3 j (by omega)).trans (h3 j hj)) h6 hq
      rw [a1, po_b]
      exact ⟨(v + nI (sd e o K M N q j (R j - 1)), I2), ⟨by rw [e1, nI_add], sfr_t k1 a2⟩, rfl⟩
    · rw [if_neg hr, if_pos (by rw [decide_eq_false hr]), Nat.add_zero]
      exact ⟨(v, I1), ⟨e1, k1⟩, rfl⟩
theorem v_run0 (h : XS u I L K M P N e o) {c p : Nat} (hc : c < 48) (hp : p < 100) : ∃ I' L', X5_run (nI c) (nI p) (0 : Int32) I L = some (nI (gn (RR K P (rbf e o K M N) c p)), I', L') ∧ xx I I' ∧ ll L L' := by
  obtain ⟨I', L', d1, d2, d3, d4⟩ := v_drop h hc hp
  refine ⟨I', L', ?_, d3, d4⟩
  unfold X5_run
  simp only [il_ok c hc, show X5_within (0 : Int32) (0 : Int32) (3 : Int32) = some 1 from iw3_ok 0 (by decide), ip_ok p hp, po_b, pz_10, if_false, if_true, d1, d2.2.1, qS_bitCount]
  rfl
theorem v_run1 (h : XS u I L K M P N e o) {c p : Nat} (hc : c < 48) (hp : p < 100) : ∃ v I' L', X5_run (nI c) (nI p) (1 : Int32) I L = some (v, I', L') ∧ isLow (RR K P (rbf e o K M N) c p) v ∧ xx I I' ∧ ll L L' := by
  obtain ⟨I', L', d1, d2, d3, d4⟩ := v_drop h hc hp
  obtain ⟨v, v1, v2⟩ := v_low d2.2.1
  refine ⟨v, I', L', ?_, v2, d3, d4⟩
  unfold X5_run
  simp only [il_ok c hc, show X5_within (1 : Int32) (0 : Int32) (3 : Int32) = some 1 from iw3_ok 1 (by decide), ip_ok p hp, po_b, pz_10, if_false, if_true, d1, v1]
theorem v_run2 (h : XS u I L K M P N e o) {c p q : Nat} (hc : c < 48) (hp : p < 100) (hq : q = 1 ∨ q = 2) : ∃ I' L', X5_run (nI c) (nI p) (nI (q + 1)) I L = some (nI (sG (fun j => sd e o K M N q j (RR K P (rbf e o K M N) c p j - 1)) (RR K P (rbf e o K M N) c p) 48), I', L') ∧ xx I I' ∧ ll L L' := by
  obtain ⟨I', L', d1, d2, d3, d4⟩ := v_drop h hc hp
  obtain ⟨I2, v1, v2⟩ := v_sum (XS_fr h d3 d4) d2 (show q < 3 by omega)
  refine ⟨I2, L', ?_, xx_t d3 v2, d4⟩
  unfold X5_run
  rcases hq with rfl | rfl
  · simp only [il_ok c hc, iw3_ok 2 (by decide), ip_ok p hp, po_b, pz_10, if_false, d1]
    rw [if_neg (by decide), if_neg (by decide), if_pos (by decide)]
    have v1 : X5_together (1 : Int32) I' L' = _ := v1
    rw [v1]; rfl
  · simp only [il_ok c hc, iw3_ok 3 (by decide), ip_ok p hp, po_b, pz_10, if_false, d1]
    rw [if_neg (by decide), if_neg (by decide), if_neg (by decide)]
    have v1 : X5_together (2 : Int32) I' L' = _ := v1
    rw [v1]; rfl
end VAL
