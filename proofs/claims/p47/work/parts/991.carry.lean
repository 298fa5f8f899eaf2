/-! PURE: carried over from whole -/
def RR (K : Nat → Nat) (P : Nat → Bool) (rb : Nat → Nat → Nat) (c p : Nat) : Nat → Nat := rrN K (qkp K P) (fun i => decide (i = c)) p rb 48
theorem RR_run (K : Nat → Nat) (P : Nat → Bool) (rb : Nat → Nat → Nat) (c p : Nat) : isRun K (qkp K P) (fun i => decide (i = c)) p rb (RR K P rb c p) := by
  have key : ∀ n d, d < 48 → 48 ≤ n + d → rrN K (qkp K P) (fun i => decide (i = c)) p rb n d = rrN K (qkp K P) (fun i => decide (i = c)) p rb (n + 1) d := by
    intro n
    induction n with
    | zero => intro c h1 h2; omega
    | succ n ih =>
      intro d h1 h2
      exact rSt_ext (fun i hi hi2 => ih i hi2 (by omega))
  exact fun d hd => key 48 d hd (by omega)
theorem RR_le (K : Nat → Nat) (P : Nat → Bool) (rb : Nat → Nat → Nat) {c p : Nat} (hp : p < 100) : ∀ i, i < 48 → RR K P rb c p i ≤ 100 := fun i hi => by
  have := run_le (RR_run K P rb c p) i hi
  omega
theorem dIm {r : Nat} (h : r < 2 ^ 31) : (dI r = (-1 : Int32)) = (r = 0) := by
  cases r with
  | zero => exact propext ⟨fun _ => rfl, fun _ => rfl⟩
  | succ r => exact propext ⟨fun hh => absurd hh (by show ¬ nI r = -1; rw [pn_neg (by omega)]; exact id), fun hh => by omega⟩
theorem ntz_core {n j : Nat} (h1 : n.testBit j = true) (h0 : ∀ i, i < j → n.testBit i = false) : ∃ m, n = 2 ^ j * (2 * m + 1) := by
  have e0 : n % 2 ^ j = 0 := by
    apply Nat.eq_of_testBit_eq
    intro i
    rw [Nat.testBit_mod_two_pow, Nat.zero_testBit]
    by_cases h : i < j
    · rw [h0 i h, Bool.and_false]
    · rw [decide_eq_false h, Bool.false_and]
  have e1 : n / 2 ^ j % 2 = 1 := by
    rw [Nat.testBit_eq_decide_div_mod_eq] at h1
    exact of_decide_eq_true h1
  refine ⟨n / 2 ^ j / 2, ?_⟩
  have e2 := Nat.div_add_mod n (2 ^ j)
  rw [e0, Nat.add_zero] at e2
  rw [show 2 * (n / 2 ^ j / 2) + 1 = n / 2 ^ j by omega]
  exact e2.symm
theorem ntz_bits {n j : Nat} (hj : j < 32) (h1 : n.testBit j = true) (h0 : ∀ i, i < j → n.testBit i = false) : ((nI n ^^^ (-1 : Int32)) &&& (nI n - (1 : Int32))) = nI (2 ^ j - 1) := by
  obtain ⟨m, hm⟩ := ntz_core h1 h0
  have hp : 0 < 2 ^ j := Nat.two_pow_pos j
  have hn1 : 1 ≤ n := by
    rw [hm]
    exact Nat.mul_pos hp (by omega)
  have e1 : nI n - (1 : Int32) = nI (n - 1) := pk_sub (b := 1) hn1
  have hn2 : n - 1 = 2 ^ j * (2 * m) + (2 ^ j - 1) := by
    rw [hm, Nat.mul_add, Nat.mul_one]
    omega
  have hn3 : n = 2 ^ j * (2 * m + 1) + 0 := hm
  rw [e1]
  apply Int32.toBitVec_inj.mp
  apply BitVec.eq_of_getLsbD_eq
  intro i hi
  rw [Int32.toBitVec_and, Int32.toBitVec_xor, BitVec.getLsbD_and, BitVec.getLsbD_xor, show (-1 : Int32).toBitVec = BitVec.allOnes 32 by decide, BitVec.getLsbD_allOnes, decide_eq_true hi]
  show (((BitVec.ofNat 32 n).getLsbD i ^^ true) && (BitVec.ofNat 32 (n - 1)).getLsbD i) = (BitVec.ofNat 32 (2 ^ j - 1)).getLsbD i
  rw [BitVec.getLsbD_ofNat, BitVec.getLsbD_ofNat, BitVec.getLsbD_ofNat, decide_eq_true hi, Bool.true_and, Bool.true_and, Bool.true_and, Nat.testBit_two_pow_sub_one]
  have t1 : n.testBit i = if i < j then false else (2 * m + 1).testBit (i - j) := by
    rw [hn3, Nat.testBit_two_pow_mul_add _ hp, Nat.zero_testBit]
  have t2 : (n - 1).testBit i = if i < j then true else (2 * m).testBit (i - j) := by
    rw [hn2, Nat.testBit_two_pow_mul_add _ (by omega), Nat.testBit_two_pow_sub_one]
    by_cases h : i < j
    · rw [if_pos h, if_pos h, decide_eq_true h]
    · rw [if_neg h, if_neg h]
  rw [t1, t2]
  by_cases h : i < j
  · rw [if_pos h, if_pos h, decide_eq_true h]; rfl
  · rw [if_neg h, if_neg h, decide_eq_false h]
    cases i - j with
    | zero => rw [show (2 * m).testBit 0 = false by rw [Nat.testBit_zero]; simp, Bool.and_false]
    | succ k =>
      rw [Nat.testBit_succ, Nat.testBit_succ, show (2 * m + 1) / 2 = m by omega, show 2 * m / 2 = m by omega]
      cases m.testBit k <;> rfl
theorem ntz_pow : ∀ j, j < 32 → J6_numberOfTrailingZeros_0f7a4 (nI (2 ^ j)) = some (nI j) := by decide +kernel
theorem ntz_32 {n j : Nat} (hj : j < 32) (h1 : n.testBit j = true) (h0 : ∀ i, i < j → n.testBit i = false) : J6_numberOfTrailingZeros_0f7a4 (nI n) = some (nI j) := by
  rw [← ntz_pow j hj]
  unfold J6_numberOfTrailingZeros_0f7a4
  rw [ntz_bits hj h1 h0, ntz_bits (n := 2 ^ j) hj (by rw [Nat.testBit_two_pow]; simp) (fun i hi => by rw [Nat.testBit_two_pow]; simp; omega)]
theorem nI_mod (x : Nat) : nI x = nI (x % 2 ^ 32) := by
  apply Int32.toBitVec_inj.mp
  show BitVec.ofNat 32 x = BitVec.ofNat 32 (x % 2 ^ 32)
  apply BitVec.eq_of_toNat_eq
  rw [BitVec.toNat_ofNat, BitVec.toNat_ofNat, Nat.mod_mod]
theorem qS_ntz {p : Nat → Bool} {j : Nat} (hj : j < 48) (hp : p j = true) (hlow : ∀ i, i < j → p i = false) : J13_numberOfTrailingZeros_95d88 (qS p) = some (nI j) := by
  have hl := qS_lt p
  have hb : ∀ i, (pS p 48).testBit i = (decide (i < 48) && p i) := pS_bit p 48
  unfold J13_numberOfTrailingZeros_95d88 qS
  rw [pj_b, lN_i]
  by_cases h : j < 32
  · have hne : ¬ nI (pS p 48) = 0 := by
      intro e
      have e2 := congrArg Int32.toBitVec e
      have e3 := congrArg (fun x => BitVec.getLsbD x j) e2
      have e4 : (BitVec.ofNat 32 (pS p 48)).getLsbD j = (0#32).getLsbD j := e3
      rw [BitVec.getLsbD_ofNat, hb, decide_eq_true h, decide_eq_true hj, hp] at e4
      simp at e4
    rw [if_neg hne, ntz_32 h (by rw [hb, decide_eq_true hj, hp]; rfl) (fun i hi => by rw [hb, hlow i hi, Bool.and_false]), po_b]
  · have hz : pS p 48 % 2 ^ 32 = 0 := by
      apply Nat.eq_of_testBit_eq
      intro i
      rw [Nat.testBit_mod_two_pow, Nat.zero_testBit]
      by_cases hi : i < 32
      · rw [hb, hlow i (by omega), Bool.and_false, Bool.and_false]
      · rw [decide_eq_false hi, Bool.false_and]
    rw [if_pos (by rw [nI_mod, hz]; rfl)]
    have e1 : mh_ushrl (lN (pS p 48)) (32 : Int32) = lN (pS p 48 / 2 ^ 32) := qu_l (by omega) 32 (by decide)
    have hb2 : ∀ i, (pS p 48 / 2 ^ 32).testBit i = (decide (i + 32 < 48) && p (i + 32)) := fun i => by
      rw [Nat.testBit_div_two_pow, hb, Nat.add_comm]
    rw [e1, lN_i, ntz_32 (j := j - 32) (by omega) (by rw [hb2, show j - 32 + 32 = j by omega, decide_eq_true hj, hp]; rfl) (fun i hi => by rw [hb2, hlow _ (by omega), Bool.and_false]), po_b]
    simp only [pn_ar]
    rw [show 32 + (j - 32) = j by omega]
theorem qS_s1 {P : Nat → Bool} {j : Nat} (h : P j = true) : qS (fun i => decide (i < j) && P i) ||| qS (fun i => decide (i = j)) = qS (fun i => decide (i < j + 1) && P i) := by
  rw [qS_or]
  refine qS_ext fun i _ => ?_
  by_cases e : i = j
  · subst e; rw [h]; simp
  · by_cases e2 : i < j
    · rw [decide_eq_true e2, decide_eq_true (show i < j + 1 by omega), decide_eq_false e, Bool.or_false]
    · rw [decide_eq_false e2, decide_eq_false (show ¬ i < j + 1 by omega), decide_eq_false e, Bool.or_false]
theorem qS_s0 {P : Nat → Bool} {j : Nat} (h : P j = false) : qS (fun i => decide (i < j) && P i) = qS (fun i => decide (i < j + 1) && P i) := by
  refine qS_ext fun i _ => ?_
  by_cases e : i = j
  · subst e; rw [h]; simp
  · by_cases e2 : i < j
    · rw [decide_eq_true e2, decide_eq_true (show i < j + 1 by omega)]
    · rw [decide_eq_false e2, decide_eq_false (show ¬ i < j + 1 by omega)]
theorem qS_sE {P : Nat → Bool} : qS (fun i => decide (i < 48) && P i) = qS P := qS_ext fun i hi => by rw [decide_eq_true hi, Bool.true_and]
theorem qS_sI {P : Nat → Bool} : (0 : Int64) = qS (fun i => decide (i < 0) && P i) := by
  rw [qS_0]
  refine qS_ext fun i _ => ?_
  rw [decide_eq_false (Nat.not_lt_zero i), Bool.false_and]
theorem p_col {p j : Nat} (hp : p < 6) (hj : j < 8) : qS (fun i => decide (i / 6 < j) && decide (i % 6 = p)) ||| qS (fun i => decide (i = 6 * j + p)) = qS (fun i => decide (i / 6 < j + 1) && decide (i % 6 = p)) := by
  rw [qS_or]
  refine qS_ext fun i _ => ?_
  by_cases e : i = 6 * j + p
  · rw [decide_eq_true e, decide_eq_true (show i / 6 < j + 1 by omega), decide_eq_true (show i % 6 = p by omega), Bool.or_true]; rfl
  · rw [decide_eq_false e, Bool.or_false]
    by_cases e2 : i / 6 < j
    · rw [decide_eq_true e2, decide_eq_true (show i / 6 < j + 1 by omega)]
    · rw [decide_eq_false e2, Bool.false_and]
      by_cases e3 : i / 6 < j + 1
      · rw [decide_eq_false (show ¬ i % 6 = p by omega), Bool.and_false]
      · rw [decide_eq_false e3, Bool.false_and]
theorem isRun_kp {K : Nat → Nat} {kp kp' D : Nat → Bool} {p : Nat} {rb : Nat → Nat → Nat} {R : Nat → Nat} (h : isRun K kp D p rb R) (e : ∀ i, i < 48 → kp i = kp' i) : isRun K kp' D p rb R := by
  intro c hc
  rw [h c hc, rSt, rSt, e c hc]
def RH (K : Nat → Nat) (P : Nat → Bool) (rb : Nat → Nat → Nat) (H : Nat → Bool) (c p : Nat) : Nat → Nat := rrN K (fun i => H i || qkp K P i) (fun i => decide (i = c)) p rb 48
theorem RH_run (K : Nat → Nat) (P : Nat → Bool) (rb : Nat → Nat → Nat) (H : Nat → Bool) (c p : Nat) : isRun K (fun i => H i || qkp K P i) (fun i => decide (i = c)) p rb (RH K P rb H c p) := by
  have key : ∀ n d, d < 48 → 48 ≤ n + d → rrN K (fun i => H i || qkp K P i) (fun i => decide (i = c)) p rb n d = rrN K (fun i => H i || qkp K P i) (fun i => decide (i = c)) p rb (n + 1) d := by
    intro n
    induction n with
    | zero => intro c h1 h2; omega
    | succ n ih =>
      intro d h1 h2
      exact rSt_ext (fun i hi hi2 => ih i hi2 (by omega))
  exact fun d hd => key 48 d hd (by omega)
theorem gn_ext {R R' : Nat → Nat} (h : ∀ i, i < 48 → R' i = R i) : gn R' = gn R := qC_ext (fun i hi => by rw [h i hi])
def tried (K : Nat → Nat) (P : Nat → Bool) (rb : Nat → Nat → Nat) (c p : Nat) : Nat → Bool := fun i => decide (0 < RH K P rb (fun _ => false) c p i) && !decide (i = c)
