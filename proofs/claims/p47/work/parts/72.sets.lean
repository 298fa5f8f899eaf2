/-! PURE: sets of loops as longs -/
def pS (p : Nat → Bool) : Nat → Nat
  | 0 => 0
  | n + 1 => pS p n + (if p n = true then 2 ^ n else 0)
theorem pS_lt (p : Nat → Bool) : ∀ n, pS p n < 2 ^ n := by
  intro n
  induction n with
  | zero => exact Nat.one_pos
  | succ n ih =>
    rw [pS, Nat.pow_succ]
    split <;> omega
theorem pS_bit (p : Nat → Bool) : ∀ n i, (pS p n).testBit i = (decide (i < n) && p i) := by
  intro n
  induction n with
  | zero => intro i; simp [pS]
  | succ n ih =>
    intro i
    have hl := pS_lt p n
    rw [pS]
    by_cases hp : p n = true
    · rw [if_pos hp, Nat.add_comm]
      rcases Nat.lt_trichotomy i n with h | h | h
      · rw [Nat.testBit_two_pow_add_gt h, ih, decide_eq_true h, decide_eq_true (show i < n + 1 by omega)]
      · subst h
        rw [Nat.testBit_two_pow_add_eq, ih, hp]
        simp
      · rw [Nat.testBit_lt_two_pow (show 2 ^ n + pS p n < 2 ^ i by
          have := Nat.pow_le_pow_right (show 0 < 2 by decide) (show n + 1 ≤ i by omega)
          rw [Nat.pow_succ] at this
          omega), decide_eq_false (show ¬ i < n + 1 by omega)]
        rfl
    · rw [if_neg hp, Nat.add_zero, ih]
      by_cases h : i < n
      · rw [decide_eq_true h, decide_eq_true (show i < n + 1 by omega)]
      · rw [decide_eq_false h]
        by_cases h2 : i = n
        · subst h2
          simp [hp]
        · rw [decide_eq_false (show ¬ i < n + 1 by omega)]
theorem pS_ext {p q : Nat → Bool} {n : Nat} (h : ∀ i, i < n → p i = q i) : pS p n = pS q n := by
  apply Nat.eq_of_testBit_eq
  intro i
  rw [pS_bit, pS_bit]
  by_cases hi : i < n
  · rw [h i hi]
  · rw [decide_eq_false hi]; rfl
def qS (p : Nat → Bool) : Int64 := lN (pS p 48)
theorem qS_lt (p : Nat → Bool) : pS p 48 < 2 ^ 48 := pS_lt p 48
theorem qS_ext {p q : Nat → Bool} (h : ∀ i, i < 48 → p i = q i) : qS p = qS q := by
  unfold qS
  rw [pS_ext h]
theorem qS_inj {p q : Nat → Bool} (h : qS p = qS q) : ∀ i, i < 48 → p i = q i := by
  intro i hi
  have h1 := qS_lt p
  have h2 := qS_lt q
  have e0 := congrArg Int64.toInt h
  unfold qS at e0
  rw [pf_lI (a := pS p 48) (by omega), pf_lI (a := pS q 48) (by omega)] at e0
  have e : pS p 48 = pS q 48 := Int.ofNat.inj e0
  have e2 := congrArg (fun x => x.testBit i) e
  simp only [pS_bit, decide_eq_true hi, Bool.true_and] at e2
  exact e2
theorem qS_or (p q : Nat → Bool) : qS p ||| qS q = qS (fun i => p i || q i) := by
  unfold qS
  rw [wb_or (by have := qS_lt p; omega) (by have := qS_lt q; omega)]
  congr 1
  apply Nat.eq_of_testBit_eq
  intro i
  rw [Nat.testBit_or, pS_bit, pS_bit, pS_bit]
  cases decide (i < 48) <;> simp
theorem qS_and (p q : Nat → Bool) : qS p &&& qS q = qS (fun i => p i && q i) := by
  unfold qS
  rw [wb_and (by have := qS_lt p; omega) (by have := qS_lt q; omega)]
  congr 1
  apply Nat.eq_of_testBit_eq
  intro i
  rw [Nat.testBit_and, pS_bit, pS_bit, pS_bit]
  cases decide (i < 48) <;> simp
theorem qS_g (p : Nat → Bool) {i : Nat} (hi : i < 64) : (qS p).toBitVec.getLsbD i = (decide (i < 48) && p i) := by
  show (BitVec.ofNat 64 (pS p 48)).getLsbD i = _
  rw [BitVec.getLsbD_ofNat, pS_bit, decide_eq_true hi, Bool.true_and]
theorem qS_andn (p q : Nat → Bool) : qS p &&& (qS q ^^^ (-1)) = qS (fun i => p i && !(q i)) := by
  apply wb_inj
  apply BitVec.eq_of_getLsbD_eq
  intro i hi
  rw [Int64.toBitVec_and, Int64.toBitVec_xor, BitVec.getLsbD_and, BitVec.getLsbD_xor, qS_g _ hi, qS_g _ hi, qS_g _ hi, show (-1 : Int64).toBitVec = BitVec.allOnes 64 by decide, BitVec.getLsbD_allOnes, decide_eq_true hi]
  cases decide (i < 48) <;> simp
theorem qS_0 : (0 : Int64) = qS (fun _ => false) := by
  unfold qS
  have : ∀ n, pS (fun _ => false) n = 0 := by
    intro n
    induction n with
    | zero => rfl
    | succ n ih => rw [pS, ih]; rfl
  rw [this]
  rfl
theorem pS_one {c : Nat} : ∀ {n : Nat}, c < n → pS (fun i => decide (i = c)) n = 2 ^ c := by
  intro n h
  apply Nat.eq_of_testBit_eq
  intro i
  rw [pS_bit, Nat.testBit_two_pow]
  by_cases e : i = c
  · subst e; simp [h]
  · simp [e, Ne.symm e]
theorem qS_sh {c : Nat} (h : c < 48) : (1 : Int64) <<< ((nI c).toInt64 &&& 63) = qS (fun i => decide (i = c)) := by
  rw [show (1 : Int64) = lN 1 from rfl, wb_shl 1 (show c < 64 by omega), Nat.one_mul]
  unfold qS
  rw [pS_one h]
theorem qS_bit {c : Nat} (h : c < 48) : X5_bit (nI c) = some (qS (fun i => decide (i = c))) := by
  unfold X5_bit
  rw [qS_sh h]
theorem pS_dm (p : Nat → Bool) {n c : Nat} (h : c < n) : pS p n / 2 ^ c % 2 = if p c = true then 1 else 0 := by
  have e := pS_bit p n c
  rw [Nat.testBit_eq_decide_div_mod_eq, decide_eq_true h, Bool.true_and] at e
  have h2 : pS p n / 2 ^ c % 2 < 2 := Nat.mod_lt _ (by decide)
  by_cases hp : p c = true
  · rw [if_pos hp]
    rw [hp] at e
    exact of_decide_eq_true e
  · rw [if_neg hp]
    have hp : p c = false := by simpa using hp
    rw [hp] at e
    have := of_decide_eq_false e
    omega
theorem qS_get (p : Nat → Bool) {c : Nat} (h : c < 48) : (qS p >>> ((nI c).toInt64 &&& 63)) &&& (1 : Int64) = lN (if p c = true then 1 else 0) := by
  unfold qS
  have hl := qS_lt p
  rw [wb_sr (by omega) (by omega), wb_a1 (Nat.lt_of_le_of_lt (Nat.div_le_self _ _) (by omega)), pS_dm p h]
theorem qS_has0 (p : Nat → Bool) {c : Nat} (h : c < 48) : (lg_cmp ((qS p >>> ((nI c).toInt64 &&& 63)) &&& (1 : Int64)) (0 : Int64) = 0) = (p c = false) := by
  rw [qS_get p h]
  cases p c <;> simp <;> decide
theorem qS_has1 (p : Nat → Bool) {c : Nat} (h : c < 48) : (lg_cmp ((qS p >>> ((nI c).toInt64 &&& 63)) &&& (1 : Int64)) (1 : Int64) = 0) = (p c = true) := by
  rw [qS_get p h]
  cases p c <;> simp <;> decide
theorem qS_has (p : Nat → Bool) {c : Nat} (h : c < 48) : X5_hasBit (qS p) (nI c) = some (pI (p c = true)) := by
  unfold X5_hasBit pI
  simp only [qS_has0 p h]
  cases p c <;> rfl
theorem qS_z (p : Nat → Bool) : (lg_cmp (qS p) (0 : Int64) = 0) = (∀ i, i < 48 → p i = false) := by
  apply propext
  rw [lg_cmp_eq, qS_0]
  exact ⟨fun h i hi => qS_inj h i hi, fun h => qS_ext h⟩
theorem qS_sub (p q : Nat → Bool) : (lg_cmp (qS p &&& qS q) (qS p) = 0) = (∀ i, i < 48 → p i = true → q i = true) := by
  apply propext
  rw [lg_cmp_eq, qS_and]
  constructor
  · intro h i hi hp
    have := qS_inj h i hi
    simpa [hp] using this
  · intro h
    apply qS_ext
    intro i hi
    cases hp : p i
    · rfl
    · rw [h i hi hp]; rfl
/-! how many -/
def qC (p : Nat → Bool) : Nat → Nat
  | 0 => 0
  | n + 1 => qC p n + (if p n = true then 1 else 0)
theorem qC_le (p : Nat → Bool) : ∀ n, qC p n ≤ n := by
  intro n
  induction n with
  | zero => exact Nat.le_refl 0
  | succ n ih => rw [qC]; split <;> omega
theorem qC_ext {p q : Nat → Bool} : ∀ {n : Nat}, (∀ i, i < n → p i = q i) → qC p n = qC q n := by
  intro n
  induction n with
  | zero => intro _; rfl
  | succ n ih => intro h; rw [qC, qC, ih (fun i hi => h i (by omega)), h n (by omega)]
theorem qC_0 {p : Nat → Bool} : ∀ {n : Nat}, qC p n = 0 ↔ ∀ i, i < n → p i = false := by
  intro n
  induction n with
  | zero => exact ⟨fun _ i hi => absurd hi (Nat.not_lt_zero i), fun _ => rfl⟩
  | succ n ih =>
    rw [qC]
    constructor
    · intro h i hi
      cases hp : p n
      · rcases Nat.lt_or_ge i n with h1 | h1
        · exact ih.mp (by omega) i h1
        · rw [show i = n by omega]; exact hp
      · rw [hp, if_pos rfl] at h; omega
    · intro h
      rw [ih.mpr (fun i hi => h i (by omega)), h n (by omega)]
      rfl
theorem qC_sub {p q : Nat → Bool} : ∀ {n : Nat}, (∀ i, i < n → p i = true → q i = true) → qC p n ≤ qC q n := by
  intro n
  induction n with
  | zero => intro _; exact Nat.le_refl 0
  | succ n ih =>
    intro h
    have h1 := ih (fun i hi => h i (by omega))
    have h2 := h n (by omega)
    rw [qC, qC]
    cases hp : p n
    · simp; omega
    · rw [h2 hp]; simp; omega
theorem qS_bitsOf (p : Nat → Bool) : X6_bitsOf (qS p) = some (nI (qC p 48)) := by
  unfold X6_bitsOf
  refine pl_up (fun f j s => X6_bitsOf_l4 (qS p) f s j) 48 (fun r => r = some (nI (qC p 48))) (fun j s => s = nI (qC p j)) ?_ ?_ mh_fuel 0 0 (by omega) (by unfold mh_fuel; omega) rfl
  · intro f s hs
    show X6_bitsOf_l4 (qS p) (f + 1) s (nI 48) = _
    rw [X6_bitsOf_l4, if_pos (by decide), hs]
  · intro f j s hj hs
    left
    refine ⟨nI (qC p (j + 1)), rfl, ?_⟩
    show X6_bitsOf_l4 (qS p) (f + 1) s (nI j) = _
    rw [X6_bitsOf_l4]
    simp (disch := omega) only [pn_ll, mh_j, mh_b, qS_has1, if_neg]
    rw [hs, qC]
    cases p j
    · simp only [Bool.false_eq_true, if_false]
      rw [show (0 : Int32) = nI 0 from rfl, nI_add, show (1 : Int32) = nI 1 from rfl, nI_add]
    · simp only [if_true]
      rw [show (1 : Int32) = nI 1 from rfl, nI_add, nI_add]
