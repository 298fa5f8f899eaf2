/-! PURE: a run: what is left of each loop (0: it stays; m + 1: it goes, m is left); the class's -/
def rA (K R : Nat → Nat) (c : Nat) : Nat := if c < 42 then (if qO (K (c + 6)) = true then (if qX (K (pnb c + 6)) = true then (if R (c + 6) = 0 ∨ R (pnb c + 6) = 0 then 0 else max (R (c + 6)) (R (pnb c + 6))) else R (c + 6)) else if qX (K (pnb c + 6)) = true then R (pnb c + 6) else 0) else 0
def rSt (K : Nat → Nat) (kp dr : Nat → Bool) (p : Nat) (rb : Nat → Nat → Nat) (R : Nat → Nat) (c : Nat) : Nat := if kp c = true then 0 else if dr c = true then p + 1 else if rb c (rA K R c - 1) < rA K R c - 1 then rA K R c - rb c (rA K R c - 1) else 0
def isRun (K : Nat → Nat) (kp dr : Nat → Bool) (p : Nat) (rb : Nat → Nat → Nat) (R : Nat → Nat) : Prop := ∀ c, c < 48 → R c = rSt K kp dr p rb R c
theorem rA_ext {K R R' : Nat → Nat} {c : Nat} (h : ∀ i, c < i → i < 48 → R i = R' i) : rA K R c = rA K R' c := by
  unfold rA
  by_cases hc : c < 42
  · rw [if_pos hc, if_pos hc, h (c + 6) (by omega) (by omega), h (pnb c + 6) (by unfold pnb; omega) (by unfold pnb; omega)]
  · rw [if_neg hc, if_neg hc]
theorem rSt_ext {K : Nat → Nat} {kp dr : Nat → Bool} {p : Nat} {rb : Nat → Nat → Nat} {R R' : Nat → Nat} {c : Nat} (h : ∀ i, c < i → i < 48 → R i = R' i) : rSt K kp dr p rb R c = rSt K kp dr p rb R' c := by
  unfold rSt
  rw [rA_ext h]
def rrN (K : Nat → Nat) (kp dr : Nat → Bool) (p : Nat) (rb : Nat → Nat → Nat) : Nat → Nat → Nat
  | 0, _ => 0
  | n + 1, c => rSt K kp dr p rb (rrN K kp dr p rb n) c
theorem isRun_ex (K : Nat → Nat) (kp dr : Nat → Bool) (p : Nat) (rb : Nat → Nat → Nat) : ∃ R, isRun K kp dr p rb R := by
  have key : ∀ n c, c < 48 → 48 ≤ n + c → rrN K kp dr p rb n c = rrN K kp dr p rb (n + 1) c := by
    intro n
    induction n with
    | zero => intro c h1 h2; omega
    | succ n ih =>
      intro c h1 h2
      exact rSt_ext (fun i hi hi2 => ih i hi2 (by omega))
  exact ⟨rrN K kp dr p rb 48, fun c hc => key 48 c hc (by omega)⟩
theorem rA_le {K R : Nat → Nat} {c n : Nat} (h : ∀ i, c < i → i < 48 → R i ≤ n) : rA K R c ≤ n := by
  unfold rA
  by_cases hc : c < 42
  · have h1 := h (c + 6) (by omega) (by omega)
    have h2 := h (pnb c + 6) (by unfold pnb; omega) (by unfold pnb; omega)
    rw [if_pos hc]
    (repeat' split) <;> omega
  · rw [if_neg hc]; omega
theorem run_le {K : Nat → Nat} {kp dr : Nat → Bool} {p : Nat} {rb : Nat → Nat → Nat} {R : Nat → Nat} (h : isRun K kp dr p rb R) : ∀ c, c < 48 → R c ≤ p + 1 := by
  have key : ∀ n c, c < 48 → 48 ≤ n + c → R c ≤ p + 1 := by
    intro n
    induction n with
    | zero => intro c h1 h2; omega
    | succ n ih =>
      intro c h1 h2
      have := rA_le (K := K) (c := c) (n := p + 1) (fun i hi hi2 => ih i hi2 (by omega))
      rw [h c h1, rSt]
      (repeat' split) <;> omega
  exact fun c hc => key 48 c hc (by omega)
/-- free: some go through it, and all that do have gone -/
theorem rA_free {K R : Nat → Nat} {c : Nat} : (0 < rA K R c) ↔ (∃ y, y < 48 ∧ qgt K y c = true) ∧ ∀ y, y < 48 → qgt K y c = true → 0 < R y := by
  have hq : ∀ y, y < 48 → (qgt K y c = true ↔ (y = c + 6 ∧ qO (K (c + 6)) = true) ∨ (y = pnb c + 6 ∧ qX (K (pnb c + 6)) = true)) := by
    intro y hy
    unfold qgt
    simp only [decide_eq_true hy, Bool.true_and, Bool.or_eq_true, Bool.and_eq_true, decide_eq_true_eq]
    constructor
    · rintro (⟨h1, h2⟩ | ⟨h1, h2⟩)
      · subst h1; exact .inl ⟨rfl, h2⟩
      · subst h1; exact .inr ⟨rfl, h2⟩
    · rintro (⟨h1, h2⟩ | ⟨h1, h2⟩)
      · subst h1; exact .inl ⟨rfl, h2⟩
      · subst h1; exact .inr ⟨rfl, h2⟩
  by_cases hc : c < 42
  · have l1 : c + 6 < 48 := by omega
    have l2 : pnb c + 6 < 48 := by unfold pnb; omega
    have e : ((∃ y, y < 48 ∧ qgt K y c = true) ∧ ∀ y, y < 48 → qgt K y c = true → 0 < R y) ↔ ((qO (K (c + 6)) = true ∨ qX (K (pnb c + 6)) = true) ∧ (qO (K (c + 6)) = true → 0 < R (c + 6)) ∧ (qX (K (pnb c + 6)) = true → 0 < R (pnb c + 6))) := by
      constructor
      · rintro ⟨⟨y, hy, h1⟩, h2⟩
        refine ⟨?_, fun h => h2 _ l1 ((hq _ l1).mpr (.inl ⟨rfl, h⟩)), fun h => h2 _ l2 ((hq _ l2).mpr (.inr ⟨rfl, h⟩))⟩
        rcases (hq y hy).mp h1 with ⟨-, h⟩ | ⟨-, h⟩
        · exact .inl h
        · exact .inr h
      · rintro ⟨h1, h2, h3⟩
        refine ⟨?_, fun y hy h => ?_⟩
        · rcases h1 with h | h
          · exact ⟨_, l1, (hq _ l1).mpr (.inl ⟨rfl, h⟩)⟩
          · exact ⟨_, l2, (hq _ l2).mpr (.inr ⟨rfl, h⟩)⟩
        · rcases (hq y hy).mp h with ⟨rfl, h'⟩ | ⟨rfl, h'⟩
          · exact h2 h'
          · exact h3 h'
    rw [e, rA, if_pos hc]
    clear e hq
    generalize R (c + 6) = a
    generalize R (pnb c + 6) = b
    cases qO (K (c + 6)) <;> cases qX (K (pnb c + 6)) <;> simp
    by_cases h : a = 0 ∨ b = 0
    · rw [if_pos h]; omega
    · rw [if_neg h]; omega
  · rw [rA, if_neg hc]
    constructor
    · intro h; omega
    · rintro ⟨⟨y, hy, h1⟩, -⟩
      rcases (hq y hy).mp h1 with ⟨h, -⟩ | ⟨h, -⟩
      · omega
      · unfold pnb at h; omega
/-- what comes, from the lesser numbers up -/
def mxf (K R : Nat → Nat) (c : Nat) : Nat → Nat
  | 0 => 0
  | x + 1 => if qgt K x c = true then max (mxf K R c x) (R x - 1) else mxf K R c x
theorem qgt_out {K : Nat → Nat} {c y : Nat} (h : y < c + 5 ∨ c + 7 < y) : qgt K y c = false := by
  unfold qgt pnb
  rw [decide_eq_false (show ¬ y = c + 6 by omega), decide_eq_false (show ¬ y = c + 1 - 2 * (c % 2) + 6 by omega)]
  simp
theorem mxf_low {K R : Nat → Nat} {c : Nat} : ∀ x, x ≤ c + 5 → mxf K R c x = 0 := by
  intro x
  induction x with
  | zero => intro _; rfl
  | succ x ih => intro h; rw [mxf, qgt_out (.inl (by omega)), if_neg (by decide), ih (by omega)]
theorem mxf_le {K R : Nat → Nat} {c n : Nat} (h : ∀ i, i < 48 → R i ≤ n + 1) : ∀ x, mxf K R c x ≤ n := by
  intro x
  induction x with
  | zero => exact Nat.zero_le n
  | succ x ih =>
    rw [mxf]
    split
    · rename_i hq
      have hx : x < 48 := by
        unfold qgt at hq
        simp only [Bool.and_eq_true, decide_eq_true_eq] at hq
        exact hq.1
      have := h x hx
      omega
    · exact ih
theorem mxf_rA {K R : Nat → Nat} {c : Nat} (hf : 0 < rA K R c) : c < 42 ∧ mxf K R c (min 48 (c + 8)) = rA K R c - 1 := by
  have hc : c < 42 := by
    rcases Nat.lt_or_ge c 42 with h | h
    · exact h
    · rw [rA, if_neg (by omega)] at hf; omega
  refine ⟨hc, ?_⟩
  have own : qgt K (c + 6) c = qO (K (c + 6)) := by
    unfold qgt pnb
    rw [decide_eq_true (show c + 6 < 48 by omega), decide_eq_true (show c + 6 = c + 6 from rfl), decide_eq_false (show ¬ c + 6 = c + 1 - 2 * (c % 2) + 6 by omega)]
    simp
  have nxt : qgt K (pnb c + 6) c = qX (K (pnb c + 6)) := by
    unfold qgt
    rw [decide_eq_true (show pnb c + 6 < 48 by unfold pnb; omega), decide_eq_true (show pnb c + 6 = pnb c + 6 from rfl), decide_eq_false (show ¬ pnb c + 6 = c + 6 by unfold pnb; omega)]
    simp
  rw [rA, if_pos hc] at hf ⊢
  rcases Nat.mod_two_eq_zero_or_one c with h2 | h2
  · have hp : pnb c + 6 = c + 7 := by unfold pnb; omega
    rw [hp] at nxt hf ⊢
    have h5 : qgt K (c + 5) c = false := by
      unfold qgt pnb
      rw [decide_eq_false (show ¬ c + 5 = c + 6 by omega), decide_eq_false (show ¬ c + 5 = c + 1 - 2 * (c % 2) + 6 by omega)]
      simp
    rw [show min 48 (c + 8) = c + 5 + 1 + 1 + 1 by omega, mxf, mxf, mxf, mxf_low _ (Nat.le_refl _), h5, own, nxt]
    cases h1 : qO (K (c + 6)) <;> cases h3 : qX (K (c + 7)) <;> rw [h1, h3] at hf <;> simp at hf ⊢ <;> (try split at hf) <;> (try split) <;> omega
  · have hp : pnb c + 6 = c + 5 := by unfold pnb; omega
    rw [hp] at nxt hf ⊢
    have h7 : qgt K (c + 7) c = false := by
      unfold qgt pnb
      rw [decide_eq_false (show ¬ c + 7 = c + 6 by omega), decide_eq_false (show ¬ c + 7 = c + 1 - 2 * (c % 2) + 6 by omega)]
      simp
    have e : mxf K R c (min 48 (c + 8)) = mxf K R c (c + 5 + 1 + 1) := by
      rcases Nat.lt_or_ge (c + 7) 48 with h | h
      · rw [show min 48 (c + 8) = c + 7 + 1 by omega, mxf, h7, if_neg (by decide)]
      · rw [show min 48 (c + 8) = c + 5 + 1 + 1 by omega]
    rw [e, mxf, mxf, mxf_low _ (Nat.le_refl _), nxt, own]
    cases h1 : qO (K (c + 6)) <;> cases h3 : qX (K (c + 5)) <;> rw [h1, h3] at hf <;> simp at hf ⊢ <;> (try split at hf) <;> (try split) <;> omega
/-! how much one rubs -/
def rbk (k s m : Nat) : Nat := if k = 1 ∨ k = 5 then s + m else if k = 3 then 2 * s else s
def rbf (e o : Nat → Nat) (K M : Nat → Nat) (N : Nat → Bool) (c m : Nat) : Nat := rbk (K c) (sd e o K M N 0 c m) (M c)
theorem rbk_5 {k : Nat} (hk : k < 6) (s m : Nat) : X5_rubOf (nI k) (nI s) (nI m) = some (nI (rbk k s m)) := by
  unfold X5_rubOf rbk
  rcases (show k = 0 ∨ k = 1 ∨ k = 2 ∨ k = 3 ∨ k = 4 ∨ k = 5 by omega) with rfl | rfl | rfl | rfl | rfl | rfl <;> simp (decide := true) only [if_true, if_false, nI_add] <;> exact congrArg some (pk_mul 2 s)
theorem rbk_le {k s m : Nat} (hs : s ≤ 99) (hm : m < 10) : rbk k s m ≤ 999 := by
  unfold rbk
  (repeat' split) <;> omega
