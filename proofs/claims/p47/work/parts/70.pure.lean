/-! PURE: a loop that counts up, with a way out; and the small tests -/
theorem pl_up {σ ρ : Type} (F : Nat → Int32 → σ → Option ρ) (N : Nat) (Q : Option ρ → Prop) (Inv : Nat → σ → Prop) (hx : ∀ f s, Inv N s → Q (F (f + 1) (nI N) s)) (hs : ∀ f j s, j < N → Inv j s → (∃ s', Inv (j + 1) s' ∧ F (f + 1) (nI j) s = F f (nI (j + 1)) s') ∨ Q (F (f + 1) (nI j) s)) : ∀ f j s, j ≤ N → N - j < f → Inv j s → Q (F f (nI j) s) := by
  intro f
  induction f with
  | zero => intro j s _ h; omega
  | succ f ih =>
    intro j s hj hf hI
    by_cases h : j = N
    · subst h; exact hx f s hI
    · rcases hs f j s (by omega) hI with ⟨s', h1, h2⟩ | h1
      · rw [h2]; exact ih (j + 1) s' (by omega) (by omega) h1
      · exact h1
def pI (p : Prop) [Decidable p] : Int32 := if p then 1 else 0
theorem px_within (v a b : Int32) : X5_within v a b = some (pI (a ≤ v ∧ v ≤ b)) := by
  unfold X5_within pI
  by_cases h1 : v < a
  · rw [if_pos h1, if_neg (fun h => absurd h.1 (Int32.not_le.mpr h1))]
  · rw [if_neg h1]
    by_cases h2 : b < v
    · rw [if_pos h2, if_neg (fun h => absurd h.2 (Int32.not_le.mpr h2))]
    · rw [if_neg h2, if_pos ⟨Int32.not_lt.mp h1, Int32.not_lt.mp h2⟩]
theorem pm_in (v a b : Int32) : X6_in v a b = some (pI (a ≤ v ∧ v ≤ b)) := by
  unfold X6_in pI
  by_cases h1 : v < a
  · rw [if_pos h1, if_neg (fun h => absurd h.1 (Int32.not_le.mpr h1))]
  · rw [if_neg h1]
    by_cases h2 : b < v
    · rw [if_pos h2, if_neg (fun h => absurd h.2 (Int32.not_le.mpr h2))]
    · rw [if_neg h2, if_pos ⟨Int32.not_lt.mp h1, Int32.not_lt.mp h2⟩]
