/-! PURE: the loops and the law changed, in both -/
theorem Rel_core {T : Option Nat} {I I' : mh_I} {L L' : mh_L} {J J' : mh_I} {K' M' : Nat → Nat} {P' N' : Nat → Bool} {u' : Nat} (h : Rel T I L J) (hI : ∀ b k, ¬ (b = 2 ∨ b = 3 ∨ (b = 1 ∧ k = 4)) → I' b k = I b k) (hL : ∀ b k, ¬ b = 1 → L' b k = L b k) (hJ : ∀ b k, ¬ (b = 1 ∨ b = 2 ∨ b = 3 ∨ b = 4 ∨ (b = 0 ∧ k = 9)) → J' b k = J b k) (hu : ∀ n, n ≤ 6 → I 0 5 = nI n → u' < n)
    (c5 : cK 2 I' K' ∧ bK K' 6 ∧ cK 3 I' M' ∧ bK M' 10 ∧ L' 1 2 = qS P' ∧ L' 1 3 = qS N' ∧ I' 1 4 = nI u') (c6 : cK 1 J' K' ∧ cK 2 J' M' ∧ (∀ c, c < 48 → J' 3 c = nI (qb P' c)) ∧ (∀ c, c < 48 → J' 4 c = nI (qb N' c)) ∧ J' 0 9 = nI u') : Rel T I' L' J' := by
  obtain ⟨hT, ⟨K, M, P, N, u, n, hc1, hc2⟩, m3, m4, m5⟩ := h
  obtain ⟨-, -, k1, k2, k3, k4, k5⟩ := hc1
  refine ⟨hT, ⟨K', M', P', N', u', n, ⟨c5, c6, hu n k2 k3, k2, (hI 0 5 (by omega)).trans k3, (hJ 0 8 (by omega)).trans k4, fun v hv => ?_⟩, ?_⟩, ?_, ?_, fun k hk => (hJ 13 k (by omega)).trans (m5 k hk)⟩
  · obtain ⟨e, o, t1, t2, t3⟩ := k5 v hv
    exact ⟨e, o, t1, ⟨fun j hj => (hI _ _ (by omega)).trans (t2.1 j hj), fun q hq => (hI _ _ (by omega)).trans (t2.2 q hq)⟩, ⟨fun j hj => (hJ _ _ (by omega)).trans (t3.1 j hj), fun q hq => (hJ _ _ (by omega)).trans (t3.2 q hq)⟩⟩
  · rcases hc2 with ⟨h1, h2⟩ | ⟨h1, h2, K, M, P, N, u, ⟨a1, a2, a3, a4, a5, a6, a7⟩, b1, b2, b3⟩
    · exact .inl ⟨(hI 0 2 (by omega)).trans h1, (hJ 0 10 (by omega)).trans h2⟩
    · exact .inr ⟨(hI 0 2 (by omega)).trans h1, (hJ 0 10 (by omega)).trans h2, K, M, P, N, u, ⟨fun i hi => (hI 5 i (by omega)).trans (a1 i hi), a2, fun i hi => (hI 6 i (by omega)).trans (a3 i hi), a4, (hL 4 2 (by decide)).trans a5, (hL 4 3 (by decide)).trans a6, (hI 4 4 (by omega)).trans a7⟩, fun i hi => ⟨(hJ 8 _ (by omega)).trans (b1 i hi).1, (hJ 8 _ (by omega)).trans (b1 i hi).2.1, (hJ 8 _ (by omega)).trans (b1 i hi).2.2.1, (hJ 8 _ (by omega)).trans (b1 i hi).2.2.2⟩, (hJ 0 11 (by omega)).trans b2, b3⟩
  · obtain ⟨z, h1, h2, h3, h4⟩ := m3
    refine ⟨z, h1, (hI 7 1 (by omega)).trans h2, (hJ 0 5 (by omega)).trans h3, fun i hi => ?_⟩
    obtain ⟨b, g1, g2, g3⟩ := h4 i hi
    exact ⟨b, g1, (hI 8 i (by omega)).trans g2, (hJ 5 i (by omega)).trans g3⟩
  · intro s hs
    obtain ⟨h1, h2, ⟨z, h3, h4, h5⟩, h6⟩ := m4 s hs
    have q1 := hI (38 + 2 * s) 1 (by omega)
    exact ⟨by rw [q1]; exact h1, by rw [q1, hJ 9 s (by omega)]; exact h2, ⟨z, h3, (hI _ _ (by omega)).trans h4, (hJ 10 s (by omega)).trans h5⟩, fun i hi => by rw [hJ 11 _ (by omega), hI (39 + 2 * s) i (by omega)]; exact h6 i hi⟩
