/-! PURE: rags: judge, which, laws, film -/
theorem p_sheet {I J : mh_I} (h : Rsheet I J) (a1 : Int32) {n : Nat} (hn : n < 2 ^ 31) : (∃ r, ¬ r = 0 ∧ X5_sheetRefusal a1 (nI n) I = some r ∧ X6_sheetWrong a1 (nI n) J = some r) ∨ (∃ s, s < 4 ∧ a1 = nI s ∧ X5_sheetRefusal a1 (nI n) I = some 0 ∧ X6_sheetWrong a1 (nI n) J = some 0 ∧ I (38 + 2 * s) 2 = nI n) := by
  unfold X5_sheetRefusal X6_sheetWrong
  rcases pa_sheet a1 with ⟨h5, h6⟩ | ⟨s, hs, rfl, h5, h6⟩
  · left
    refine ⟨-2, by decide, ?_, ?_⟩
    · rw [h5, po_b, if_pos rfl]
    · rw [h6, po_b, if_pos rfl]
  · obtain ⟨h1, h2, ⟨z, h3, h4, h7⟩, -⟩ := h s hs
    unfold X2_isMissing
    simp only [h5, h6, po_b, pz_10, if_false, px_ix hs (show 4 < 2 ^ 31 by decide), h2]
    by_cases hm : I (38 + 2 * s) 1 = -1
    · left
      refine ⟨-11, by decide, ?_, ?_⟩
      · rw [if_pos hm, po_b, if_neg (by decide)]
      · rw [if_pos hm]
    · simp only [hm, if_false, po_b, if_true, h4, h7, nI_eq (show z < 2 ^ 31 by omega) hn]
      by_cases hz : z = n
      · right
        exact ⟨s, hs, rfl, by rw [if_pos hz], by rw [if_pos hz], by rw [h4, hz]⟩
      · left
        exact ⟨-2, by decide, by rw [if_neg hz], by rw [if_neg hz]⟩
theorem p_unl {I J : mh_I} (h : Rsheet I J) {s : Nat} (hs : s < 4) (hz : I (38 + 2 * s) 2 = nI 48) {I' : mh_I} {L' : mh_L} {J' : mh_I} {K R : Nat → Nat} (hx : xx I I') (hj : jj J J') (rX : ranX I' L' K R) (rM : ranM J' R) (hl : ∀ i, i < 48 → R i ≤ 100) : ∃ v, X2_firstUnlike (38 + 2 * s) (L' 10 1) I' = some v ∧ X6_unlike (nI s) J' = some v ∧ (v = -1 ↔ ∀ i, i < 48 → I (39 + 2 * s) i = nI (if 0 < R i then 1 else 0)) := by
  obtain ⟨-, -, -, h6⟩ := Rsheet_fr h hx hj s hs
  have hz' : I' (38 + 2 * s) 2 = nI 48 := (hx _ 2 (by omega)).trans hz
  have hI : ∀ i, I' (39 + 2 * s) i = I (39 + 2 * s) i := fun i => hx _ i (by omega)
  obtain ⟨F, hF, eF⟩ := fuel_ex
  unfold X2_firstUnlike X6_unlike
  rw [eF, rX.2.1]
  refine pl_2 (fun f j (_ : Unit) => X2_firstUnlike_l2 (38 + 2 * s) (qS (fun c => decide (0 < R c))) I' f (nI j)) (fun f j (_ : Unit) => X6_unlike_l2 (nI s) J' f (nI j)) 48 (fun a b => ∃ v, a = some v ∧ b = some v ∧ (v = -1 ↔ ∀ i, i < 48 → I (39 + 2 * s) i = nI (if 0 < R i then 1 else 0))) (fun j _ _ => ∀ i, i < j → I (39 + 2 * s) i = nI (if 0 < R i then 1 else 0)) ?_ ?_ F 0 () () (by omega) (by omega) (fun i hi => absurd hi (Nat.not_lt_zero i))
  · intro f _ _ hall
    rw [X2_firstUnlike_l2, X6_unlike_l2, hz', if_pos (Int32.le_refl _), if_pos (show (48 : Int32) ≤ nI 48 by decide)]
    exact ⟨-1, rfl, rfl, fun _ => hall, fun _ => rfl⟩
  · intro f j _ _ hj48 hall
    rw [X2_firstUnlike_l2, X6_unlike_l2, hz', qS_has _ hj48]
    have hle := hl j hj48
    simp (disch := omega) only [pn_le, pn_ll, if_neg, px_ix, po_b, pj_j, pj_b, pn_al, pn_mr, nI_add, rM.1, dIm, qI0]
    rw [h6 j hj48, show 38 + 2 * s + 1 = 39 + 2 * s by omega, hI j]
    by_cases hr : 0 < R j
    · rw [if_neg (by rw [decide_eq_true hr]; decide), if_neg (show ¬ R j = 0 by omega)]
      by_cases hc : I (39 + 2 * s) j = 1
      · left
        refine ⟨(), (), fun i hi => ?_, by rw [if_pos hc], by rw [if_pos hc]⟩
        by_cases e : i = j
        · subst e; rw [hc, if_pos hr]; rfl
        · exact hall i (by omega)
      · right
        rw [if_neg hc, if_neg hc]
        refine ⟨_, rfl, rfl, fun hh => ?_, fun hh => ?_⟩
        · rw [pn_neg (by omega)] at hh; exact hh.elim
        · have := hh j hj48
          rw [if_pos hr] at this
          exact absurd this hc
    · rw [if_pos (by rw [decide_eq_false hr]), if_pos (show R j = 0 by omega)]
      by_cases hc : I (39 + 2 * s) j = 0
      · left
        refine ⟨(), (), fun i hi => ?_, by rw [if_pos hc], by rw [if_pos hc]⟩
        by_cases e : i = j
        · subst e; rw [hc, if_neg hr]; rfl
        · exact hall i (by omega)
      · right
        rw [if_neg hc, if_neg hc]
        refine ⟨_, rfl, rfl, fun hh => ?_, fun hh => ?_⟩
        · rw [pn_neg (by omega)] at hh; exact hh.elim
        · have := hh j hj48
          rw [if_neg hr] at this
          exact absurd this hc
theorem p_rag {I J : mh_I} (h : Rsheet I J) (a1 a2 a3 : Int32) : (∃ r, ¬ r = 0 ∧ X5_ragRefusal a1 a2 I = some r ∧ X6_ragWrong a1 a2 a3 J = some r) ∨ (∃ s c, s < 4 ∧ c < 48 ∧ a1 = nI s ∧ a2 = nI c ∧ X5_ragRefusal a1 a2 I = some 0 ∧ X6_ragWrong a1 a2 a3 J = (X6_isPull a3).bind (fun q3 => if q3 = 0 then some (-7 : Int32) else some (0 : Int32)) ∧ I (38 + 2 * s) 2 = nI 48) := by
  unfold X5_ragRefusal X6_ragWrong
  rcases p_sheet h a1 (n := 48) (by decide) with ⟨r, hr, h5, h6⟩ | ⟨s, hs, e, h5, h6, h7⟩
  · left
    have h5 : X5_sheetRefusal a1 (48 : Int32) I = some r := h5
    have h6 : X6_sheetWrong a1 (48 : Int32) J = some r := h6
    refine ⟨r, hr, ?_, ?_⟩
    · rw [h5, po_b, if_neg hr]
    · rw [h6, po_b, if_neg hr]
  · have h5 : X5_sheetRefusal a1 (48 : Int32) I = some 0 := h5
    have h6 : X6_sheetWrong a1 (48 : Int32) J = some 0 := h6
    rcases pa_loop a2 with ⟨g5, g6⟩ | ⟨c, hc, e2, g5, g6⟩
    · left
      refine ⟨-5, by decide, ?_, ?_⟩
      · rw [h5, po_b, if_pos rfl, g5, po_b, if_pos rfl]
      · rw [h6, po_b, if_pos rfl, g6, po_b, if_pos rfl]
    · right
      refine ⟨s, c, hs, hc, e, e2, ?_, ?_, h7⟩
      · rw [h5, po_b, if_pos rfl, g5, po_b, if_neg (by decide)]
      · rw [h6, po_b, if_pos rfl, g6, po_b, if_neg (by decide)]
theorem r_judge : RS_judge Rel := by
  intro T I L J a1 a2 a3 h
  unfold X5_judge X6_judge
  have hsh : Rsheet I J := h.2.2.2.1
  rcases p_rag hsh a1 a2 a3 with ⟨r, hr, h5, h6⟩ | ⟨s, c, hs, hc, rfl, rfl, h5, h6, hz⟩
  · simp only [h5, h6, po_b, hr, if_false]
    exact ⟨_, _, rfl, rfl, rfl, h⟩
  rcases pa_pull a3 with ⟨k5, k6⟩ | ⟨p, hp, rfl, k5, k6⟩
  · rw [h5, po_b, if_pos rfl, k5, po_b, if_pos rfl, h6, k6, po_b, if_pos rfl, po_b, if_neg (show ¬ (-7 : Int32) = 0 by decide)]
    exact ⟨_, _, rfl, rfl, rfl, h⟩
  obtain ⟨-, ⟨K, M, P, N, u, n, hc1, -⟩, -⟩ := id h
  obtain ⟨e, o, h2⟩ := R2_of hc1
  obtain ⟨I', L', d1, d2, d3, d4⟩ := pd_x h2 hc hp
  obtain ⟨J', e1, e2, e3⟩ := pd_m h2 hc hp
  obtain ⟨v, v1, v2, -⟩ := p_unl hsh hs hz d3 e3 d2 e2 (RR_le K P (rbf e o K M N) (c := c) hp)
  rw [h5, po_b, if_pos rfl, k5, po_b, if_neg (by decide), d1, po_b, px_ix hs (by decide), h6, k6, po_b, if_neg (by decide), po_b, if_pos rfl, e1, po_b, v2, po_b]
  dsimp only
  rw [v1, po_b]
  exact ⟨_, _, rfl, rfl, rfl, Rel_fr h d3 d4 e3⟩
theorem r_which : RS_which Rel := by
  intro T I L J a1 a2 h
  unfold X5_which X6_which
  have hsh : Rsheet I J := h.2.2.2.1
  rcases p_sheet hsh a1 (n := 48) (by decide) with ⟨r, hr, h5, h6⟩ | ⟨s, hs, rfl, h5, h6, hz⟩
  · have h5 : X5_sheetRefusal a1 (48 : Int32) I = some r := h5
    have h6 : X6_sheetWrong a1 (48 : Int32) J = some r := h6
    unfold X6_ragWrong
    simp only [h5, h6, po_b, hr, if_false]
    exact ⟨_, _, rfl, rfl, rfl, h⟩
  have h5 : X5_sheetRefusal (nI s) (48 : Int32) I = some 0 := h5
  have h6 : X6_ragWrong (nI s) (0 : Int32) a2 J = (X6_isPull a2).bind (fun q3 => if q3 = 0 then some (-7 : Int32) else some (0 : Int32)) := by
    have h6 : X6_sheetWrong (nI s) (48 : Int32) J = some 0 := h6
    have h0 : X6_isLoop (0 : Int32) = some 1 := by decide
    unfold X6_ragWrong
    rw [h6, po_b, if_pos rfl, h0, po_b, if_neg (by decide)]
  rcases pa_pull a2 with ⟨k5, k6⟩ | ⟨p, hp, rfl, k5, k6⟩
  · rw [h5, po_b, if_pos rfl, k5, po_b, if_pos rfl, h6, k6, po_b, if_pos rfl, po_b, if_neg (show ¬ (-7 : Int32) = 0 by decide)]
    exact ⟨_, _, rfl, rfl, rfl, h⟩
  obtain ⟨-, ⟨K, M, P, N, u, n, hc1, -⟩, -⟩ := id h
  obtain ⟨e, o, h2⟩ := R2_of hc1
  obtain ⟨F, hF, eF⟩ := fuel_ex
  rw [h5, po_b, if_pos rfl, k5, po_b, if_neg (by decide), h6, k6, po_b, if_neg (by decide), po_b, if_pos rfl, eF]
  refine pl_2 (fun f j (x : Int64 × mh_I × mh_L) => X5_which_l26 (nI s) (nI p) f x.1 (nI j) x.2.1 x.2.2) (fun f j (x : Int64 × mh_I) => X6_which_l19 (nI s) (nI p) f x.1 (nI j) x.2) 48 (fun a b => ∃ q r, a = some q ∧ b = some r ∧ q.1 = r.1 ∧ Rel T q.2.1 q.2.2 r.2) (fun j x y => x.1 = y.1 ∧ xx I x.2.1 ∧ ll L x.2.2 ∧ jj J y.2) ?_ ?_ F 0 (0, I, L) (0, J) (by omega) (by omega) ⟨rfl, xx_r I, ll_r L, jj_r J⟩
  · rintro f ⟨b, I1, L1⟩ ⟨b', J1⟩ ⟨h1, k1, k2, k3⟩
    dsimp only at h1 k1 k2 k3
    subst h1
    dsimp only
    rw [X5_which_l26, X6_which_l19, if_pos (show (48 : Int32) ≤ nI 48 by decide), if_pos (show (48 : Int32) ≤ nI 48 by decide)]
    exact ⟨_, _, rfl, rfl, rfl, Rel_fr h k1 k2 k3⟩
  · rintro f j ⟨b, I1, L1⟩ ⟨b', J1⟩ hj ⟨h1, k1, k2, k3⟩
    dsimp only at h1 k1 k2 k3
    subst h1
    left
    have h2' := R2_fr h2 k1 k2 k3
    obtain ⟨I', L', d1, d2, d3, d4⟩ := pd_x h2' hj hp
    obtain ⟨J', e1, e2, e3⟩ := pd_m h2' hj hp
    obtain ⟨v, v1, v2, -⟩ := p_unl hsh hs hz (xx_t k1 d3) (jj_t k3 e3) d2 e2 (RR_le K P (rbf e o K M N) (c := j) hp)
    dsimp only
    rw [X5_which_l26, X6_which_l19]
    simp (disch := omega) only [pn_ll, if_neg, d1, e1, po_b, px_ix, v1, v2, pj_j, pj_b, pn_al]
    by_cases hv : v = -1
    · refine ⟨(b ||| qS (fun i => decide (i = j)), I', L'), (b ||| qS (fun i => decide (i = j)), J'), ⟨rfl, xx_t k1 d3, ll_t k2 d4, jj_t k3 e3⟩, ?_, ?_⟩
      · rw [if_pos hv, qS_bit hj, po_b]
      · rw [if_pos hv, qS_sh hj]
    · refine ⟨(b, I', L'), (b, J'), ⟨rfl, xx_t k1 d3, ll_t k2 d4, jj_t k3 e3⟩, ?_, ?_⟩
      · rw [if_neg hv]
      · rw [if_neg hv, Int64.or_zero]
theorem Rel_sheet {T : Option Nat} {I x : mh_I} {L : mh_L} {J y : mh_I} {s : Nat} (hs : s < 4) (h' : Rel T I L J) (x1 : ∀ b k, b ≠ 38 + 2 * s → b ≠ 39 + 2 * s → x b k = I b k) (y3 : ∀ b k, ¬ (b = 9 ∧ k = s) → ¬ (b = 10 ∧ k = s) → ¬ (b = 11 ∧ 48 * s ≤ k ∧ k < 48 * s + 48) → y b k = J b k) (z1 : x (38 + 2 * s) 1 = -1 ∨ x (38 + 2 * s) 1 = 0 ∨ x (38 + 2 * s) 1 = 1 ∨ x (38 + 2 * s) 1 = 2) (z2 : y 9 s = x (38 + 2 * s) 1) (z3 : ∃ z, z ≤ 48 ∧ x (38 + 2 * s) 2 = nI z ∧ y 10 s = nI z) (z4 : ∀ i, i < 48 → y 11 (48 * s + i) = x (39 + 2 * s) i) : Rel T x L y := by
  obtain ⟨hT, ⟨K, M, P, N, u, n, m1, m2⟩, m3, m4, m5⟩ := h'
  refine ⟨hT, ⟨K, M, P, N, u, n, ?_, ?_⟩, ?_, ?_, fun k hk => (y3 13 k (by omega) (by omega) (by omega)).trans (m5 k hk)⟩
  · obtain ⟨⟨h1, h2, h3, h4, h5, h6, h7⟩, ⟨g1, g2, g3, g4, g5⟩, k1, k2, k3, k4, k5⟩ := m1
    exact ⟨⟨fun c hc => (x1 2 c (by omega) (by omega)).trans (h1 c hc), h2, fun c hc => (x1 3 c (by omega) (by omega)).trans (h3 c hc), h4, h5, h6, (x1 1 4 (by omega) (by omega)).trans h7⟩, ⟨fun c hc => (y3 1 c (by omega) (by omega) (by omega)).trans (g1 c hc), fun c hc => (y3 2 c (by omega) (by omega) (by omega)).trans (g2 c hc), fun c hc => (y3 3 c (by omega) (by omega) (by omega)).trans (g3 c hc), fun c hc => (y3 4 c (by omega) (by omega) (by omega)).trans (g4 c hc), (y3 0 9 (by omega) (by omega) (by omega)).trans g5⟩, k1, k2, (x1 0 5 (by omega) (by omega)).trans k3, (y3 0 8 (by omega) (by omega) (by omega)).trans k4, fun v hv => by
      obtain ⟨e, o, t1, t2, t3⟩ := k5 v hv
      exact ⟨e, o, t1, ⟨fun j hj => (x1 _ _ (by omega) (by omega)).trans (t2.1 j hj), fun q hq => (x1 _ _ (by omega) (by omega)).trans (t2.2 q hq)⟩, ⟨fun j hj => (y3 _ _ (by omega) (by omega) (by omega)).trans (t3.1 j hj), fun q hq => (y3 _ _ (by omega) (by omega) (by omega)).trans (t3.2 q hq)⟩⟩⟩
  · rcases m2 with ⟨h1, h2⟩ | ⟨h1, h2, K, M, P, N, u, ⟨a1, a2, a3, a4, a5, a6, a7⟩, b1, b2, b3⟩
    · exact .inl ⟨(x1 0 2 (by omega) (by omega)).trans h1, (y3 0 10 (by omega) (by omega) (by omega)).trans h2⟩
    · exact .inr ⟨(x1 0 2 (by omega) (by omega)).trans h1, (y3 0 10 (by omega) (by omega) (by omega)).trans h2, K, M, P, N, u, ⟨fun c hc => (x1 5 c (by omega) (by omega)).trans (a1 c hc), a2, fun c hc => (x1 6 c (by omega) (by omega)).trans (a3 c hc), a4, a5, a6, (x1 4 4 (by omega) (by omega)).trans a7⟩, fun c hc => ⟨(y3 8 _ (by omega) (by omega) (by omega)).trans (b1 c hc).1, (y3 8 _ (by omega) (by omega) (by omega)).trans (b1 c hc).2.1, (y3 8 _ (by omega) (by omega) (by omega)).trans (b1 c hc).2.2.1, (y3 8 _ (by omega) (by omega) (by omega)).trans (b1 c hc).2.2.2⟩, (y3 0 11 (by omega) (by omega) (by omega)).trans b2, b3⟩
  · obtain ⟨z, h1, h2, h3, h4⟩ := m3
    refine ⟨z, h1, (x1 7 1 (by omega) (by omega)).trans h2, (y3 0 5 (by omega) (by omega) (by omega)).trans h3, fun i hi => ?_⟩
    obtain ⟨b, g1, g2, g3⟩ := h4 i hi
    exact ⟨b, g1, (x1 8 i (by omega) (by omega)).trans g2, (y3 5 i (by omega) (by omega) (by omega)).trans g3⟩
  · intro s' hs'
    by_cases es : s' = s
    · subst es
      exact ⟨z1, z2, z3, z4⟩
    · obtain ⟨h1, h2, ⟨z, h3, h4, h5⟩, h6⟩ := m4 s' hs'
      have q1 := x1 (38 + 2 * s') 1 (by omega) (by omega)
      have q2 := x1 (38 + 2 * s') 2 (by omega) (by omega)
      refine ⟨by rw [q1]; exact h1, by rw [q1, y3 9 s' (by omega) (by omega) (by omega)]; exact h2, ⟨z, h3, q2.trans h4, (y3 10 s' (by omega) (by omega) (by omega)).trans h5⟩, fun i hi => by rw [y3 11 _ (by omega) (by omega) (by omega), x1 (39 + 2 * s') i (by omega) (by omega)]; exact h6 i hi⟩
theorem cx_become {s : Nat} (srt n : Int32) (I' : mh_I) : ∃ I2, X2_become (38 + 2 * s) srt n I' = some I2 ∧ I2 (38 + 2 * s) 1 = srt ∧ I2 (38 + 2 * s) 2 = n ∧ (∀ i, i < 48 → I2 (39 + 2 * s) i = 0) ∧ (∀ b k, b ≠ 38 + 2 * s → b ≠ 39 + 2 * s → I2 b k = I' b k) := by
  obtain ⟨F, hF, eF⟩ := fuel_ex
  unfold X2_become
  rw [eF]
  refine pl_up (fun f j (x : mh_I) => X2_become_l12 (38 + 2 * s) f j x) 48 (fun r => ∃ I2, r = some I2 ∧ I2 (38 + 2 * s) 1 = srt ∧ I2 (38 + 2 * s) 2 = n ∧ (∀ i, i < 48 → I2 (39 + 2 * s) i = 0) ∧ (∀ b k, b ≠ 38 + 2 * s → b ≠ 39 + 2 * s → I2 b k = I' b k)) (fun j x => x (38 + 2 * s) 1 = srt ∧ x (38 + 2 * s) 2 = n ∧ (∀ i, i < j → x (39 + 2 * s) i = 0) ∧ (∀ b k, b ≠ 38 + 2 * s → b ≠ 39 + 2 * s → x b k = I' b k)) ?_ ?_ F 0 _ (by omega) (by omega) ⟨by rw [pu_k (by decide), pu_s], by rw [pu_s], fun i hi => absurd hi (Nat.not_lt_zero i), fun b k hb _ => by rw [pu_a hb, pu_a hb]⟩
  · rintro f x hx
    refine ⟨x, ?_, hx⟩
    show X2_become_l12 (38 + 2 * s) (f + 1) (nI 48) x = _
    rw [X2_become_l12, if_pos (show (48 : Int32) ≤ nI 48 by decide)]
  · rintro f j x hj ⟨x1, x2, x3, x4⟩
    left
    refine ⟨mh_u x (39 + 2 * s) j 0, ⟨by rw [pu_a (by omega)]; exact x1, by rw [pu_a (by omega)]; exact x2, fun i hi => ?_, fun b k hb hb2 => by rw [pu_a (by omega), x4 b k hb hb2]⟩, ?_⟩
    · by_cases ei : i = j
      · subst ei; rw [pu_s]
      · rw [pu_k ei, x3 i (by omega)]
    · show X2_become_l12 (38 + 2 * s) (f + 1) (nI j) x = _
      rw [X2_become_l12, show 38 + 2 * s + 1 = 39 + 2 * s by omega]
      simp (disch := omega) only [pn_ll, if_neg, px_ix, pj_b, pn_al]
theorem cx_put2 {x : mh_I} {s j : Nat} (x2 : x (38 + 2 * s) 1 = 2) (hj : j < 48) (v : Int32) : X2_put (38 + 2 * s) (nI j) v x = some (mh_u x (39 + 2 * s) j v) := by
  unfold X2_put
  rw [x2, pj_j, if_neg (by decide), if_neg (by decide)]
  dsimp only
  rw [px_ix hj (by decide), sb_shl0, sb_shr0, show 38 + 2 * s + 1 = 39 + 2 * s by omega]
theorem r_film : RS_film Rel := by
  intro T I L J a1 a2 a3 h
  obtain ⟨F, hF, eF⟩ := fuel_ex
  unfold X5_film X6_film
  rw [eF]
  rcases pa_sheet a1 with ⟨h5, h6⟩ | ⟨s, hs, rfl, h5, h6⟩
  · simp only [h5, h6, po_b, if_true]
    exact ⟨_, _, rfl, rfl, rfl, h⟩
  rcases pa_loop a2 with ⟨g5, g6⟩ | ⟨c, hc, rfl, g5, g6⟩
  · simp only [h5, h6, g5, g6, po_b, if_true, pz_10, if_false]
    exact ⟨_, _, rfl, rfl, rfl, h⟩
  rcases pa_pull a3 with ⟨k5, k6⟩ | ⟨p, hp, rfl, k5, k6⟩
  · simp only [h5, h6, g5, g6, k5, k6, po_b, if_true, pz_10, if_false]
    exact ⟨_, _, rfl, rfl, rfl, h⟩
  obtain ⟨-, ⟨K, M, P, N, u, n, hc1, -⟩, -⟩ := id h
  obtain ⟨e, o, h2⟩ := R2_of hc1
  obtain ⟨I', L', d1, d2, d3, d4⟩ := pd_x h2 hc hp
  obtain ⟨J', e1, e2, e3⟩ := pd_m h2 hc hp
  have hl := RR_le K P (rbf e o K M N) (c := c) hp
  have h' := Rel_fr h d3 d4 e3
  simp only [h5, h6, g5, g6, k5, k6, po_b, pz_10, if_false, d1, e1, px_ix hs (show 4 < 2 ^ 31 by decide)]
  obtain ⟨I2, b1, b2, b3, -, b4⟩ := cx_become (s := s) (2 : Int32) (48 : Int32) I'
  simp only [b1, po_b]
  refine pl_2 (fun f j (x : mh_I) => X5_film_l52 (nI s) L' f (nI j) x) (fun f j (x : mh_I) => X6_film_l56 (nI s) f (nI j) x) 48 (fun a b => ∃ q r, a = some q ∧ b = some r ∧ q.1 = r.1 ∧ Rel T q.2.1 q.2.2 r.2) (fun j x y => (∀ b k, b ≠ 38 + 2 * s → b ≠ 39 + 2 * s → x b k = I' b k) ∧ x (38 + 2 * s) 1 = 2 ∧ x (38 + 2 * s) 2 = 48 ∧ (∀ i, i < j → x (39 + 2 * s) i = y 11 (48 * s + i)) ∧ y 9 s = 2 ∧ y 10 s = 48 ∧ (∀ b k, ¬ (b = 9 ∧ k = s) → ¬ (b = 10 ∧ k = s) → ¬ (b = 11 ∧ 48 * s ≤ k ∧ k < 48 * s + 48) → y b k = J' b k)) ?_ ?_ F 0 I2 (mh_u (mh_u J' 9 s (2 : Int32)) 10 s (48 : Int32)) (by omega) (by omega) ⟨b4, b2, b3, fun i hi => absurd hi (Nat.not_lt_zero i), by rw [pu_a (by decide), pu_s], by rw [pu_s], fun b k n1 n2 _ => ?_⟩
  · rintro f x y ⟨x1, x2, x3, x4, y1, y2, y3⟩
    rw [X5_film_l52, X6_film_l56, if_pos (show (48 : Int32) ≤ nI 48 by decide), if_pos (show (48 : Int32) ≤ nI 48 by decide)]
    exact ⟨_, _, rfl, rfl, rfl, Rel_sheet hs h' x1 y3 (.inr (.inr (.inr x2))) (y1.trans x2.symm) ⟨48, by decide, x3, y2⟩ (fun i hi => (x4 i hi).symm)⟩
  · rintro f j x y hj ⟨x1, x2, x3, x4, y1, y2, y3⟩
    left
    have hle := hl j hj
    refine ⟨mh_u x (39 + 2 * s) j (nI (if 0 < RR K P (rbf e o K M N) c p j then 1 else 0)), mh_u y 11 (48 * s + j) (nI (if 0 < RR K P (rbf e o K M N) c p j then 1 else 0)), ⟨fun b k n1 n2 => by rw [pu_a n2, x1 b k n1 n2], by rw [pu_a (by omega)]; exact x2, by rw [pu_a (by omega)]; exact x3, fun i hi => ?_, by rw [pu_a (by decide)]; exact y1, by rw [pu_a (by decide)]; exact y2, fun b k n1 n2 n3 => ?_⟩, ?_, ?_⟩
    · by_cases ei : i = j
      · subst ei; rw [pu_s, pu_s]
      · rw [pu_k ei, pu_k (by omega), x4 i (by omega)]
    · by_cases eb : b = 11
      · rw [pu_k (by omega), y3 b k n1 n2 n3]
      · rw [pu_a eb, y3 b k n1 n2 n3]
    · rw [X5_film_l52, d2.2.1, qS_has _ hj]
      simp (disch := omega) only [pn_ll, if_neg, px_ix, po_b, pj_j, pj_b, qI0, pn_al, cx_put2 x2 hj]
      by_cases hr : 0 < RR K P (rbf e o K M N) c p j
      · rw [if_neg (by rw [decide_eq_true hr]; decide), if_pos hr]
        rfl
      · rw [if_pos (by rw [decide_eq_false hr]), if_neg hr]
        rfl
    · rw [X6_film_l56]
      simp (disch := omega) only [pn_ll, if_neg, px_ix, pj_j, pj_b, pn_al, pn_mr, nI_add]
      rw [y3 17 j (by omega) (by omega) (by omega), e2.1 j hj]
      simp (disch := omega) only [dIm]
      by_cases hr : 0 < RR K P (rbf e o K M N) c p j
      · rw [if_neg (by omega), if_pos hr]
        rfl
      · rw [if_pos (by omega), if_neg hr]
        rfl
  · by_cases e9 : b = 9
    · rw [pu_a (by omega), pu_k (fun hk => n1 ⟨e9, hk⟩)]
    · by_cases e10 : b = 10
      · rw [pu_k (fun hk => n2 ⟨e10, hk⟩), pu_a e9]
      · rw [pu_a e10, pu_a e9]
