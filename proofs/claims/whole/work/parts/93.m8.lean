/-! PURE: the law, loops -/
theorem p_many {J : mh_I} {P N : Nat → Bool} (h3 : ∀ c, c < 48 → J 3 c = nI (qb P c)) (h4 : ∀ c, c < 48 → J 4 c = nI (qb N c)) : X6_manyIn 0 J = some (nI (qC P 48)) ∧ X6_manyIn 1 J = some (nI (qC N 48)) := by
  obtain ⟨F, hF, eF⟩ := fuel_ex
  have key : ∀ (w : Int32) (Q : Nat → Bool), (∀ c f s, c < 48 → X6_manyIn_l4 w J (f + 1) s (nI c) = X6_manyIn_l4 w J f (s + nI (qb Q c)) (nI (c + 1))) → X6_manyIn w J = some (nI (qC Q 48)) := by
    intro w Q hQ
    unfold X6_manyIn
    rw [eF]
    refine pl_up (fun f j s => X6_manyIn_l4 w J f s j) 48 (fun r => r = some (nI (qC Q 48))) (fun j s => s = nI (qC Q j)) ?_ ?_ F 0 0 (by omega) (by omega) rfl
    · intro f s hs
      show X6_manyIn_l4 w J (f + 1) s (nI 48) = _
      rw [X6_manyIn_l4, if_pos (by decide), hs]
    · intro f j s hj hs
      left
      refine ⟨_, rfl, ?_⟩
      show X6_manyIn_l4 w J (f + 1) s (nI j) = _
      rw [hQ j f s hj, hs, nI_add]
      rfl
  constructor
  · refine key 0 P (fun c f s hc => ?_)
    rw [X6_manyIn_l4]
    simp (disch := omega) only [pn_ll, if_neg, px_ix, pj_j, pj_b, pn_al, if_true, h3]
  · refine key 1 N (fun c f s hc => ?_)
    rw [X6_manyIn_l4]
    simp (disch := omega) only [pn_ll, if_neg, px_ix, pj_j, pj_b, pn_al, pz_10, if_false, h4]
theorem r_count : RS_count Rel := by
  intro T I L J a1 h
  obtain ⟨-, ⟨K, M, P, N, u, n, hc1, -⟩, ⟨z, -, t1, t2, -⟩, -⟩ := id h
  obtain ⟨⟨h1, h2, h3, h4, h5, h6, h7⟩, ⟨g1, g2, g3, g4, g5⟩, k1, k2, k3, k4, k5⟩ := hc1
  obtain ⟨m0, m1⟩ := p_many g3 g4
  unfold X5_count X6_count
  rw [pj_j, h5, h6, qS_bitCount, qS_bitCount, po_b, po_b]
  by_cases e0 : a1 = 0
  · subst e0
    rw [if_pos rfl, if_pos rfl, m0, po_b]
    exact ⟨_, _, rfl, rfl, rfl, h⟩
  · rw [if_neg e0, if_neg e0]
    by_cases e1 : a1 = 1
    · subst e1
      rw [if_pos rfl, if_pos rfl, m1, po_b]
      exact ⟨_, _, rfl, rfl, rfl, h⟩
    · rw [if_neg e1, if_neg e1]
      by_cases e2 : a1 = 2
      · rw [if_pos e2, if_pos e2]
        exact ⟨_, _, rfl, rfl, k3.trans k4.symm, h⟩
      · rw [if_neg e2, if_neg e2]
        by_cases e3 : a1 = 3
        · rw [if_pos e3, if_pos e3]
          exact ⟨_, _, rfl, rfl, h7.trans g5.symm, h⟩
        · rw [if_neg e3, if_neg e3]
          by_cases e4 : a1 = 4
          · rw [if_pos e4, if_pos e4]
            exact ⟨_, _, rfl, rfl, t1.trans t2.symm, h⟩
          · rw [if_neg e4, if_neg e4]
            exact ⟨_, _, rfl, rfl, rfl, h⟩
theorem r_force : RS_force Rel := by
  intro T I L J a1 h
  obtain ⟨hT, ⟨K, M, P, N, u, n, hc1, hc2⟩, m3, m4, m5⟩ := id h
  obtain ⟨⟨h1, h2, h3, h4, h5, h6, h7⟩, ⟨g1, g2, g3, g4, g5⟩, k1, k2, k3, k4, k5⟩ := hc1
  unfold X5_force X6_force
  rw [k3, k4]
  simp (disch := omega) only [pn_sl]
  rcases pa_rng a1 (nI (n - 1)) (n := n - 1) (nI_toInt (by omega)) with ⟨e5, e6, -⟩ | ⟨c, hc, rfl, e5, e6⟩
  · simp only [e5, e6, po_b, if_true]
    exact ⟨_, _, rfl, rfl, rfl, h⟩
  · simp only [e5, e6, po_b, pz_10, if_false, pj_b]
    exact ⟨_, _, rfl, rfl, h7.trans g5.symm, Rel_core (K' := K) (M' := M) (P' := P) (N' := N) (u' := c) h (I' := mh_u I 1 4 (nI c)) (J' := mh_u J 0 9 (nI c)) (fun b k hb => if_neg (by omega)) (fun _ _ _ => rfl) (fun b k hb => if_neg (by omega)) (fun n' hn' he => by
      have := (nI_eq (by omega) (by omega)).mp (k3.symm.trans he)
      omega) ⟨fun i hi => by rw [pu_a (by decide)]; exact h1 i hi, h2, fun i hi => by rw [pu_a (by decide)]; exact h3 i hi, h4, h5, h6, pu_s _ _ _ _⟩ ⟨fun i hi => by rw [pu_a (by decide)]; exact g1 i hi, fun i hi => by rw [pu_a (by decide)]; exact g2 i hi, fun i hi => by rw [pu_a (by decide)]; exact g3 i hi, fun i hi => by rw [pu_a (by decide)]; exact g4 i hi, pu_s _ _ _ _⟩⟩
theorem r_asks : RS_asks Rel := by
  intro T I L J a1 a2 a3 h
  unfold X5_asks X6_asks
  rcases pa_loop a2 with ⟨h5, h6⟩ | ⟨c, hc, rfl, h5, h6⟩
  · simp only [h5, h6, po_b, if_true]
    exact ⟨_, _, rfl, rfl, rfl, h⟩
  rcases pa_rng a1 2 (n := 2) (by decide) with ⟨g5, g6, -⟩ | ⟨q, hq, rfl, g5, g6⟩
  · simp only [h5, h6, g5, g6, po_b, if_true, pz_10, if_false]
    exact ⟨_, _, rfl, rfl, rfl, h⟩
  rcases pa_pull a3 with ⟨k5, k6⟩ | ⟨p, hp, rfl, k5, k6⟩
  · simp only [h5, h6, g5, g6, k5, k6, po_b, if_true, pz_10, if_false]
    exact ⟨_, _, rfl, rfl, rfl, h⟩
  obtain ⟨-, ⟨K, M, P, N, u, n, hc1, -⟩, -⟩ := id h
  obtain ⟨e, o, h2⟩ := R2_of hc1
  obtain ⟨⟨h1, h2', h3, h4, h5', h6', h7, h8, h9⟩, ⟨g1, g2, g3, g4, g5', g6', g7, g8, g9, g10⟩, k⟩ := id h2
  obtain ⟨I2, a1, a2⟩ := cx_says (a := 14 + 4 * u) (m := p) (I := I) (L := L) (q := q) (by omega) h8 h9 hc (h1 c hc) (h2' c hc) (h3 c hc) h6' (by omega)
  obtain ⟨J2, b1, b2⟩ := cm_asks (m := p) (J := J) (q := q) g7 (by omega) hc g8 g9 g10 (g1 c hc) (g2 c hc) (g3 c hc) (g6' c hc)
  simp only [h5, h6, g5, g6, k5, k6, po_b, pz_10, if_false, X5_law_ok k h7, a1, b1]
  exact ⟨_, _, rfl, rfl, rfl, Rel_fr h (xx_s h7 a2) (ll_r L) (jj_16 b2)⟩
/-- one loop becomes another, in both -/
theorem Rel_knit {T : Option Nat} {I : mh_I} {L : mh_L} {J : mh_I} {c k m : Nat} (h : Rel T I L J) (hk : k < 6) (hm : m < 10) : Rel T (mh_u (mh_u I 2 c (nI k)) 3 c (nI m)) L (mh_u (mh_u J 1 c (nI k)) 2 c (nI m)) := by
  obtain ⟨-, ⟨K, M, P, N, u, n, hc1, -⟩, -⟩ := id h
  obtain ⟨⟨h1, h2, h3, h4, h5, h6, h7⟩, ⟨g1, g2, g3, g4, g5⟩, k1, k2, k3, k4, k5⟩ := hc1
  refine Rel_core (K' := fun i => if i = c then k else K i) (M' := fun i => if i = c then m else M i) (P' := P) (N' := N) (u' := u) h (fun b i hb => by rw [pu_a (by omega), pu_a (by omega)]) (fun _ _ _ => rfl) (fun b i hb => by rw [pu_a (by omega), pu_a (by omega)]) (fun n' hn' he => by
    have := (nI_eq (by omega) (by omega)).mp (k3.symm.trans he)
    omega) ⟨fun i hi => ?_, fun i hi => ?_, fun i hi => ?_, fun i hi => ?_, h5, h6, by rw [pu_a (by decide), pu_a (by decide)]; exact h7⟩ ⟨fun i hi => ?_, fun i hi => ?_, fun i hi => by rw [pu_a (by decide), pu_a (by decide)]; exact g3 i hi, fun i hi => by rw [pu_a (by decide), pu_a (by decide)]; exact g4 i hi, by rw [pu_a (by decide), pu_a (by decide)]; exact g5⟩
  · rw [pu_a (by decide)]
    by_cases e : i = c
    · subst e; rw [pu_s]; dsimp only; rw [if_pos rfl]
    · rw [pu_k e]; dsimp only; rw [if_neg e, h1 i hi]
  · dsimp only
    split
    · exact hk
    · exact h2 i hi
  · by_cases e : i = c
    · subst e; rw [pu_s]; dsimp only; rw [if_pos rfl]
    · rw [pu_k e, pu_a (by decide)]; dsimp only; rw [if_neg e, h3 i hi]
  · dsimp only
    split
    · exact hm
    · exact h4 i hi
  · rw [pu_a (by decide)]
    by_cases e : i = c
    · subst e; rw [pu_s]; dsimp only; rw [if_pos rfl]
    · rw [pu_k e]; dsimp only; rw [if_neg e, g1 i hi]
  · by_cases e : i = c
    · subst e; rw [pu_s]; dsimp only; rw [if_pos rfl]
    · rw [pu_k e, pu_a (by decide)]; dsimp only; rw [if_neg e, g2 i hi]
theorem p_kind {T : Option Nat} {I : mh_I} {L : mh_L} {J : mh_I} (h : Rel T I L J) {c : Nat} (hc : c < 48) : ∃ k m, k < 6 ∧ m < 10 ∧ I 2 c = nI k ∧ J 1 c = nI k ∧ I 3 c = nI m ∧ J 2 c = nI m := by
  obtain ⟨-, ⟨K, M, P, N, u, n, ⟨⟨h1, h2, h3, h4, -⟩, ⟨g1, g2, -⟩, -⟩, -⟩, -⟩ := h
  exact ⟨K c, M c, h2 c hc, h4 c hc, h1 c hc, g1 c hc, h3 c hc, g2 c hc⟩
theorem p_become {I : mh_I} {c : Nat} (hc : c < 48) (v w : Int32) : X1_become 1 (nI c) v w I = some (mh_u (mh_u I 2 c v) 3 c w) := by
  unfold X1_become
  rw [px_ix hc (by decide), px_ix hc (by decide)]
theorem p_knit6 {J : mh_I} {c k m : Nat} (hc : c < 48) (hk : k < 6) (hm : m < 10) : X6_knit (nI c) (nI k) (nI m) J = some (J 1 c, mh_u (mh_u J 1 c (nI k)) 2 c (nI m)) := by
  unfold X6_knit
  have e1 : X6_isLoop (nI c) = some 1 := by
    rcases pa_loop (nI c) with ⟨-, e⟩ | ⟨c', -, -, -, e⟩
    · unfold X6_isLoop at e ⊢
      rw [pm_in, po_b] at e ⊢
      rw [pI, if_pos ⟨nI_pos' (by omega), nI_le (b := 47) (by omega) (by decide)⟩]
    · exact e
  have e2 : X6_isKnit (nI k) (nI m) = some 1 := by
    unfold X6_isKnit
    have q1 : X6_in (nI k) 0 5 = some 1 := by rw [pm_in, pI, if_pos ⟨nI_pos' (by omega), nI_le (b := 5) (by omega) (by decide)⟩]
    have q2 : X6_in (nI m) 0 9 = some 1 := by rw [pm_in, pI, if_pos ⟨nI_pos' (by omega), nI_le (b := 9) (by omega) (by decide)⟩]
    rw [q1, po_b, if_neg (by decide), q2, po_b, if_neg (by decide)]
  rw [e1, po_b, if_neg (by decide), e2, po_b, if_neg (by decide), px_ix hc (by decide), pj_b, px_ix hc (by decide), px_ix hc (by decide)]
theorem r_knit : RS_knit Rel := by
  intro T I L J a1 a2 a3 h
  rcases pa_loop a1 with ⟨h5, h6⟩ | ⟨c, hc, rfl, h5, h6⟩
  · unfold X5_knit X6_knit
    simp only [h5, h6, po_b, if_true]
    exact ⟨_, _, rfl, rfl, rfl, h⟩
  rcases pa_knit a2 a3 with ⟨g5, g6⟩ | ⟨k, m, hk, hm, rfl, rfl, g5, g6⟩
  · unfold X5_knit X6_knit
    simp only [h5, h6, g5, g6, po_b, if_true, pz_10, if_false]
    exact ⟨_, _, rfl, rfl, rfl, h⟩
  obtain ⟨k0, m0, -, -, e1, e2, -, -⟩ := p_kind h hc
  rw [p_knit6 hc hk hm]
  unfold X5_knit
  simp only [h5, g5, po_b, pz_10, if_false, px_ix hc (show 48 < 2 ^ 31 by decide), pj_b, p_become hc]
  exact ⟨_, _, rfl, rfl, e1.trans e2.symm, Rel_knit h hk hm⟩
theorem r_row : RS_row Rel := by
  intro T I L J a1 a2 a3 h
  obtain ⟨F, hF, eF⟩ := fuel_ex
  unfold X5_row X6_row
  rw [eF]
  rcases pa_row a1 with ⟨h5, h6⟩ | ⟨r, hr, rfl, h5, h6⟩
  · simp only [h5, h6, po_b, if_true]
    exact ⟨_, _, rfl, rfl, rfl, h⟩
  rcases pa_knit a2 a3 with ⟨g5, g6⟩ | ⟨k, m, hk, hm, rfl, rfl, g5, g6⟩
  · simp only [h5, h6, g5, g6, po_b, if_true, pz_10, if_false]
    exact ⟨_, _, rfl, rfl, rfl, h⟩
  simp only [h5, h6, g5, g6, po_b, pz_10, if_false, pj_b, pn_mr]
  refine pl_2 (fun f j (x : Int32 × mh_I) => X5_row_l27 (nI r) (nI k) (nI m) f x.1 (nI j) x.2) (fun f j (y : Int32 × mh_I) => X6_row_l33 (nI r) (nI k) (nI m) f y.1 (nI (6 * r + j)) y.2) 6 (fun a b => ∃ q r, a = some q ∧ b = some r ∧ q.1 = r.1 ∧ Rel T q.2 L r.2) (fun j x y => x.1 = y.1 ∧ Rel T x.2 L y.2) ?_ ?_ F 0 (0, I) (0, J) (by omega) (by omega) ⟨rfl, h⟩
  · rintro f ⟨v, I1⟩ ⟨v', J1⟩ ⟨e1, e2⟩
    dsimp only at e1 e2
    subst e1
    dsimp only
    rw [X5_row_l27, X6_row_l33, if_pos (by decide)]
    simp (disch := omega) only [pn_mr, pn_al, pn_le, if_pos]
    exact ⟨_, _, rfl, rfl, rfl, e2⟩
  · rintro f j ⟨v, I1⟩ ⟨v', J1⟩ hj ⟨e1, e2⟩
    dsimp only at e1 e2
    subst e1
    left
    obtain ⟨k0, m0, hk0, -, e3, e4, -, -⟩ := p_kind e2 (show 6 * r + j < 48 by omega)
    have hcj : 6 * r + j < 48 := by omega
    dsimp only
    rw [X5_row_l27, X6_row_l33]
    simp (disch := omega) only [pn_ll, if_neg, pn_ml, pn_mr, pn_al, nI_add, pn_le, pj_b, pj_j]
    rw [show r * 6 + j = 6 * r + j by omega, px_ix hcj (by decide)]
    simp only [p_become hcj, po_b, p_knit6 hcj hk hm, e3, e4]
    by_cases hkk : nI k0 = nI k
    · refine ⟨(v, mh_u (mh_u I1 2 (6 * r + j) (nI k)) 3 (6 * r + j) (nI m)), (v, mh_u (mh_u J1 1 (6 * r + j) (nI k)) 2 (6 * r + j) (nI m)), ⟨rfl, Rel_knit (c := 6 * r + j) e2 hk hm⟩, ?_, ?_⟩
      · rw [if_pos hkk]
      · dsimp only
        rw [if_pos hkk, Int32.add_zero]
        rfl
    · refine ⟨(v + 1, mh_u (mh_u I1 2 (6 * r + j) (nI k)) 3 (6 * r + j) (nI m)), (v + 1, mh_u (mh_u J1 1 (6 * r + j) (nI k)) 2 (6 * r + j) (nI m)), ⟨rfl, Rel_knit (c := 6 * r + j) e2 hk hm⟩, ?_, ?_⟩
      · rw [if_neg hkk]
      · dsimp only
        rw [if_neg hkk]
        rfl
